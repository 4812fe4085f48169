/-! by program (wip/whole/gen_law.py): the law from its loop on -/
section LLW
variable {p : Program} {l : Launch} {e : Env} {s : State} {m : MethodId} {below : List Frame} {meth : Method} {c : Code} {E : gE}
def f_L_law_b1598 (fu : Nat) (xs : Nat → Int32) (L : Nat) (k23 : (Nat → Int64) → gSt → Int32 → Option Int32) (w : Nat → Int64) (σ : gSt) (x4 : Int32) : Option Int32 :=
  k23 w σ (x4 + (3))
set_option maxRecDepth 100000 in
theorem t_L_law_b1598 {fu b L : Nat} {xs : Nat → Int32} {k23 : (Nat → Int64) → gSt → Int32 → Option Int32} (hC : gCx p s m #[Value.ref b] meth c cL_law 7 RL (some .boolean) E) (hN : gN s) (hB : gS s E b L xs) (hB2 : s.heap.size ≤ eB E) (hflag : l.stackTraces = false) {ce sl : Nat} (hce : ce + 4 ≤ room_1.cells) (hsl : sl + 24 ≤ room_1.slots) (hk23 : ∀ (w : Nat → Int64) (σ : gSt) (x4 : Int32), k23 w σ x4 = some 1 → G p l e room_1 s m #[Value.ref b] below meth c 7 (ce + 4) (sl + 24) (lw_Z below #[Value.ref b] s) E w σ 23 [(0, .ref b), (1, .ref (eB E + 0)), (2, .ref (eB E + 583)), (3, .ref (eB E + 605)), (4, .int x4)] []) {w : Nat → Int64} {σ : gSt} {x4 : Int32} (hf : f_L_law_b1598 fu xs L k23 w σ x4 = some 1) : G p l e room_1 s m #[Value.ref b] below meth c 7 (ce + 4) (sl + 24) (lw_Z below #[Value.ref b] s) E w σ 1598 [(0, .ref b), (1, .ref (eB E + 0)), (2, .ref (eB E + 583)), (3, .ref (eB E + 605)), (4, .int x4)] [] := by
  unfold f_L_law_b1598 at hf
  refine G_iinc (q := 1601) (n := 4) (lv' := [(4, .int (x4 + (3))), (0, .ref b), (1, .ref (eB E + 0)), (2, .ref (eB E + 583)), (3, .ref (eB E + 605))]) hC dL_law_1598 rfl rfl (ii3 _) (by decide) rfl ?_
  refine G_goto (tgt := 23) hC dL_law_1601 (by decide) ?_
  refine G_lv (lv' := [(0, .ref b), (1, .ref (eB E + 0)), (2, .ref (eB E + 583)), (3, .ref (eB E + 605)), (4, .int (x4 + (3)))]) [1, 2, 3, 4, 0] rfl ?_
  exact hk23 _ _ _ hf

def f_L_law_b211 (fu : Nat) (xs : Nat → Int32) (L : Nat) (k23 : (Nat → Int64) → gSt → Int32 → Option Int32) (w : Nat → Int64) (σ : gSt) (x4 : Int32) : Option Int32 :=
  f_L_law_b1598 fu xs L k23 w σ x4
set_option maxRecDepth 100000 in
theorem t_L_law_b211 {fu b L : Nat} {xs : Nat → Int32} {k23 : (Nat → Int64) → gSt → Int32 → Option Int32} (hC : gCx p s m #[Value.ref b] meth c cL_law 7 RL (some .boolean) E) (hN : gN s) (hB : gS s E b L xs) (hB2 : s.heap.size ≤ eB E) (hflag : l.stackTraces = false) {ce sl : Nat} (hce : ce + 4 ≤ room_1.cells) (hsl : sl + 24 ≤ room_1.slots) (hk23 : ∀ (w : Nat → Int64) (σ : gSt) (x4 : Int32), k23 w σ x4 = some 1 → G p l e room_1 s m #[Value.ref b] below meth c 7 (ce + 4) (sl + 24) (lw_Z below #[Value.ref b] s) E w σ 23 [(0, .ref b), (1, .ref (eB E + 0)), (2, .ref (eB E + 583)), (3, .ref (eB E + 605)), (4, .int x4)] []) {w : Nat → Int64} {σ : gSt} {x4 : Int32} (hf : f_L_law_b211 fu xs L k23 w σ x4 = some 1) : G p l e room_1 s m #[Value.ref b] below meth c 7 (ce + 4) (sl + 24) (lw_Z below #[Value.ref b] s) E w σ 211 [(0, .ref b), (1, .ref (eB E + 0)), (2, .ref (eB E + 583)), (3, .ref (eB E + 605)), (4, .int x4)] [] := by
  unfold f_L_law_b211 at hf
  refine G_goto (tgt := 1598) hC dL_law_211 (by decide) ?_
  exact t_L_law_b1598 hC hN hB hB2 hflag hce hsl hk23 hf

def f_L_law_b156 (fu : Nat) (xs : Nat → Int32) (L : Nat) (k23 : (Nat → Int64) → gSt → Int32 → Option Int32) (w : Nat → Int64) (σ : gSt) (x4 : Int32) : Option Int32 :=
  gd (inb (x4 + (1 : Int32)) L) (bL (f_L_sign fu w σ ((((xs (x4 + (1 : Int32)).toNatClampNeg)).toUInt32 % 65536).toInt32)) (fun v1 w1 σ1 => gd (inb (x4 + (1 : Int32)) L) (bd (f_X7_sign fu σ1 ((((xs (x4 + (1 : Int32)).toNatClampNeg)).toUInt32 % 65536).toInt32)) (fun v2 σ2 => bd (f_X7_thrown fu σ2 ) (fun v3 σ3 => if v3 = v1 then (if v1 = 0 then (if (lg_cmp (w1 0) ((v2).toInt64)) = 0 then (f_L_law_b211 fu xs L k23 w1 σ3 x4) else (some 0)) else (f_L_law_b211 fu xs L k23 w1 σ3 x4)) else (some 0))))))
set_option maxRecDepth 100000 in
theorem t_L_law_b156 {fu b L : Nat} {xs : Nat → Int32} {k23 : (Nat → Int64) → gSt → Int32 → Option Int32} (hC : gCx p s m #[Value.ref b] meth c cL_law 7 RL (some .boolean) E) (hN : gN s) (hB : gS s E b L xs) (hB2 : s.heap.size ≤ eB E) (hflag : l.stackTraces = false) {ce sl : Nat} (hce : ce + 4 ≤ room_1.cells) (hsl : sl + 24 ≤ room_1.slots) (hk23 : ∀ (w : Nat → Int64) (σ : gSt) (x4 : Int32), k23 w σ x4 = some 1 → G p l e room_1 s m #[Value.ref b] below meth c 7 (ce + 4) (sl + 24) (lw_Z below #[Value.ref b] s) E w σ 23 [(0, .ref b), (1, .ref (eB E + 0)), (2, .ref (eB E + 583)), (3, .ref (eB E + 605)), (4, .int x4)] []) {w : Nat → Int64} {σ : gSt} {x4 : Int32} (hf : f_L_law_b156 fu xs L k23 w σ x4 = some 1) : G p l e room_1 s m #[Value.ref b] below meth c 7 ce sl (lw_Z below #[Value.ref b] s) E w σ 156 [(0, .ref b), (1, .ref (eB E + 0)), (2, .ref (eB E + 583)), (3, .ref (eB E + 605)), (4, .int x4)] [] := by
  unfold f_L_law_b156 at hf
  refine G_aload_n (q := 157) hC dL_law_156 rfl rfl ?_
  refine G_aload_n (q := 158) hC dL_law_157 rfl rfl ?_
  refine G_iload (q := 160) hC dL_law_158 rfl rfl ?_
  refine G_iconst (q := 161) hC dL_law_160 rfl ic_1 ?_
  refine G_iadd (q := 162) hC dL_law_161 rfl ?_
  obtain ⟨g1, hf⟩ := gd_ok hf
  refine G_sld (q := 163) hC dL_law_162 rfl hB g1 ?_
  refine G_i2c (q := 164) hC dL_law_163 rfl rfl ?_
  refine G_aload_n (q := 165) hC dL_law_164 rfl rfl ?_
  obtain ⟨v1, w1, σ1, hm1, hf⟩ := bL_ok hf
  refine G_callL (q := 168) (n := 3) (As := [.ref (eB E + 0), .int (((xs (x4 + (1 : Int32)).toNatClampNeg)).toUInt32 % 65536).toInt32, .ref (eB E + 605)]) (st := []) hC hN dL_law_165 rfl (m_L_sign hflag hm1) (wall (by decide +kernel) rfl) (wall (by decide +kernel) rfl) (wall (by decide +kernel) rfl) (wall (by decide +kernel) rfl) rfl ⟨by decide +kernel, by decide +kernel, by decide +kernel⟩ ⟨Nat.le_of_ble_eq_true rfl, Nat.le_of_ble_eq_true rfl⟩ (Nat.le_of_ble_eq_true rfl) ⟨Nat.le_trans (Nat.add_le_add_left (Nat.le_of_ble_eq_true rfl) _) hce, Nat.le_trans (Nat.add_le_add_left (Nat.le_of_ble_eq_true rfl) _) hsl⟩ ?_
  refine G_widen (k := ce + 4) (n := sl + 24) (Nat.add_le_add_left (Nat.le_of_ble_eq_true rfl) _) (Nat.add_le_add_left (Nat.le_of_ble_eq_true rfl) _) ?_
  refine G_istore (q := 170) (lv' := [(5, .int v1), (0, .ref b), (1, .ref (eB E + 0)), (2, .ref (eB E + 583)), (3, .ref (eB E + 605)), (4, .int x4)]) hC dL_law_168 rfl (by decide) rfl ?_
  refine G_aload_n (q := 171) hC dL_law_170 rfl rfl ?_
  refine G_aload_n (q := 172) hC dL_law_171 rfl rfl ?_
  refine G_iload (q := 174) hC dL_law_172 rfl rfl ?_
  refine G_iconst (q := 175) hC dL_law_174 rfl ic_1 ?_
  refine G_iadd (q := 176) hC dL_law_175 rfl ?_
  obtain ⟨g2, hf⟩ := gd_ok hf
  refine G_sld (q := 177) hC dL_law_176 rfl hB g2 ?_
  refine G_i2c (q := 178) hC dL_law_177 rfl rfl ?_
  obtain ⟨v2, σ2, hm2, hf⟩ := bd_ok hf
  refine cl_RL_92 (q := 181) hC dL_law_178 rfl (m_X7_sign hm2) ⟨Nat.le_of_ble_eq_true rfl, Nat.le_of_ble_eq_true rfl⟩ (Nat.le_of_ble_eq_true rfl) ⟨hce, hsl⟩ ?_
  refine G_istore (q := 183) (lv' := [(6, .int v2), (5, .int v1), (0, .ref b), (1, .ref (eB E + 0)), (2, .ref (eB E + 583)), (3, .ref (eB E + 605)), (4, .int x4)]) hC dL_law_181 rfl (by decide) rfl ?_
  refine G_aload_n (q := 184) hC dL_law_183 rfl rfl ?_
  obtain ⟨v3, σ3, hm3, hf⟩ := bd_ok hf
  refine cl_RL_93 (q := 187) hC dL_law_184 rfl (m_X7_thrown hm3) ⟨Nat.le_of_ble_eq_true rfl, Nat.le_of_ble_eq_true rfl⟩ (Nat.le_of_ble_eq_true rfl) ⟨hce, hsl⟩ ?_
  refine G_iload (q := 189) hC dL_law_187 rfl rfl ?_
  refine G_icmp_eq (tgt := 194) (q := 192) hC dL_law_189 (by decide) rfl (fun c4 => ?_) (fun c4 => ?_)
  · have hf := (if_pos c4).symm.trans hf
    refine G_iload (q := 196) hC dL_law_194 rfl rfl ?_
    refine G_if_ne (tgt := 211) (q := 199) hC dL_law_196 (by decide) rfl (fun c5 => ?_) (fun c5 => ?_)
    · have hf := (if_neg c5).symm.trans hf
      refine G_lv (lv' := [(0, .ref b), (1, .ref (eB E + 0)), (2, .ref (eB E + 583)), (3, .ref (eB E + 605)), (4, .int x4)]) [2, 3, 4, 5, 6] rfl ?_
      exact t_L_law_b211 hC hN hB hB2 hflag hce hsl hk23 hf
    · have hf := (if_pos c5).symm.trans hf
      refine G_aload_n (q := 200) hC dL_law_199 rfl rfl ?_
      refine G_iconst (q := 201) hC dL_law_200 rfl ic_0 ?_
      refine G_lald (q := 202) hC dL_law_201 rfl ?_
      refine G_iload (q := 204) hC dL_law_202 rfl rfl ?_
      refine G_i2l (q := 205) hC dL_law_204 rfl ?_
      refine G_lcmp (q := 206) hC dL_law_205 rfl ?_
      refine G_if_eq (tgt := 211) (q := 209) hC dL_law_206 (by decide) rfl (fun c6 => ?_) (fun c6 => ?_)
      · have hf := (if_pos c6).symm.trans hf
        refine G_lv (lv' := [(0, .ref b), (1, .ref (eB E + 0)), (2, .ref (eB E + 583)), (3, .ref (eB E + 605)), (4, .int x4)]) [2, 3, 4, 5, 6] rfl ?_
        exact t_L_law_b211 hC hN hB hB2 hflag hce hsl hk23 hf
      · have hf := (if_neg c6).symm.trans hf
        refine G_iconst (q := 210) hC dL_law_209 rfl ic_0 ?_
        exact absurd hf (by decide)
  · have hf := (if_neg c4).symm.trans hf
    refine G_iconst (q := 193) hC dL_law_192 rfl ic_0 ?_
    exact absurd hf (by decide)

def f_L_law_b214 (fu : Nat) (xs : Nat → Int32) (L : Nat) (k23 : (Nat → Int64) → gSt → Int32 → Option Int32) (w : Nat → Int64) (σ : gSt) (x4 : Int32) : Option Int32 :=
  bd (f_X6_erase fu σ ) (fun v1 σ1 => bd (f_X7_erase fu σ1 ) (fun v2 σ2 => if v1 = v2 then (f_L_law_b1598 fu xs L k23 w σ2 x4) else (some 0)))
set_option maxRecDepth 100000 in
theorem t_L_law_b214 {fu b L : Nat} {xs : Nat → Int32} {k23 : (Nat → Int64) → gSt → Int32 → Option Int32} (hC : gCx p s m #[Value.ref b] meth c cL_law 7 RL (some .boolean) E) (hN : gN s) (hB : gS s E b L xs) (hB2 : s.heap.size ≤ eB E) (hflag : l.stackTraces = false) {ce sl : Nat} (hce : ce + 4 ≤ room_1.cells) (hsl : sl + 24 ≤ room_1.slots) (hk23 : ∀ (w : Nat → Int64) (σ : gSt) (x4 : Int32), k23 w σ x4 = some 1 → G p l e room_1 s m #[Value.ref b] below meth c 7 (ce + 4) (sl + 24) (lw_Z below #[Value.ref b] s) E w σ 23 [(0, .ref b), (1, .ref (eB E + 0)), (2, .ref (eB E + 583)), (3, .ref (eB E + 605)), (4, .int x4)] []) {w : Nat → Int64} {σ : gSt} {x4 : Int32} (hf : f_L_law_b214 fu xs L k23 w σ x4 = some 1) : G p l e room_1 s m #[Value.ref b] below meth c 7 ce sl (lw_Z below #[Value.ref b] s) E w σ 214 [(0, .ref b), (1, .ref (eB E + 0)), (2, .ref (eB E + 583)), (3, .ref (eB E + 605)), (4, .int x4)] [] := by
  unfold f_L_law_b214 at hf
  refine G_aload_n (q := 215) hC dL_law_214 rfl rfl ?_
  obtain ⟨v1, σ1, hm1, hf⟩ := bd_ok hf
  refine cl_RL_96 (q := 218) hC dL_law_215 rfl (m_X6_erase hm1) ⟨Nat.le_of_ble_eq_true rfl, Nat.le_of_ble_eq_true rfl⟩ (Nat.le_of_ble_eq_true rfl) ⟨Nat.le_trans (Nat.le_add_right _ _) hce, Nat.le_trans (Nat.le_add_right _ _) hsl⟩ ?_
  refine G_aload_n (q := 219) hC dL_law_218 rfl rfl ?_
  obtain ⟨v2, σ2, hm2, hf⟩ := bd_ok hf
  refine cl_RL_99 (q := 222) hC dL_law_219 rfl (m_X7_erase hm2) ⟨Nat.le_of_ble_eq_true rfl, Nat.le_of_ble_eq_true rfl⟩ (Nat.le_of_ble_eq_true rfl) ⟨Nat.le_trans (Nat.le_add_right _ _) hce, Nat.le_trans (Nat.le_add_right _ _) hsl⟩ ?_
  refine G_icmp_eq (tgt := 1598) (q := 225) hC dL_law_222 (by decide) rfl (fun c3 => ?_) (fun c3 => ?_)
  · have hf := (if_pos c3).symm.trans hf
    refine G_widen (k := ce + 4) (n := sl + 24) (Nat.le_add_right _ _) (Nat.le_add_right _ _) ?_
    exact t_L_law_b1598 hC hN hB hB2 hflag hce hsl hk23 hf
  · have hf := (if_neg c3).symm.trans hf
    refine G_iconst (q := 226) hC dL_law_225 rfl ic_0 ?_
    exact absurd hf (by decide)

def f_L_law_b303 (fu : Nat) (xs : Nat → Int32) (L : Nat) (k23 : (Nat → Int64) → gSt → Int32 → Option Int32) (w : Nat → Int64) (σ : gSt) (x4 : Int32) : Option Int32 :=
  f_L_law_b1598 fu xs L k23 w σ x4
set_option maxRecDepth 100000 in
theorem t_L_law_b303 {fu b L : Nat} {xs : Nat → Int32} {k23 : (Nat → Int64) → gSt → Int32 → Option Int32} (hC : gCx p s m #[Value.ref b] meth c cL_law 7 RL (some .boolean) E) (hN : gN s) (hB : gS s E b L xs) (hB2 : s.heap.size ≤ eB E) (hflag : l.stackTraces = false) {ce sl : Nat} (hce : ce + 4 ≤ room_1.cells) (hsl : sl + 24 ≤ room_1.slots) (hk23 : ∀ (w : Nat → Int64) (σ : gSt) (x4 : Int32), k23 w σ x4 = some 1 → G p l e room_1 s m #[Value.ref b] below meth c 7 (ce + 4) (sl + 24) (lw_Z below #[Value.ref b] s) E w σ 23 [(0, .ref b), (1, .ref (eB E + 0)), (2, .ref (eB E + 583)), (3, .ref (eB E + 605)), (4, .int x4)] []) {w : Nat → Int64} {σ : gSt} {x4 : Int32} (hf : f_L_law_b303 fu xs L k23 w σ x4 = some 1) : G p l e room_1 s m #[Value.ref b] below meth c 7 (ce + 4) (sl + 24) (lw_Z below #[Value.ref b] s) E w σ 303 [(0, .ref b), (1, .ref (eB E + 0)), (2, .ref (eB E + 583)), (3, .ref (eB E + 605)), (4, .int x4)] [] := by
  unfold f_L_law_b303 at hf
  refine G_goto (tgt := 1598) hC dL_law_303 (by decide) ?_
  exact t_L_law_b1598 hC hN hB hB2 hflag hce hsl hk23 hf

def f_L_law_b297 (fu : Nat) (xs : Nat → Int32) (L : Nat) (k23 : (Nat → Int64) → gSt → Int32 → Option Int32) (w : Nat → Int64) (σ : gSt) (x4 : Int32) (ys0 : Int64) (ys1 : Int64) : Option Int32 :=
  if (lg_cmp ys0 ys1) = 0 then (f_L_law_b303 fu xs L k23 w σ x4) else (some 0)
set_option maxRecDepth 100000 in
theorem t_L_law_b297 {fu b L : Nat} {xs : Nat → Int32} {k23 : (Nat → Int64) → gSt → Int32 → Option Int32} (hC : gCx p s m #[Value.ref b] meth c cL_law 7 RL (some .boolean) E) (hN : gN s) (hB : gS s E b L xs) (hB2 : s.heap.size ≤ eB E) (hflag : l.stackTraces = false) {ce sl : Nat} (hce : ce + 4 ≤ room_1.cells) (hsl : sl + 24 ≤ room_1.slots) (hk23 : ∀ (w : Nat → Int64) (σ : gSt) (x4 : Int32), k23 w σ x4 = some 1 → G p l e room_1 s m #[Value.ref b] below meth c 7 (ce + 4) (sl + 24) (lw_Z below #[Value.ref b] s) E w σ 23 [(0, .ref b), (1, .ref (eB E + 0)), (2, .ref (eB E + 583)), (3, .ref (eB E + 605)), (4, .int x4)] []) {w : Nat → Int64} {σ : gSt} {x4 : Int32} {ys0 : Int64} {ys1 : Int64} (hf : f_L_law_b297 fu xs L k23 w σ x4 ys0 ys1 = some 1) : G p l e room_1 s m #[Value.ref b] below meth c 7 (ce + 4) (sl + 24) (lw_Z below #[Value.ref b] s) E w σ 297 [(0, .ref b), (1, .ref (eB E + 0)), (2, .ref (eB E + 583)), (3, .ref (eB E + 605)), (4, .int x4)] [.long ys1, .long ys0] := by
  unfold f_L_law_b297 at hf
  refine G_lcmp (q := 298) hC dL_law_297 rfl ?_
  refine G_if_eq (tgt := 303) (q := 301) hC dL_law_298 (by decide) rfl (fun c1 => ?_) (fun c1 => ?_)
  · have hf := (if_pos c1).symm.trans hf
    exact t_L_law_b303 hC hN hB hB2 hflag hce hsl hk23 hf
  · have hf := (if_neg c1).symm.trans hf
    refine G_iconst (q := 302) hC dL_law_301 rfl ic_0 ?_
    exact absurd hf (by decide)

def f_L_law_b263 (fu : Nat) (xs : Nat → Int32) (L : Nat) (k23 : (Nat → Int64) → gSt → Int32 → Option Int32) (w : Nat → Int64) (σ : gSt) (x4 : Int32) (x5 : Int32) (xs1 : Int32) : Option Int32 :=
  bd (f_X7_rule fu σ xs1) (fun v1 σ1 => bd (f_X7_thrown fu σ1 ) (fun v2 σ2 => if v2 = x5 then (if x5 = 0 then (if v1 = 0 then (f_L_law_b297 fu xs L k23 w σ2 x4 (w 0) (0 : Int64)) else (f_L_law_b297 fu xs L k23 w σ2 x4 (w 0) (1 : Int64))) else (f_L_law_b303 fu xs L k23 w σ2 x4)) else (some 0)))
set_option maxRecDepth 100000 in
theorem t_L_law_b263 {fu b L : Nat} {xs : Nat → Int32} {k23 : (Nat → Int64) → gSt → Int32 → Option Int32} (hC : gCx p s m #[Value.ref b] meth c cL_law 7 RL (some .boolean) E) (hN : gN s) (hB : gS s E b L xs) (hB2 : s.heap.size ≤ eB E) (hflag : l.stackTraces = false) {ce sl : Nat} (hce : ce + 4 ≤ room_1.cells) (hsl : sl + 24 ≤ room_1.slots) (hk23 : ∀ (w : Nat → Int64) (σ : gSt) (x4 : Int32), k23 w σ x4 = some 1 → G p l e room_1 s m #[Value.ref b] below meth c 7 (ce + 4) (sl + 24) (lw_Z below #[Value.ref b] s) E w σ 23 [(0, .ref b), (1, .ref (eB E + 0)), (2, .ref (eB E + 583)), (3, .ref (eB E + 605)), (4, .int x4)] []) {w : Nat → Int64} {σ : gSt} {x4 : Int32} {x5 : Int32} {xs1 : Int32} (hf : f_L_law_b263 fu xs L k23 w σ x4 x5 xs1 = some 1) : G p l e room_1 s m #[Value.ref b] below meth c 7 (ce + 4) (sl + 24) (lw_Z below #[Value.ref b] s) E w σ 263 [(0, .ref b), (1, .ref (eB E + 0)), (2, .ref (eB E + 583)), (3, .ref (eB E + 605)), (4, .int x4), (5, .int x5)] [.int xs1, .ref (eB E + 583)] := by
  unfold f_L_law_b263 at hf
  obtain ⟨v1, σ1, hm1, hf⟩ := bd_ok hf
  refine cl_RL_103 (q := 266) hC dL_law_263 rfl (m_X7_rule hm1) ⟨Nat.le_of_ble_eq_true rfl, Nat.le_of_ble_eq_true rfl⟩ (Nat.le_of_ble_eq_true rfl) ⟨hce, hsl⟩ ?_
  refine G_istore (q := 268) (lv' := [(6, .int v1), (0, .ref b), (1, .ref (eB E + 0)), (2, .ref (eB E + 583)), (3, .ref (eB E + 605)), (4, .int x4), (5, .int x5)]) hC dL_law_266 rfl (by decide) rfl ?_
  refine G_aload_n (q := 269) hC dL_law_268 rfl rfl ?_
  obtain ⟨v2, σ2, hm2, hf⟩ := bd_ok hf
  refine cl_RL_93 (q := 272) hC dL_law_269 rfl (m_X7_thrown hm2) ⟨Nat.le_of_ble_eq_true rfl, Nat.le_of_ble_eq_true rfl⟩ (Nat.le_of_ble_eq_true rfl) ⟨hce, hsl⟩ ?_
  refine G_iload (q := 274) hC dL_law_272 rfl rfl ?_
  refine G_icmp_eq (tgt := 279) (q := 277) hC dL_law_274 (by decide) rfl (fun c3 => ?_) (fun c3 => ?_)
  · have hf := (if_pos c3).symm.trans hf
    refine G_iload (q := 281) hC dL_law_279 rfl rfl ?_
    refine G_if_ne (tgt := 303) (q := 284) hC dL_law_281 (by decide) rfl (fun c4 => ?_) (fun c4 => ?_)
    · have hf := (if_neg c4).symm.trans hf
      refine G_lv (lv' := [(0, .ref b), (1, .ref (eB E + 0)), (2, .ref (eB E + 583)), (3, .ref (eB E + 605)), (4, .int x4)]) [1, 2, 3, 4, 5] rfl ?_
      exact t_L_law_b303 hC hN hB hB2 hflag hce hsl hk23 hf
    · have hf := (if_pos c4).symm.trans hf
      refine G_aload_n (q := 285) hC dL_law_284 rfl rfl ?_
      refine G_iconst (q := 286) hC dL_law_285 rfl ic_0 ?_
      refine G_lald (q := 287) hC dL_law_286 rfl ?_
      refine G_iload (q := 289) hC dL_law_287 rfl rfl ?_
      refine G_if_eq (tgt := 296) (q := 292) hC dL_law_289 (by decide) rfl (fun c5 => ?_) (fun c5 => ?_)
      · have hf := (if_pos c5).symm.trans hf
        refine G_lconst (v := 0) (q := 297) hC dL_law_296 rfl (by decide) ?_
        refine G_lv (lv' := [(0, .ref b), (1, .ref (eB E + 0)), (2, .ref (eB E + 583)), (3, .ref (eB E + 605)), (4, .int x4)]) [1, 2, 3, 4, 5] rfl ?_
        exact t_L_law_b297 hC hN hB hB2 hflag hce hsl hk23 hf
      · have hf := (if_neg c5).symm.trans hf
        refine G_lconst (v := 1) (q := 293) hC dL_law_292 rfl (by decide) ?_
        refine G_goto (tgt := 297) hC dL_law_293 (by decide) ?_
        refine G_lv (lv' := [(0, .ref b), (1, .ref (eB E + 0)), (2, .ref (eB E + 583)), (3, .ref (eB E + 605)), (4, .int x4)]) [1, 2, 3, 4, 5] rfl ?_
        exact t_L_law_b297 hC hN hB hB2 hflag hce hsl hk23 hf
  · have hf := (if_neg c3).symm.trans hf
    refine G_iconst (q := 278) hC dL_law_277 rfl ic_0 ?_
    exact absurd hf (by decide)

def f_L_law_b242 (fu : Nat) (xs : Nat → Int32) (L : Nat) (k23 : (Nat → Int64) → gSt → Int32 → Option Int32) (w : Nat → Int64) (σ : gSt) (x4 : Int32) (xs1 : Int32) : Option Int32 :=
  bL (f_L_rule fu w σ xs1) (fun v1 w1 σ1 => gd (inb (x4 + (1 : Int32)) L) (if (xs (x4 + (1 : Int32)).toNatClampNeg) = 0 then (f_L_law_b263 fu xs L k23 w1 σ1 x4 v1 (0 : Int32)) else (f_L_law_b263 fu xs L k23 w1 σ1 x4 v1 (1 : Int32))))
set_option maxRecDepth 100000 in
theorem t_L_law_b242 {fu b L : Nat} {xs : Nat → Int32} {k23 : (Nat → Int64) → gSt → Int32 → Option Int32} (hC : gCx p s m #[Value.ref b] meth c cL_law 7 RL (some .boolean) E) (hN : gN s) (hB : gS s E b L xs) (hB2 : s.heap.size ≤ eB E) (hflag : l.stackTraces = false) {ce sl : Nat} (hce : ce + 4 ≤ room_1.cells) (hsl : sl + 24 ≤ room_1.slots) (hk23 : ∀ (w : Nat → Int64) (σ : gSt) (x4 : Int32), k23 w σ x4 = some 1 → G p l e room_1 s m #[Value.ref b] below meth c 7 (ce + 4) (sl + 24) (lw_Z below #[Value.ref b] s) E w σ 23 [(0, .ref b), (1, .ref (eB E + 0)), (2, .ref (eB E + 583)), (3, .ref (eB E + 605)), (4, .int x4)] []) {w : Nat → Int64} {σ : gSt} {x4 : Int32} {xs1 : Int32} (hf : f_L_law_b242 fu xs L k23 w σ x4 xs1 = some 1) : G p l e room_1 s m #[Value.ref b] below meth c 7 ce sl (lw_Z below #[Value.ref b] s) E w σ 242 [(0, .ref b), (1, .ref (eB E + 0)), (2, .ref (eB E + 583)), (3, .ref (eB E + 605)), (4, .int x4)] [.int xs1, .ref (eB E + 0)] := by
  unfold f_L_law_b242 at hf
  refine G_aload_n (q := 243) hC dL_law_242 rfl rfl ?_
  obtain ⟨v1, w1, σ1, hm1, hf⟩ := bL_ok hf
  refine G_callL (q := 246) (n := 3) (As := [.ref (eB E + 0), .int xs1, .ref (eB E + 605)]) (st := []) hC hN dL_law_243 rfl (m_L_rule hflag hm1) (wall (by decide +kernel) rfl) (wall (by decide +kernel) rfl) (wall (by decide +kernel) rfl) (wall (by decide +kernel) rfl) rfl ⟨by decide +kernel, by decide +kernel, by decide +kernel⟩ ⟨Nat.le_of_ble_eq_true rfl, Nat.le_of_ble_eq_true rfl⟩ (Nat.le_of_ble_eq_true rfl) ⟨Nat.le_trans (Nat.add_le_add_left (Nat.le_of_ble_eq_true rfl) _) hce, Nat.le_trans (Nat.add_le_add_left (Nat.le_of_ble_eq_true rfl) _) hsl⟩ ?_
  refine G_widen (k := ce + 4) (n := sl + 24) (Nat.add_le_add_left (Nat.le_of_ble_eq_true rfl) _) (Nat.add_le_add_left (Nat.le_of_ble_eq_true rfl) _) ?_
  refine G_istore (q := 248) (lv' := [(5, .int v1), (0, .ref b), (1, .ref (eB E + 0)), (2, .ref (eB E + 583)), (3, .ref (eB E + 605)), (4, .int x4)]) hC dL_law_246 rfl (by decide) rfl ?_
  refine G_aload_n (q := 249) hC dL_law_248 rfl rfl ?_
  refine G_aload_n (q := 250) hC dL_law_249 rfl rfl ?_
  refine G_iload (q := 252) hC dL_law_250 rfl rfl ?_
  refine G_iconst (q := 253) hC dL_law_252 rfl ic_1 ?_
  refine G_iadd (q := 254) hC dL_law_253 rfl ?_
  obtain ⟨g1, hf⟩ := gd_ok hf
  refine G_sld (q := 255) hC dL_law_254 rfl hB g1 ?_
  refine G_if_eq (tgt := 262) (q := 258) hC dL_law_255 (by decide) rfl (fun c2 => ?_) (fun c2 => ?_)
  · have hf := (if_pos c2).symm.trans hf
    refine G_iconst (q := 263) hC dL_law_262 rfl ic_0 ?_
    refine G_lv (lv' := [(0, .ref b), (1, .ref (eB E + 0)), (2, .ref (eB E + 583)), (3, .ref (eB E + 605)), (4, .int x4), (5, .int v1)]) [1, 2, 3, 4, 5, 0] rfl ?_
    exact t_L_law_b263 hC hN hB hB2 hflag hce hsl hk23 hf
  · have hf := (if_neg c2).symm.trans hf
    refine G_iconst (q := 259) hC dL_law_258 rfl ic_1 ?_
    refine G_goto (tgt := 263) hC dL_law_259 (by decide) ?_
    refine G_lv (lv' := [(0, .ref b), (1, .ref (eB E + 0)), (2, .ref (eB E + 583)), (3, .ref (eB E + 605)), (4, .int x4), (5, .int v1)]) [1, 2, 3, 4, 5, 0] rfl ?_
    exact t_L_law_b263 hC hN hB hB2 hflag hce hsl hk23 hf

def f_L_law_b227 (fu : Nat) (xs : Nat → Int32) (L : Nat) (k23 : (Nat → Int64) → gSt → Int32 → Option Int32) (w : Nat → Int64) (σ : gSt) (x4 : Int32) : Option Int32 :=
  gd (inb (x4 + (1 : Int32)) L) (if (xs (x4 + (1 : Int32)).toNatClampNeg) = 0 then (f_L_law_b242 fu xs L k23 w σ x4 (0 : Int32)) else (f_L_law_b242 fu xs L k23 w σ x4 (1 : Int32)))
set_option maxRecDepth 100000 in
theorem t_L_law_b227 {fu b L : Nat} {xs : Nat → Int32} {k23 : (Nat → Int64) → gSt → Int32 → Option Int32} (hC : gCx p s m #[Value.ref b] meth c cL_law 7 RL (some .boolean) E) (hN : gN s) (hB : gS s E b L xs) (hB2 : s.heap.size ≤ eB E) (hflag : l.stackTraces = false) {ce sl : Nat} (hce : ce + 4 ≤ room_1.cells) (hsl : sl + 24 ≤ room_1.slots) (hk23 : ∀ (w : Nat → Int64) (σ : gSt) (x4 : Int32), k23 w σ x4 = some 1 → G p l e room_1 s m #[Value.ref b] below meth c 7 (ce + 4) (sl + 24) (lw_Z below #[Value.ref b] s) E w σ 23 [(0, .ref b), (1, .ref (eB E + 0)), (2, .ref (eB E + 583)), (3, .ref (eB E + 605)), (4, .int x4)] []) {w : Nat → Int64} {σ : gSt} {x4 : Int32} (hf : f_L_law_b227 fu xs L k23 w σ x4 = some 1) : G p l e room_1 s m #[Value.ref b] below meth c 7 ce sl (lw_Z below #[Value.ref b] s) E w σ 227 [(0, .ref b), (1, .ref (eB E + 0)), (2, .ref (eB E + 583)), (3, .ref (eB E + 605)), (4, .int x4)] [] := by
  unfold f_L_law_b227 at hf
  refine G_aload_n (q := 228) hC dL_law_227 rfl rfl ?_
  refine G_aload_n (q := 229) hC dL_law_228 rfl rfl ?_
  refine G_iload (q := 231) hC dL_law_229 rfl rfl ?_
  refine G_iconst (q := 232) hC dL_law_231 rfl ic_1 ?_
  refine G_iadd (q := 233) hC dL_law_232 rfl ?_
  obtain ⟨g1, hf⟩ := gd_ok hf
  refine G_sld (q := 234) hC dL_law_233 rfl hB g1 ?_
  refine G_if_eq (tgt := 241) (q := 237) hC dL_law_234 (by decide) rfl (fun c1 => ?_) (fun c1 => ?_)
  · have hf := (if_pos c1).symm.trans hf
    refine G_iconst (q := 242) hC dL_law_241 rfl ic_0 ?_
    exact t_L_law_b242 hC hN hB hB2 hflag hce hsl hk23 hf
  · have hf := (if_neg c1).symm.trans hf
    refine G_iconst (q := 238) hC dL_law_237 rfl ic_1 ?_
    refine G_goto (tgt := 242) hC dL_law_238 (by decide) ?_
    exact t_L_law_b242 hC hN hB hB2 hflag hce hsl hk23 hf

def f_L_law_b371 (fu : Nat) (xs : Nat → Int32) (L : Nat) (k23 : (Nat → Int64) → gSt → Int32 → Option Int32) (w : Nat → Int64) (σ : gSt) (x4 : Int32) : Option Int32 :=
  f_L_law_b1598 fu xs L k23 w σ x4
set_option maxRecDepth 100000 in
theorem t_L_law_b371 {fu b L : Nat} {xs : Nat → Int32} {k23 : (Nat → Int64) → gSt → Int32 → Option Int32} (hC : gCx p s m #[Value.ref b] meth c cL_law 7 RL (some .boolean) E) (hN : gN s) (hB : gS s E b L xs) (hB2 : s.heap.size ≤ eB E) (hflag : l.stackTraces = false) {ce sl : Nat} (hce : ce + 4 ≤ room_1.cells) (hsl : sl + 24 ≤ room_1.slots) (hk23 : ∀ (w : Nat → Int64) (σ : gSt) (x4 : Int32), k23 w σ x4 = some 1 → G p l e room_1 s m #[Value.ref b] below meth c 7 (ce + 4) (sl + 24) (lw_Z below #[Value.ref b] s) E w σ 23 [(0, .ref b), (1, .ref (eB E + 0)), (2, .ref (eB E + 583)), (3, .ref (eB E + 605)), (4, .int x4)] []) {w : Nat → Int64} {σ : gSt} {x4 : Int32} (hf : f_L_law_b371 fu xs L k23 w σ x4 = some 1) : G p l e room_1 s m #[Value.ref b] below meth c 7 (ce + 4) (sl + 24) (lw_Z below #[Value.ref b] s) E w σ 371 [(0, .ref b), (1, .ref (eB E + 0)), (2, .ref (eB E + 583)), (3, .ref (eB E + 605)), (4, .int x4)] [] := by
  unfold f_L_law_b371 at hf
  refine G_goto (tgt := 1598) hC dL_law_371 (by decide) ?_
  exact t_L_law_b1598 hC hN hB hB2 hflag hce hsl hk23 hf

def f_L_law_b306 (fu : Nat) (xs : Nat → Int32) (L : Nat) (k23 : (Nat → Int64) → gSt → Int32 → Option Int32) (w : Nat → Int64) (σ : gSt) (x4 : Int32) : Option Int32 :=
  gd (inb (x4 + (1 : Int32)) L) (gd (inb (x4 + (2 : Int32)) L) (bL (f_L_article fu w σ (xs (x4 + (1 : Int32)).toNatClampNeg) (xs (x4 + (2 : Int32)).toNatClampNeg)) (fun v1 w1 σ1 => gd (inb (x4 + (1 : Int32)) L) (gd (inb (x4 + (2 : Int32)) L) (bd (f_X7_article fu σ1 (xs (x4 + (1 : Int32)).toNatClampNeg) (xs (x4 + (2 : Int32)).toNatClampNeg)) (fun v2 σ2 => bd (f_X7_thrown fu σ2 ) (fun v3 σ3 => if v3 = v1 then (if v1 = 0 then (if (lg_cmp (w1 0) ((v2).toInt64)) = 0 then (f_L_law_b371 fu xs L k23 w1 σ3 x4) else (some 0)) else (f_L_law_b371 fu xs L k23 w1 σ3 x4)) else (some 0))))))))
set_option maxRecDepth 100000 in
theorem t_L_law_b306 {fu b L : Nat} {xs : Nat → Int32} {k23 : (Nat → Int64) → gSt → Int32 → Option Int32} (hC : gCx p s m #[Value.ref b] meth c cL_law 7 RL (some .boolean) E) (hN : gN s) (hB : gS s E b L xs) (hB2 : s.heap.size ≤ eB E) (hflag : l.stackTraces = false) {ce sl : Nat} (hce : ce + 4 ≤ room_1.cells) (hsl : sl + 24 ≤ room_1.slots) (hk23 : ∀ (w : Nat → Int64) (σ : gSt) (x4 : Int32), k23 w σ x4 = some 1 → G p l e room_1 s m #[Value.ref b] below meth c 7 (ce + 4) (sl + 24) (lw_Z below #[Value.ref b] s) E w σ 23 [(0, .ref b), (1, .ref (eB E + 0)), (2, .ref (eB E + 583)), (3, .ref (eB E + 605)), (4, .int x4)] []) {w : Nat → Int64} {σ : gSt} {x4 : Int32} (hf : f_L_law_b306 fu xs L k23 w σ x4 = some 1) : G p l e room_1 s m #[Value.ref b] below meth c 7 ce sl (lw_Z below #[Value.ref b] s) E w σ 306 [(0, .ref b), (1, .ref (eB E + 0)), (2, .ref (eB E + 583)), (3, .ref (eB E + 605)), (4, .int x4)] [] := by
  unfold f_L_law_b306 at hf
  refine G_aload_n (q := 307) hC dL_law_306 rfl rfl ?_
  refine G_aload_n (q := 308) hC dL_law_307 rfl rfl ?_
  refine G_iload (q := 310) hC dL_law_308 rfl rfl ?_
  refine G_iconst (q := 311) hC dL_law_310 rfl ic_1 ?_
  refine G_iadd (q := 312) hC dL_law_311 rfl ?_
  obtain ⟨g1, hf⟩ := gd_ok hf
  refine G_sld (q := 313) hC dL_law_312 rfl hB g1 ?_
  refine G_aload_n (q := 314) hC dL_law_313 rfl rfl ?_
  refine G_iload (q := 316) hC dL_law_314 rfl rfl ?_
  refine G_iconst (q := 317) hC dL_law_316 rfl ic_2 ?_
  refine G_iadd (q := 318) hC dL_law_317 rfl ?_
  obtain ⟨g2, hf⟩ := gd_ok hf
  refine G_sld (q := 319) hC dL_law_318 rfl hB g2 ?_
  refine G_aload_n (q := 320) hC dL_law_319 rfl rfl ?_
  obtain ⟨v1, w1, σ1, hm1, hf⟩ := bL_ok hf
  refine G_callL (q := 323) (n := 4) (As := [.ref (eB E + 0), .int (xs (x4 + (1 : Int32)).toNatClampNeg), .int (xs (x4 + (2 : Int32)).toNatClampNeg), .ref (eB E + 605)]) (st := []) hC hN dL_law_320 rfl (m_L_article hflag hm1) (wall (by decide +kernel) rfl) (wall (by decide +kernel) rfl) (wall (by decide +kernel) rfl) (wall (by decide +kernel) rfl) rfl ⟨by decide +kernel, by decide +kernel, by decide +kernel⟩ ⟨Nat.le_of_ble_eq_true rfl, Nat.le_of_ble_eq_true rfl⟩ (Nat.le_of_ble_eq_true rfl) ⟨Nat.le_trans (Nat.add_le_add_left (Nat.le_of_ble_eq_true rfl) _) hce, Nat.le_trans (Nat.add_le_add_left (Nat.le_of_ble_eq_true rfl) _) hsl⟩ ?_
  refine G_widen (k := ce + 4) (n := sl + 24) (Nat.add_le_add_left (Nat.le_of_ble_eq_true rfl) _) (Nat.add_le_add_left (Nat.le_of_ble_eq_true rfl) _) ?_
  refine G_istore (q := 325) (lv' := [(5, .int v1), (0, .ref b), (1, .ref (eB E + 0)), (2, .ref (eB E + 583)), (3, .ref (eB E + 605)), (4, .int x4)]) hC dL_law_323 rfl (by decide) rfl ?_
  refine G_aload_n (q := 326) hC dL_law_325 rfl rfl ?_
  refine G_aload_n (q := 327) hC dL_law_326 rfl rfl ?_
  refine G_iload (q := 329) hC dL_law_327 rfl rfl ?_
  refine G_iconst (q := 330) hC dL_law_329 rfl ic_1 ?_
  refine G_iadd (q := 331) hC dL_law_330 rfl ?_
  obtain ⟨g3, hf⟩ := gd_ok hf
  refine G_sld (q := 332) hC dL_law_331 rfl hB g3 ?_
  refine G_aload_n (q := 333) hC dL_law_332 rfl rfl ?_
  refine G_iload (q := 335) hC dL_law_333 rfl rfl ?_
  refine G_iconst (q := 336) hC dL_law_335 rfl ic_2 ?_
  refine G_iadd (q := 337) hC dL_law_336 rfl ?_
  obtain ⟨g4, hf⟩ := gd_ok hf
  refine G_sld (q := 338) hC dL_law_337 rfl hB g4 ?_
  obtain ⟨v2, σ2, hm2, hf⟩ := bd_ok hf
  refine cl_RL_107 (q := 341) hC dL_law_338 rfl (m_X7_article hm2) ⟨Nat.le_of_ble_eq_true rfl, Nat.le_of_ble_eq_true rfl⟩ (Nat.le_of_ble_eq_true rfl) ⟨hce, hsl⟩ ?_
  refine G_istore (q := 343) (lv' := [(6, .int v2), (5, .int v1), (0, .ref b), (1, .ref (eB E + 0)), (2, .ref (eB E + 583)), (3, .ref (eB E + 605)), (4, .int x4)]) hC dL_law_341 rfl (by decide) rfl ?_
  refine G_aload_n (q := 344) hC dL_law_343 rfl rfl ?_
  obtain ⟨v3, σ3, hm3, hf⟩ := bd_ok hf
  refine cl_RL_93 (q := 347) hC dL_law_344 rfl (m_X7_thrown hm3) ⟨Nat.le_of_ble_eq_true rfl, Nat.le_of_ble_eq_true rfl⟩ (Nat.le_of_ble_eq_true rfl) ⟨hce, hsl⟩ ?_
  refine G_iload (q := 349) hC dL_law_347 rfl rfl ?_
  refine G_icmp_eq (tgt := 354) (q := 352) hC dL_law_349 (by decide) rfl (fun c4 => ?_) (fun c4 => ?_)
  · have hf := (if_pos c4).symm.trans hf
    refine G_iload (q := 356) hC dL_law_354 rfl rfl ?_
    refine G_if_ne (tgt := 371) (q := 359) hC dL_law_356 (by decide) rfl (fun c5 => ?_) (fun c5 => ?_)
    · have hf := (if_neg c5).symm.trans hf
      refine G_lv (lv' := [(0, .ref b), (1, .ref (eB E + 0)), (2, .ref (eB E + 583)), (3, .ref (eB E + 605)), (4, .int x4)]) [2, 3, 4, 5, 6] rfl ?_
      exact t_L_law_b371 hC hN hB hB2 hflag hce hsl hk23 hf
    · have hf := (if_pos c5).symm.trans hf
      refine G_aload_n (q := 360) hC dL_law_359 rfl rfl ?_
      refine G_iconst (q := 361) hC dL_law_360 rfl ic_0 ?_
      refine G_lald (q := 362) hC dL_law_361 rfl ?_
      refine G_iload (q := 364) hC dL_law_362 rfl rfl ?_
      refine G_i2l (q := 365) hC dL_law_364 rfl ?_
      refine G_lcmp (q := 366) hC dL_law_365 rfl ?_
      refine G_if_eq (tgt := 371) (q := 369) hC dL_law_366 (by decide) rfl (fun c6 => ?_) (fun c6 => ?_)
      · have hf := (if_pos c6).symm.trans hf
        refine G_lv (lv' := [(0, .ref b), (1, .ref (eB E + 0)), (2, .ref (eB E + 583)), (3, .ref (eB E + 605)), (4, .int x4)]) [2, 3, 4, 5, 6] rfl ?_
        exact t_L_law_b371 hC hN hB hB2 hflag hce hsl hk23 hf
      · have hf := (if_neg c6).symm.trans hf
        refine G_iconst (q := 370) hC dL_law_369 rfl ic_0 ?_
        exact absurd hf (by decide)
  · have hf := (if_neg c4).symm.trans hf
    refine G_iconst (q := 353) hC dL_law_352 rfl ic_0 ?_
    exact absurd hf (by decide)

def f_L_law_b439 (fu : Nat) (xs : Nat → Int32) (L : Nat) (k23 : (Nat → Int64) → gSt → Int32 → Option Int32) (w : Nat → Int64) (σ : gSt) (x4 : Int32) : Option Int32 :=
  f_L_law_b1598 fu xs L k23 w σ x4
set_option maxRecDepth 100000 in
theorem t_L_law_b439 {fu b L : Nat} {xs : Nat → Int32} {k23 : (Nat → Int64) → gSt → Int32 → Option Int32} (hC : gCx p s m #[Value.ref b] meth c cL_law 7 RL (some .boolean) E) (hN : gN s) (hB : gS s E b L xs) (hB2 : s.heap.size ≤ eB E) (hflag : l.stackTraces = false) {ce sl : Nat} (hce : ce + 4 ≤ room_1.cells) (hsl : sl + 24 ≤ room_1.slots) (hk23 : ∀ (w : Nat → Int64) (σ : gSt) (x4 : Int32), k23 w σ x4 = some 1 → G p l e room_1 s m #[Value.ref b] below meth c 7 (ce + 4) (sl + 24) (lw_Z below #[Value.ref b] s) E w σ 23 [(0, .ref b), (1, .ref (eB E + 0)), (2, .ref (eB E + 583)), (3, .ref (eB E + 605)), (4, .int x4)] []) {w : Nat → Int64} {σ : gSt} {x4 : Int32} (hf : f_L_law_b439 fu xs L k23 w σ x4 = some 1) : G p l e room_1 s m #[Value.ref b] below meth c 7 (ce + 4) (sl + 24) (lw_Z below #[Value.ref b] s) E w σ 439 [(0, .ref b), (1, .ref (eB E + 0)), (2, .ref (eB E + 583)), (3, .ref (eB E + 605)), (4, .int x4)] [] := by
  unfold f_L_law_b439 at hf
  refine G_goto (tgt := 1598) hC dL_law_439 (by decide) ?_
  exact t_L_law_b1598 hC hN hB hB2 hflag hce hsl hk23 hf

def f_L_law_b374 (fu : Nat) (xs : Nat → Int32) (L : Nat) (k23 : (Nat → Int64) → gSt → Int32 → Option Int32) (w : Nat → Int64) (σ : gSt) (x4 : Int32) : Option Int32 :=
  gd (inb (x4 + (1 : Int32)) L) (gd (inb (x4 + (2 : Int32)) L) (bL (f_L_under fu w σ (xs (x4 + (1 : Int32)).toNatClampNeg) (xs (x4 + (2 : Int32)).toNatClampNeg)) (fun v1 w1 σ1 => gd (inb (x4 + (1 : Int32)) L) (gd (inb (x4 + (2 : Int32)) L) (bd (f_X7_under fu σ1 (xs (x4 + (1 : Int32)).toNatClampNeg) (xs (x4 + (2 : Int32)).toNatClampNeg)) (fun v2 σ2 => bd (f_X7_thrown fu σ2 ) (fun v3 σ3 => if v3 = v1 then (if v1 = 0 then (if (lg_cmp (w1 0) ((v2).toInt64)) = 0 then (f_L_law_b439 fu xs L k23 w1 σ3 x4) else (some 0)) else (f_L_law_b439 fu xs L k23 w1 σ3 x4)) else (some 0))))))))
set_option maxRecDepth 100000 in
theorem t_L_law_b374 {fu b L : Nat} {xs : Nat → Int32} {k23 : (Nat → Int64) → gSt → Int32 → Option Int32} (hC : gCx p s m #[Value.ref b] meth c cL_law 7 RL (some .boolean) E) (hN : gN s) (hB : gS s E b L xs) (hB2 : s.heap.size ≤ eB E) (hflag : l.stackTraces = false) {ce sl : Nat} (hce : ce + 4 ≤ room_1.cells) (hsl : sl + 24 ≤ room_1.slots) (hk23 : ∀ (w : Nat → Int64) (σ : gSt) (x4 : Int32), k23 w σ x4 = some 1 → G p l e room_1 s m #[Value.ref b] below meth c 7 (ce + 4) (sl + 24) (lw_Z below #[Value.ref b] s) E w σ 23 [(0, .ref b), (1, .ref (eB E + 0)), (2, .ref (eB E + 583)), (3, .ref (eB E + 605)), (4, .int x4)] []) {w : Nat → Int64} {σ : gSt} {x4 : Int32} (hf : f_L_law_b374 fu xs L k23 w σ x4 = some 1) : G p l e room_1 s m #[Value.ref b] below meth c 7 ce sl (lw_Z below #[Value.ref b] s) E w σ 374 [(0, .ref b), (1, .ref (eB E + 0)), (2, .ref (eB E + 583)), (3, .ref (eB E + 605)), (4, .int x4)] [] := by
  unfold f_L_law_b374 at hf
  refine G_aload_n (q := 375) hC dL_law_374 rfl rfl ?_
  refine G_aload_n (q := 376) hC dL_law_375 rfl rfl ?_
  refine G_iload (q := 378) hC dL_law_376 rfl rfl ?_
  refine G_iconst (q := 379) hC dL_law_378 rfl ic_1 ?_
  refine G_iadd (q := 380) hC dL_law_379 rfl ?_
  obtain ⟨g1, hf⟩ := gd_ok hf
  refine G_sld (q := 381) hC dL_law_380 rfl hB g1 ?_
  refine G_aload_n (q := 382) hC dL_law_381 rfl rfl ?_
  refine G_iload (q := 384) hC dL_law_382 rfl rfl ?_
  refine G_iconst (q := 385) hC dL_law_384 rfl ic_2 ?_
  refine G_iadd (q := 386) hC dL_law_385 rfl ?_
  obtain ⟨g2, hf⟩ := gd_ok hf
  refine G_sld (q := 387) hC dL_law_386 rfl hB g2 ?_
  refine G_aload_n (q := 388) hC dL_law_387 rfl rfl ?_
  obtain ⟨v1, w1, σ1, hm1, hf⟩ := bL_ok hf
  refine G_callL (q := 391) (n := 4) (As := [.ref (eB E + 0), .int (xs (x4 + (1 : Int32)).toNatClampNeg), .int (xs (x4 + (2 : Int32)).toNatClampNeg), .ref (eB E + 605)]) (st := []) hC hN dL_law_388 rfl (m_L_under hflag hm1) (wall (by decide +kernel) rfl) (wall (by decide +kernel) rfl) (wall (by decide +kernel) rfl) (wall (by decide +kernel) rfl) rfl ⟨by decide +kernel, by decide +kernel, by decide +kernel⟩ ⟨Nat.le_of_ble_eq_true rfl, Nat.le_of_ble_eq_true rfl⟩ (Nat.le_of_ble_eq_true rfl) ⟨Nat.le_trans (Nat.add_le_add_left (Nat.le_of_ble_eq_true rfl) _) hce, Nat.le_trans (Nat.add_le_add_left (Nat.le_of_ble_eq_true rfl) _) hsl⟩ ?_
  refine G_widen (k := ce + 4) (n := sl + 24) (Nat.add_le_add_left (Nat.le_of_ble_eq_true rfl) _) (Nat.add_le_add_left (Nat.le_of_ble_eq_true rfl) _) ?_
  refine G_istore (q := 393) (lv' := [(5, .int v1), (0, .ref b), (1, .ref (eB E + 0)), (2, .ref (eB E + 583)), (3, .ref (eB E + 605)), (4, .int x4)]) hC dL_law_391 rfl (by decide) rfl ?_
  refine G_aload_n (q := 394) hC dL_law_393 rfl rfl ?_
  refine G_aload_n (q := 395) hC dL_law_394 rfl rfl ?_
  refine G_iload (q := 397) hC dL_law_395 rfl rfl ?_
  refine G_iconst (q := 398) hC dL_law_397 rfl ic_1 ?_
  refine G_iadd (q := 399) hC dL_law_398 rfl ?_
  obtain ⟨g3, hf⟩ := gd_ok hf
  refine G_sld (q := 400) hC dL_law_399 rfl hB g3 ?_
  refine G_aload_n (q := 401) hC dL_law_400 rfl rfl ?_
  refine G_iload (q := 403) hC dL_law_401 rfl rfl ?_
  refine G_iconst (q := 404) hC dL_law_403 rfl ic_2 ?_
  refine G_iadd (q := 405) hC dL_law_404 rfl ?_
  obtain ⟨g4, hf⟩ := gd_ok hf
  refine G_sld (q := 406) hC dL_law_405 rfl hB g4 ?_
  obtain ⟨v2, σ2, hm2, hf⟩ := bd_ok hf
  refine cl_RL_110 (q := 409) hC dL_law_406 rfl (m_X7_under hm2) ⟨Nat.le_of_ble_eq_true rfl, Nat.le_of_ble_eq_true rfl⟩ (Nat.le_of_ble_eq_true rfl) ⟨hce, hsl⟩ ?_
  refine G_istore (q := 411) (lv' := [(6, .int v2), (5, .int v1), (0, .ref b), (1, .ref (eB E + 0)), (2, .ref (eB E + 583)), (3, .ref (eB E + 605)), (4, .int x4)]) hC dL_law_409 rfl (by decide) rfl ?_
  refine G_aload_n (q := 412) hC dL_law_411 rfl rfl ?_
  obtain ⟨v3, σ3, hm3, hf⟩ := bd_ok hf
  refine cl_RL_93 (q := 415) hC dL_law_412 rfl (m_X7_thrown hm3) ⟨Nat.le_of_ble_eq_true rfl, Nat.le_of_ble_eq_true rfl⟩ (Nat.le_of_ble_eq_true rfl) ⟨hce, hsl⟩ ?_
  refine G_iload (q := 417) hC dL_law_415 rfl rfl ?_
  refine G_icmp_eq (tgt := 422) (q := 420) hC dL_law_417 (by decide) rfl (fun c4 => ?_) (fun c4 => ?_)
  · have hf := (if_pos c4).symm.trans hf
    refine G_iload (q := 424) hC dL_law_422 rfl rfl ?_
    refine G_if_ne (tgt := 439) (q := 427) hC dL_law_424 (by decide) rfl (fun c5 => ?_) (fun c5 => ?_)
    · have hf := (if_neg c5).symm.trans hf
      refine G_lv (lv' := [(0, .ref b), (1, .ref (eB E + 0)), (2, .ref (eB E + 583)), (3, .ref (eB E + 605)), (4, .int x4)]) [2, 3, 4, 5, 6] rfl ?_
      exact t_L_law_b439 hC hN hB hB2 hflag hce hsl hk23 hf
    · have hf := (if_pos c5).symm.trans hf
      refine G_aload_n (q := 428) hC dL_law_427 rfl rfl ?_
      refine G_iconst (q := 429) hC dL_law_428 rfl ic_0 ?_
      refine G_lald (q := 430) hC dL_law_429 rfl ?_
      refine G_iload (q := 432) hC dL_law_430 rfl rfl ?_
      refine G_i2l (q := 433) hC dL_law_432 rfl ?_
      refine G_lcmp (q := 434) hC dL_law_433 rfl ?_
      refine G_if_eq (tgt := 439) (q := 437) hC dL_law_434 (by decide) rfl (fun c6 => ?_) (fun c6 => ?_)
      · have hf := (if_pos c6).symm.trans hf
        refine G_lv (lv' := [(0, .ref b), (1, .ref (eB E + 0)), (2, .ref (eB E + 583)), (3, .ref (eB E + 605)), (4, .int x4)]) [2, 3, 4, 5, 6] rfl ?_
        exact t_L_law_b439 hC hN hB hB2 hflag hce hsl hk23 hf
      · have hf := (if_neg c6).symm.trans hf
        refine G_iconst (q := 438) hC dL_law_437 rfl ic_0 ?_
        exact absurd hf (by decide)
  · have hf := (if_neg c4).symm.trans hf
    refine G_iconst (q := 421) hC dL_law_420 rfl ic_0 ?_
    exact absurd hf (by decide)

def f_L_law_b495 (fu : Nat) (xs : Nat → Int32) (L : Nat) (k23 : (Nat → Int64) → gSt → Int32 → Option Int32) (w : Nat → Int64) (σ : gSt) (x4 : Int32) : Option Int32 :=
  f_L_law_b1598 fu xs L k23 w σ x4
set_option maxRecDepth 100000 in
theorem t_L_law_b495 {fu b L : Nat} {xs : Nat → Int32} {k23 : (Nat → Int64) → gSt → Int32 → Option Int32} (hC : gCx p s m #[Value.ref b] meth c cL_law 7 RL (some .boolean) E) (hN : gN s) (hB : gS s E b L xs) (hB2 : s.heap.size ≤ eB E) (hflag : l.stackTraces = false) {ce sl : Nat} (hce : ce + 4 ≤ room_1.cells) (hsl : sl + 24 ≤ room_1.slots) (hk23 : ∀ (w : Nat → Int64) (σ : gSt) (x4 : Int32), k23 w σ x4 = some 1 → G p l e room_1 s m #[Value.ref b] below meth c 7 (ce + 4) (sl + 24) (lw_Z below #[Value.ref b] s) E w σ 23 [(0, .ref b), (1, .ref (eB E + 0)), (2, .ref (eB E + 583)), (3, .ref (eB E + 605)), (4, .int x4)] []) {w : Nat → Int64} {σ : gSt} {x4 : Int32} (hf : f_L_law_b495 fu xs L k23 w σ x4 = some 1) : G p l e room_1 s m #[Value.ref b] below meth c 7 (ce + 4) (sl + 24) (lw_Z below #[Value.ref b] s) E w σ 495 [(0, .ref b), (1, .ref (eB E + 0)), (2, .ref (eB E + 583)), (3, .ref (eB E + 605)), (4, .int x4)] [] := by
  unfold f_L_law_b495 at hf
  refine G_goto (tgt := 1598) hC dL_law_495 (by decide) ?_
  exact t_L_law_b1598 hC hN hB hB2 hflag hce hsl hk23 hf

def f_L_law_b442 (fu : Nat) (xs : Nat → Int32) (L : Nat) (k23 : (Nat → Int64) → gSt → Int32 → Option Int32) (w : Nat → Int64) (σ : gSt) (x4 : Int32) : Option Int32 :=
  gd (inb (x4 + (1 : Int32)) L) (bL (f_L_refer fu w σ (xs (x4 + (1 : Int32)).toNatClampNeg)) (fun v1 w1 σ1 => gd (inb (x4 + (1 : Int32)) L) (bd (f_X7_refer fu σ1 (xs (x4 + (1 : Int32)).toNatClampNeg)) (fun v2 σ2 => bd (f_X7_thrown fu σ2 ) (fun v3 σ3 => if v3 = v1 then (if v1 = 0 then (if (lg_cmp (w1 0) ((v2).toInt64)) = 0 then (f_L_law_b495 fu xs L k23 w1 σ3 x4) else (some 0)) else (f_L_law_b495 fu xs L k23 w1 σ3 x4)) else (some 0))))))
set_option maxRecDepth 100000 in
theorem t_L_law_b442 {fu b L : Nat} {xs : Nat → Int32} {k23 : (Nat → Int64) → gSt → Int32 → Option Int32} (hC : gCx p s m #[Value.ref b] meth c cL_law 7 RL (some .boolean) E) (hN : gN s) (hB : gS s E b L xs) (hB2 : s.heap.size ≤ eB E) (hflag : l.stackTraces = false) {ce sl : Nat} (hce : ce + 4 ≤ room_1.cells) (hsl : sl + 24 ≤ room_1.slots) (hk23 : ∀ (w : Nat → Int64) (σ : gSt) (x4 : Int32), k23 w σ x4 = some 1 → G p l e room_1 s m #[Value.ref b] below meth c 7 (ce + 4) (sl + 24) (lw_Z below #[Value.ref b] s) E w σ 23 [(0, .ref b), (1, .ref (eB E + 0)), (2, .ref (eB E + 583)), (3, .ref (eB E + 605)), (4, .int x4)] []) {w : Nat → Int64} {σ : gSt} {x4 : Int32} (hf : f_L_law_b442 fu xs L k23 w σ x4 = some 1) : G p l e room_1 s m #[Value.ref b] below meth c 7 ce sl (lw_Z below #[Value.ref b] s) E w σ 442 [(0, .ref b), (1, .ref (eB E + 0)), (2, .ref (eB E + 583)), (3, .ref (eB E + 605)), (4, .int x4)] [] := by
  unfold f_L_law_b442 at hf
  refine G_aload_n (q := 443) hC dL_law_442 rfl rfl ?_
  refine G_aload_n (q := 444) hC dL_law_443 rfl rfl ?_
  refine G_iload (q := 446) hC dL_law_444 rfl rfl ?_
  refine G_iconst (q := 447) hC dL_law_446 rfl ic_1 ?_
  refine G_iadd (q := 448) hC dL_law_447 rfl ?_
  obtain ⟨g1, hf⟩ := gd_ok hf
  refine G_sld (q := 449) hC dL_law_448 rfl hB g1 ?_
  refine G_aload_n (q := 450) hC dL_law_449 rfl rfl ?_
  obtain ⟨v1, w1, σ1, hm1, hf⟩ := bL_ok hf
  refine G_callL (q := 453) (n := 3) (As := [.ref (eB E + 0), .int (xs (x4 + (1 : Int32)).toNatClampNeg), .ref (eB E + 605)]) (st := []) hC hN dL_law_450 rfl (m_L_refer hflag hm1) (wall (by decide +kernel) rfl) (wall (by decide +kernel) rfl) (wall (by decide +kernel) rfl) (wall (by decide +kernel) rfl) rfl ⟨by decide +kernel, by decide +kernel, by decide +kernel⟩ ⟨Nat.le_of_ble_eq_true rfl, Nat.le_of_ble_eq_true rfl⟩ (Nat.le_of_ble_eq_true rfl) ⟨Nat.le_trans (Nat.add_le_add_left (Nat.le_of_ble_eq_true rfl) _) hce, Nat.le_trans (Nat.add_le_add_left (Nat.le_of_ble_eq_true rfl) _) hsl⟩ ?_
  refine G_widen (k := ce + 4) (n := sl + 24) (Nat.add_le_add_left (Nat.le_of_ble_eq_true rfl) _) (Nat.add_le_add_left (Nat.le_of_ble_eq_true rfl) _) ?_
  refine G_istore (q := 455) (lv' := [(5, .int v1), (0, .ref b), (1, .ref (eB E + 0)), (2, .ref (eB E + 583)), (3, .ref (eB E + 605)), (4, .int x4)]) hC dL_law_453 rfl (by decide) rfl ?_
  refine G_aload_n (q := 456) hC dL_law_455 rfl rfl ?_
  refine G_aload_n (q := 457) hC dL_law_456 rfl rfl ?_
  refine G_iload (q := 459) hC dL_law_457 rfl rfl ?_
  refine G_iconst (q := 460) hC dL_law_459 rfl ic_1 ?_
  refine G_iadd (q := 461) hC dL_law_460 rfl ?_
  obtain ⟨g2, hf⟩ := gd_ok hf
  refine G_sld (q := 462) hC dL_law_461 rfl hB g2 ?_
  obtain ⟨v2, σ2, hm2, hf⟩ := bd_ok hf
  refine cl_RL_114 (q := 465) hC dL_law_462 rfl (m_X7_refer hm2) ⟨Nat.le_of_ble_eq_true rfl, Nat.le_of_ble_eq_true rfl⟩ (Nat.le_of_ble_eq_true rfl) ⟨hce, hsl⟩ ?_
  refine G_istore (q := 467) (lv' := [(6, .int v2), (5, .int v1), (0, .ref b), (1, .ref (eB E + 0)), (2, .ref (eB E + 583)), (3, .ref (eB E + 605)), (4, .int x4)]) hC dL_law_465 rfl (by decide) rfl ?_
  refine G_aload_n (q := 468) hC dL_law_467 rfl rfl ?_
  obtain ⟨v3, σ3, hm3, hf⟩ := bd_ok hf
  refine cl_RL_93 (q := 471) hC dL_law_468 rfl (m_X7_thrown hm3) ⟨Nat.le_of_ble_eq_true rfl, Nat.le_of_ble_eq_true rfl⟩ (Nat.le_of_ble_eq_true rfl) ⟨hce, hsl⟩ ?_
  refine G_iload (q := 473) hC dL_law_471 rfl rfl ?_
  refine G_icmp_eq (tgt := 478) (q := 476) hC dL_law_473 (by decide) rfl (fun c4 => ?_) (fun c4 => ?_)
  · have hf := (if_pos c4).symm.trans hf
    refine G_iload (q := 480) hC dL_law_478 rfl rfl ?_
    refine G_if_ne (tgt := 495) (q := 483) hC dL_law_480 (by decide) rfl (fun c5 => ?_) (fun c5 => ?_)
    · have hf := (if_neg c5).symm.trans hf
      refine G_lv (lv' := [(0, .ref b), (1, .ref (eB E + 0)), (2, .ref (eB E + 583)), (3, .ref (eB E + 605)), (4, .int x4)]) [2, 3, 4, 5, 6] rfl ?_
      exact t_L_law_b495 hC hN hB hB2 hflag hce hsl hk23 hf
    · have hf := (if_pos c5).symm.trans hf
      refine G_aload_n (q := 484) hC dL_law_483 rfl rfl ?_
      refine G_iconst (q := 485) hC dL_law_484 rfl ic_0 ?_
      refine G_lald (q := 486) hC dL_law_485 rfl ?_
      refine G_iload (q := 488) hC dL_law_486 rfl rfl ?_
      refine G_i2l (q := 489) hC dL_law_488 rfl ?_
      refine G_lcmp (q := 490) hC dL_law_489 rfl ?_
      refine G_if_eq (tgt := 495) (q := 493) hC dL_law_490 (by decide) rfl (fun c6 => ?_) (fun c6 => ?_)
      · have hf := (if_pos c6).symm.trans hf
        refine G_lv (lv' := [(0, .ref b), (1, .ref (eB E + 0)), (2, .ref (eB E + 583)), (3, .ref (eB E + 605)), (4, .int x4)]) [2, 3, 4, 5, 6] rfl ?_
        exact t_L_law_b495 hC hN hB hB2 hflag hce hsl hk23 hf
      · have hf := (if_neg c6).symm.trans hf
        refine G_iconst (q := 494) hC dL_law_493 rfl ic_0 ?_
        exact absurd hf (by decide)
  · have hf := (if_neg c4).symm.trans hf
    refine G_iconst (q := 477) hC dL_law_476 rfl ic_0 ?_
    exact absurd hf (by decide)

def f_L_law_b570 (fu : Nat) (xs : Nat → Int32) (L : Nat) (k23 : (Nat → Int64) → gSt → Int32 → Option Int32) (w : Nat → Int64) (σ : gSt) (x4 : Int32) : Option Int32 :=
  f_L_law_b1598 fu xs L k23 w σ x4
set_option maxRecDepth 100000 in
theorem t_L_law_b570 {fu b L : Nat} {xs : Nat → Int32} {k23 : (Nat → Int64) → gSt → Int32 → Option Int32} (hC : gCx p s m #[Value.ref b] meth c cL_law 7 RL (some .boolean) E) (hN : gN s) (hB : gS s E b L xs) (hB2 : s.heap.size ≤ eB E) (hflag : l.stackTraces = false) {ce sl : Nat} (hce : ce + 4 ≤ room_1.cells) (hsl : sl + 24 ≤ room_1.slots) (hk23 : ∀ (w : Nat → Int64) (σ : gSt) (x4 : Int32), k23 w σ x4 = some 1 → G p l e room_1 s m #[Value.ref b] below meth c 7 (ce + 4) (sl + 24) (lw_Z below #[Value.ref b] s) E w σ 23 [(0, .ref b), (1, .ref (eB E + 0)), (2, .ref (eB E + 583)), (3, .ref (eB E + 605)), (4, .int x4)] []) {w : Nat → Int64} {σ : gSt} {x4 : Int32} (hf : f_L_law_b570 fu xs L k23 w σ x4 = some 1) : G p l e room_1 s m #[Value.ref b] below meth c 7 (ce + 4) (sl + 24) (lw_Z below #[Value.ref b] s) E w σ 570 [(0, .ref b), (1, .ref (eB E + 0)), (2, .ref (eB E + 583)), (3, .ref (eB E + 605)), (4, .int x4)] [] := by
  unfold f_L_law_b570 at hf
  refine G_goto (tgt := 1598) hC dL_law_570 (by decide) ?_
  exact t_L_law_b1598 hC hN hB hB2 hflag hce hsl hk23 hf

def f_L_law_b564 (fu : Nat) (xs : Nat → Int32) (L : Nat) (k23 : (Nat → Int64) → gSt → Int32 → Option Int32) (w : Nat → Int64) (σ : gSt) (x4 : Int32) (ys0 : Int64) (ys1 : Int64) : Option Int32 :=
  if (lg_cmp ys0 ys1) = 0 then (f_L_law_b570 fu xs L k23 w σ x4) else (some 0)
set_option maxRecDepth 100000 in
theorem t_L_law_b564 {fu b L : Nat} {xs : Nat → Int32} {k23 : (Nat → Int64) → gSt → Int32 → Option Int32} (hC : gCx p s m #[Value.ref b] meth c cL_law 7 RL (some .boolean) E) (hN : gN s) (hB : gS s E b L xs) (hB2 : s.heap.size ≤ eB E) (hflag : l.stackTraces = false) {ce sl : Nat} (hce : ce + 4 ≤ room_1.cells) (hsl : sl + 24 ≤ room_1.slots) (hk23 : ∀ (w : Nat → Int64) (σ : gSt) (x4 : Int32), k23 w σ x4 = some 1 → G p l e room_1 s m #[Value.ref b] below meth c 7 (ce + 4) (sl + 24) (lw_Z below #[Value.ref b] s) E w σ 23 [(0, .ref b), (1, .ref (eB E + 0)), (2, .ref (eB E + 583)), (3, .ref (eB E + 605)), (4, .int x4)] []) {w : Nat → Int64} {σ : gSt} {x4 : Int32} {ys0 : Int64} {ys1 : Int64} (hf : f_L_law_b564 fu xs L k23 w σ x4 ys0 ys1 = some 1) : G p l e room_1 s m #[Value.ref b] below meth c 7 (ce + 4) (sl + 24) (lw_Z below #[Value.ref b] s) E w σ 564 [(0, .ref b), (1, .ref (eB E + 0)), (2, .ref (eB E + 583)), (3, .ref (eB E + 605)), (4, .int x4)] [.long ys1, .long ys0] := by
  unfold f_L_law_b564 at hf
  refine G_lcmp (q := 565) hC dL_law_564 rfl ?_
  refine G_if_eq (tgt := 570) (q := 568) hC dL_law_565 (by decide) rfl (fun c1 => ?_) (fun c1 => ?_)
  · have hf := (if_pos c1).symm.trans hf
    exact t_L_law_b570 hC hN hB hB2 hflag hce hsl hk23 hf
  · have hf := (if_neg c1).symm.trans hf
    refine G_iconst (q := 569) hC dL_law_568 rfl ic_0 ?_
    exact absurd hf (by decide)

def f_L_law_b498 (fu : Nat) (xs : Nat → Int32) (L : Nat) (k23 : (Nat → Int64) → gSt → Int32 → Option Int32) (w : Nat → Int64) (σ : gSt) (x4 : Int32) : Option Int32 :=
  gd (inb (x4 + (1 : Int32)) L) (gd (inb (x4 + (2 : Int32)) L) (bL (f_L_use fu w σ (xs (x4 + (1 : Int32)).toNatClampNeg) (xs (x4 + (2 : Int32)).toNatClampNeg)) (fun v1 w1 σ1 => gd (inb (x4 + (1 : Int32)) L) (gd (inb (x4 + (2 : Int32)) L) (bd (f_X7_use fu σ1 (xs (x4 + (1 : Int32)).toNatClampNeg) (xs (x4 + (2 : Int32)).toNatClampNeg)) (fun v2 σ2 => bd (f_X7_thrown fu σ2 ) (fun v3 σ3 => if v3 = v1 then (if v1 = 0 then (if v2 = 0 then (f_L_law_b564 fu xs L k23 w1 σ3 x4 (w1 0) (0 : Int64)) else (f_L_law_b564 fu xs L k23 w1 σ3 x4 (w1 0) (1 : Int64))) else (f_L_law_b570 fu xs L k23 w1 σ3 x4)) else (some 0))))))))
set_option maxRecDepth 100000 in
theorem t_L_law_b498 {fu b L : Nat} {xs : Nat → Int32} {k23 : (Nat → Int64) → gSt → Int32 → Option Int32} (hC : gCx p s m #[Value.ref b] meth c cL_law 7 RL (some .boolean) E) (hN : gN s) (hB : gS s E b L xs) (hB2 : s.heap.size ≤ eB E) (hflag : l.stackTraces = false) {ce sl : Nat} (hce : ce + 4 ≤ room_1.cells) (hsl : sl + 24 ≤ room_1.slots) (hk23 : ∀ (w : Nat → Int64) (σ : gSt) (x4 : Int32), k23 w σ x4 = some 1 → G p l e room_1 s m #[Value.ref b] below meth c 7 (ce + 4) (sl + 24) (lw_Z below #[Value.ref b] s) E w σ 23 [(0, .ref b), (1, .ref (eB E + 0)), (2, .ref (eB E + 583)), (3, .ref (eB E + 605)), (4, .int x4)] []) {w : Nat → Int64} {σ : gSt} {x4 : Int32} (hf : f_L_law_b498 fu xs L k23 w σ x4 = some 1) : G p l e room_1 s m #[Value.ref b] below meth c 7 ce sl (lw_Z below #[Value.ref b] s) E w σ 498 [(0, .ref b), (1, .ref (eB E + 0)), (2, .ref (eB E + 583)), (3, .ref (eB E + 605)), (4, .int x4)] [] := by
  unfold f_L_law_b498 at hf
  refine G_aload_n (q := 499) hC dL_law_498 rfl rfl ?_
  refine G_aload_n (q := 500) hC dL_law_499 rfl rfl ?_
  refine G_iload (q := 502) hC dL_law_500 rfl rfl ?_
  refine G_iconst (q := 503) hC dL_law_502 rfl ic_1 ?_
  refine G_iadd (q := 504) hC dL_law_503 rfl ?_
  obtain ⟨g1, hf⟩ := gd_ok hf
  refine G_sld (q := 505) hC dL_law_504 rfl hB g1 ?_
  refine G_aload_n (q := 506) hC dL_law_505 rfl rfl ?_
  refine G_iload (q := 508) hC dL_law_506 rfl rfl ?_
  refine G_iconst (q := 509) hC dL_law_508 rfl ic_2 ?_
  refine G_iadd (q := 510) hC dL_law_509 rfl ?_
  obtain ⟨g2, hf⟩ := gd_ok hf
  refine G_sld (q := 511) hC dL_law_510 rfl hB g2 ?_
  refine G_aload_n (q := 512) hC dL_law_511 rfl rfl ?_
  obtain ⟨v1, w1, σ1, hm1, hf⟩ := bL_ok hf
  refine G_callL (q := 515) (n := 4) (As := [.ref (eB E + 0), .int (xs (x4 + (1 : Int32)).toNatClampNeg), .int (xs (x4 + (2 : Int32)).toNatClampNeg), .ref (eB E + 605)]) (st := []) hC hN dL_law_512 rfl (m_L_use hflag hm1) (wall (by decide +kernel) rfl) (wall (by decide +kernel) rfl) (wall (by decide +kernel) rfl) (wall (by decide +kernel) rfl) rfl ⟨by decide +kernel, by decide +kernel, by decide +kernel⟩ ⟨Nat.le_of_ble_eq_true rfl, Nat.le_of_ble_eq_true rfl⟩ (Nat.le_of_ble_eq_true rfl) ⟨Nat.le_trans (Nat.add_le_add_left (Nat.le_of_ble_eq_true rfl) _) hce, Nat.le_trans (Nat.add_le_add_left (Nat.le_of_ble_eq_true rfl) _) hsl⟩ ?_
  refine G_widen (k := ce + 4) (n := sl + 24) (Nat.add_le_add_left (Nat.le_of_ble_eq_true rfl) _) (Nat.add_le_add_left (Nat.le_of_ble_eq_true rfl) _) ?_
  refine G_istore (q := 517) (lv' := [(5, .int v1), (0, .ref b), (1, .ref (eB E + 0)), (2, .ref (eB E + 583)), (3, .ref (eB E + 605)), (4, .int x4)]) hC dL_law_515 rfl (by decide) rfl ?_
  refine G_aload_n (q := 518) hC dL_law_517 rfl rfl ?_
  refine G_aload_n (q := 519) hC dL_law_518 rfl rfl ?_
  refine G_iload (q := 521) hC dL_law_519 rfl rfl ?_
  refine G_iconst (q := 522) hC dL_law_521 rfl ic_1 ?_
  refine G_iadd (q := 523) hC dL_law_522 rfl ?_
  obtain ⟨g3, hf⟩ := gd_ok hf
  refine G_sld (q := 524) hC dL_law_523 rfl hB g3 ?_
  refine G_aload_n (q := 525) hC dL_law_524 rfl rfl ?_
  refine G_iload (q := 527) hC dL_law_525 rfl rfl ?_
  refine G_iconst (q := 528) hC dL_law_527 rfl ic_2 ?_
  refine G_iadd (q := 529) hC dL_law_528 rfl ?_
  obtain ⟨g4, hf⟩ := gd_ok hf
  refine G_sld (q := 530) hC dL_law_529 rfl hB g4 ?_
  obtain ⟨v2, σ2, hm2, hf⟩ := bd_ok hf
  refine cl_RL_117 (q := 533) hC dL_law_530 rfl (m_X7_use hm2) ⟨Nat.le_of_ble_eq_true rfl, Nat.le_of_ble_eq_true rfl⟩ (Nat.le_of_ble_eq_true rfl) ⟨hce, hsl⟩ ?_
  refine G_istore (q := 535) (lv' := [(6, .int v2), (5, .int v1), (0, .ref b), (1, .ref (eB E + 0)), (2, .ref (eB E + 583)), (3, .ref (eB E + 605)), (4, .int x4)]) hC dL_law_533 rfl (by decide) rfl ?_
  refine G_aload_n (q := 536) hC dL_law_535 rfl rfl ?_
  obtain ⟨v3, σ3, hm3, hf⟩ := bd_ok hf
  refine cl_RL_93 (q := 539) hC dL_law_536 rfl (m_X7_thrown hm3) ⟨Nat.le_of_ble_eq_true rfl, Nat.le_of_ble_eq_true rfl⟩ (Nat.le_of_ble_eq_true rfl) ⟨hce, hsl⟩ ?_
  refine G_iload (q := 541) hC dL_law_539 rfl rfl ?_
  refine G_icmp_eq (tgt := 546) (q := 544) hC dL_law_541 (by decide) rfl (fun c4 => ?_) (fun c4 => ?_)
  · have hf := (if_pos c4).symm.trans hf
    refine G_iload (q := 548) hC dL_law_546 rfl rfl ?_
    refine G_if_ne (tgt := 570) (q := 551) hC dL_law_548 (by decide) rfl (fun c5 => ?_) (fun c5 => ?_)
    · have hf := (if_neg c5).symm.trans hf
      refine G_lv (lv' := [(0, .ref b), (1, .ref (eB E + 0)), (2, .ref (eB E + 583)), (3, .ref (eB E + 605)), (4, .int x4)]) [2, 3, 4, 5, 6] rfl ?_
      exact t_L_law_b570 hC hN hB hB2 hflag hce hsl hk23 hf
    · have hf := (if_pos c5).symm.trans hf
      refine G_aload_n (q := 552) hC dL_law_551 rfl rfl ?_
      refine G_iconst (q := 553) hC dL_law_552 rfl ic_0 ?_
      refine G_lald (q := 554) hC dL_law_553 rfl ?_
      refine G_iload (q := 556) hC dL_law_554 rfl rfl ?_
      refine G_if_eq (tgt := 563) (q := 559) hC dL_law_556 (by decide) rfl (fun c6 => ?_) (fun c6 => ?_)
      · have hf := (if_pos c6).symm.trans hf
        refine G_lconst (v := 0) (q := 564) hC dL_law_563 rfl (by decide) ?_
        refine G_lv (lv' := [(0, .ref b), (1, .ref (eB E + 0)), (2, .ref (eB E + 583)), (3, .ref (eB E + 605)), (4, .int x4)]) [2, 3, 4, 5, 6] rfl ?_
        exact t_L_law_b564 hC hN hB hB2 hflag hce hsl hk23 hf
      · have hf := (if_neg c6).symm.trans hf
        refine G_lconst (v := 1) (q := 560) hC dL_law_559 rfl (by decide) ?_
        refine G_goto (tgt := 564) hC dL_law_560 (by decide) ?_
        refine G_lv (lv' := [(0, .ref b), (1, .ref (eB E + 0)), (2, .ref (eB E + 583)), (3, .ref (eB E + 605)), (4, .int x4)]) [2, 3, 4, 5, 6] rfl ?_
        exact t_L_law_b564 hC hN hB hB2 hflag hce hsl hk23 hf
  · have hf := (if_neg c4).symm.trans hf
    refine G_iconst (q := 545) hC dL_law_544 rfl ic_0 ?_
    exact absurd hf (by decide)

def f_L_law_b638 (fu : Nat) (xs : Nat → Int32) (L : Nat) (k23 : (Nat → Int64) → gSt → Int32 → Option Int32) (w : Nat → Int64) (σ : gSt) (x4 : Int32) : Option Int32 :=
  f_L_law_b1598 fu xs L k23 w σ x4
set_option maxRecDepth 100000 in
theorem t_L_law_b638 {fu b L : Nat} {xs : Nat → Int32} {k23 : (Nat → Int64) → gSt → Int32 → Option Int32} (hC : gCx p s m #[Value.ref b] meth c cL_law 7 RL (some .boolean) E) (hN : gN s) (hB : gS s E b L xs) (hB2 : s.heap.size ≤ eB E) (hflag : l.stackTraces = false) {ce sl : Nat} (hce : ce + 4 ≤ room_1.cells) (hsl : sl + 24 ≤ room_1.slots) (hk23 : ∀ (w : Nat → Int64) (σ : gSt) (x4 : Int32), k23 w σ x4 = some 1 → G p l e room_1 s m #[Value.ref b] below meth c 7 (ce + 4) (sl + 24) (lw_Z below #[Value.ref b] s) E w σ 23 [(0, .ref b), (1, .ref (eB E + 0)), (2, .ref (eB E + 583)), (3, .ref (eB E + 605)), (4, .int x4)] []) {w : Nat → Int64} {σ : gSt} {x4 : Int32} (hf : f_L_law_b638 fu xs L k23 w σ x4 = some 1) : G p l e room_1 s m #[Value.ref b] below meth c 7 (ce + 4) (sl + 24) (lw_Z below #[Value.ref b] s) E w σ 638 [(0, .ref b), (1, .ref (eB E + 0)), (2, .ref (eB E + 583)), (3, .ref (eB E + 605)), (4, .int x4)] [] := by
  unfold f_L_law_b638 at hf
  refine G_goto (tgt := 1598) hC dL_law_638 (by decide) ?_
  exact t_L_law_b1598 hC hN hB hB2 hflag hce hsl hk23 hf

def f_L_law_b573 (fu : Nat) (xs : Nat → Int32) (L : Nat) (k23 : (Nat → Int64) → gSt → Int32 → Option Int32) (w : Nat → Int64) (σ : gSt) (x4 : Int32) : Option Int32 :=
  gd (inb (x4 + (1 : Int32)) L) (gd (inb (x4 + (2 : Int32)) L) (bL (f_L_change fu w σ (xs (x4 + (1 : Int32)).toNatClampNeg) (xs (x4 + (2 : Int32)).toNatClampNeg)) (fun v1 w1 σ1 => gd (inb (x4 + (1 : Int32)) L) (gd (inb (x4 + (2 : Int32)) L) (bd (f_X7_change fu σ1 (xs (x4 + (1 : Int32)).toNatClampNeg) (xs (x4 + (2 : Int32)).toNatClampNeg)) (fun v2 σ2 => bd (f_X7_thrown fu σ2 ) (fun v3 σ3 => if v3 = v1 then (if v1 = 0 then (if (lg_cmp (w1 0) ((v2).toInt64)) = 0 then (f_L_law_b638 fu xs L k23 w1 σ3 x4) else (some 0)) else (f_L_law_b638 fu xs L k23 w1 σ3 x4)) else (some 0))))))))
set_option maxRecDepth 100000 in
theorem t_L_law_b573 {fu b L : Nat} {xs : Nat → Int32} {k23 : (Nat → Int64) → gSt → Int32 → Option Int32} (hC : gCx p s m #[Value.ref b] meth c cL_law 7 RL (some .boolean) E) (hN : gN s) (hB : gS s E b L xs) (hB2 : s.heap.size ≤ eB E) (hflag : l.stackTraces = false) {ce sl : Nat} (hce : ce + 4 ≤ room_1.cells) (hsl : sl + 24 ≤ room_1.slots) (hk23 : ∀ (w : Nat → Int64) (σ : gSt) (x4 : Int32), k23 w σ x4 = some 1 → G p l e room_1 s m #[Value.ref b] below meth c 7 (ce + 4) (sl + 24) (lw_Z below #[Value.ref b] s) E w σ 23 [(0, .ref b), (1, .ref (eB E + 0)), (2, .ref (eB E + 583)), (3, .ref (eB E + 605)), (4, .int x4)] []) {w : Nat → Int64} {σ : gSt} {x4 : Int32} (hf : f_L_law_b573 fu xs L k23 w σ x4 = some 1) : G p l e room_1 s m #[Value.ref b] below meth c 7 ce sl (lw_Z below #[Value.ref b] s) E w σ 573 [(0, .ref b), (1, .ref (eB E + 0)), (2, .ref (eB E + 583)), (3, .ref (eB E + 605)), (4, .int x4)] [] := by
  unfold f_L_law_b573 at hf
  refine G_aload_n (q := 574) hC dL_law_573 rfl rfl ?_
  refine G_aload_n (q := 575) hC dL_law_574 rfl rfl ?_
  refine G_iload (q := 577) hC dL_law_575 rfl rfl ?_
  refine G_iconst (q := 578) hC dL_law_577 rfl ic_1 ?_
  refine G_iadd (q := 579) hC dL_law_578 rfl ?_
  obtain ⟨g1, hf⟩ := gd_ok hf
  refine G_sld (q := 580) hC dL_law_579 rfl hB g1 ?_
  refine G_aload_n (q := 581) hC dL_law_580 rfl rfl ?_
  refine G_iload (q := 583) hC dL_law_581 rfl rfl ?_
  refine G_iconst (q := 584) hC dL_law_583 rfl ic_2 ?_
  refine G_iadd (q := 585) hC dL_law_584 rfl ?_
  obtain ⟨g2, hf⟩ := gd_ok hf
  refine G_sld (q := 586) hC dL_law_585 rfl hB g2 ?_
  refine G_aload_n (q := 587) hC dL_law_586 rfl rfl ?_
  obtain ⟨v1, w1, σ1, hm1, hf⟩ := bL_ok hf
  refine G_callL (q := 590) (n := 4) (As := [.ref (eB E + 0), .int (xs (x4 + (1 : Int32)).toNatClampNeg), .int (xs (x4 + (2 : Int32)).toNatClampNeg), .ref (eB E + 605)]) (st := []) hC hN dL_law_587 rfl (m_L_change hflag hm1) (wall (by decide +kernel) rfl) (wall (by decide +kernel) rfl) (wall (by decide +kernel) rfl) (wall (by decide +kernel) rfl) rfl ⟨by decide +kernel, by decide +kernel, by decide +kernel⟩ ⟨Nat.le_of_ble_eq_true rfl, Nat.le_of_ble_eq_true rfl⟩ (Nat.le_of_ble_eq_true rfl) ⟨Nat.le_trans (Nat.add_le_add_left (Nat.le_of_ble_eq_true rfl) _) hce, Nat.le_trans (Nat.add_le_add_left (Nat.le_of_ble_eq_true rfl) _) hsl⟩ ?_
  refine G_widen (k := ce + 4) (n := sl + 24) (Nat.add_le_add_left (Nat.le_of_ble_eq_true rfl) _) (Nat.add_le_add_left (Nat.le_of_ble_eq_true rfl) _) ?_
  refine G_istore (q := 592) (lv' := [(5, .int v1), (0, .ref b), (1, .ref (eB E + 0)), (2, .ref (eB E + 583)), (3, .ref (eB E + 605)), (4, .int x4)]) hC dL_law_590 rfl (by decide) rfl ?_
  refine G_aload_n (q := 593) hC dL_law_592 rfl rfl ?_
  refine G_aload_n (q := 594) hC dL_law_593 rfl rfl ?_
  refine G_iload (q := 596) hC dL_law_594 rfl rfl ?_
  refine G_iconst (q := 597) hC dL_law_596 rfl ic_1 ?_
  refine G_iadd (q := 598) hC dL_law_597 rfl ?_
  obtain ⟨g3, hf⟩ := gd_ok hf
  refine G_sld (q := 599) hC dL_law_598 rfl hB g3 ?_
  refine G_aload_n (q := 600) hC dL_law_599 rfl rfl ?_
  refine G_iload (q := 602) hC dL_law_600 rfl rfl ?_
  refine G_iconst (q := 603) hC dL_law_602 rfl ic_2 ?_
  refine G_iadd (q := 604) hC dL_law_603 rfl ?_
  obtain ⟨g4, hf⟩ := gd_ok hf
  refine G_sld (q := 605) hC dL_law_604 rfl hB g4 ?_
  obtain ⟨v2, σ2, hm2, hf⟩ := bd_ok hf
  refine cl_RL_120 (q := 608) hC dL_law_605 rfl (m_X7_change hm2) ⟨Nat.le_of_ble_eq_true rfl, Nat.le_of_ble_eq_true rfl⟩ (Nat.le_of_ble_eq_true rfl) ⟨hce, hsl⟩ ?_
  refine G_istore (q := 610) (lv' := [(6, .int v2), (5, .int v1), (0, .ref b), (1, .ref (eB E + 0)), (2, .ref (eB E + 583)), (3, .ref (eB E + 605)), (4, .int x4)]) hC dL_law_608 rfl (by decide) rfl ?_
  refine G_aload_n (q := 611) hC dL_law_610 rfl rfl ?_
  obtain ⟨v3, σ3, hm3, hf⟩ := bd_ok hf
  refine cl_RL_93 (q := 614) hC dL_law_611 rfl (m_X7_thrown hm3) ⟨Nat.le_of_ble_eq_true rfl, Nat.le_of_ble_eq_true rfl⟩ (Nat.le_of_ble_eq_true rfl) ⟨hce, hsl⟩ ?_
  refine G_iload (q := 616) hC dL_law_614 rfl rfl ?_
  refine G_icmp_eq (tgt := 621) (q := 619) hC dL_law_616 (by decide) rfl (fun c4 => ?_) (fun c4 => ?_)
  · have hf := (if_pos c4).symm.trans hf
    refine G_iload (q := 623) hC dL_law_621 rfl rfl ?_
    refine G_if_ne (tgt := 638) (q := 626) hC dL_law_623 (by decide) rfl (fun c5 => ?_) (fun c5 => ?_)
    · have hf := (if_neg c5).symm.trans hf
      refine G_lv (lv' := [(0, .ref b), (1, .ref (eB E + 0)), (2, .ref (eB E + 583)), (3, .ref (eB E + 605)), (4, .int x4)]) [2, 3, 4, 5, 6] rfl ?_
      exact t_L_law_b638 hC hN hB hB2 hflag hce hsl hk23 hf
    · have hf := (if_pos c5).symm.trans hf
      refine G_aload_n (q := 627) hC dL_law_626 rfl rfl ?_
      refine G_iconst (q := 628) hC dL_law_627 rfl ic_0 ?_
      refine G_lald (q := 629) hC dL_law_628 rfl ?_
      refine G_iload (q := 631) hC dL_law_629 rfl rfl ?_
      refine G_i2l (q := 632) hC dL_law_631 rfl ?_
      refine G_lcmp (q := 633) hC dL_law_632 rfl ?_
      refine G_if_eq (tgt := 638) (q := 636) hC dL_law_633 (by decide) rfl (fun c6 => ?_) (fun c6 => ?_)
      · have hf := (if_pos c6).symm.trans hf
        refine G_lv (lv' := [(0, .ref b), (1, .ref (eB E + 0)), (2, .ref (eB E + 583)), (3, .ref (eB E + 605)), (4, .int x4)]) [2, 3, 4, 5, 6] rfl ?_
        exact t_L_law_b638 hC hN hB hB2 hflag hce hsl hk23 hf
      · have hf := (if_neg c6).symm.trans hf
        refine G_iconst (q := 637) hC dL_law_636 rfl ic_0 ?_
        exact absurd hf (by decide)
  · have hf := (if_neg c4).symm.trans hf
    refine G_iconst (q := 620) hC dL_law_619 rfl ic_0 ?_
    exact absurd hf (by decide)

def f_L_law_b729 (fu : Nat) (xs : Nat → Int32) (L : Nat) (k23 : (Nat → Int64) → gSt → Int32 → Option Int32) (w : Nat → Int64) (σ : gSt) (x4 : Int32) : Option Int32 :=
  f_L_law_b1598 fu xs L k23 w σ x4
set_option maxRecDepth 100000 in
theorem t_L_law_b729 {fu b L : Nat} {xs : Nat → Int32} {k23 : (Nat → Int64) → gSt → Int32 → Option Int32} (hC : gCx p s m #[Value.ref b] meth c cL_law 7 RL (some .boolean) E) (hN : gN s) (hB : gS s E b L xs) (hB2 : s.heap.size ≤ eB E) (hflag : l.stackTraces = false) {ce sl : Nat} (hce : ce + 4 ≤ room_1.cells) (hsl : sl + 24 ≤ room_1.slots) (hk23 : ∀ (w : Nat → Int64) (σ : gSt) (x4 : Int32), k23 w σ x4 = some 1 → G p l e room_1 s m #[Value.ref b] below meth c 7 (ce + 4) (sl + 24) (lw_Z below #[Value.ref b] s) E w σ 23 [(0, .ref b), (1, .ref (eB E + 0)), (2, .ref (eB E + 583)), (3, .ref (eB E + 605)), (4, .int x4)] []) {w : Nat → Int64} {σ : gSt} {x4 : Int32} (hf : f_L_law_b729 fu xs L k23 w σ x4 = some 1) : G p l e room_1 s m #[Value.ref b] below meth c 7 (ce + 4) (sl + 24) (lw_Z below #[Value.ref b] s) E w σ 729 [(0, .ref b), (1, .ref (eB E + 0)), (2, .ref (eB E + 583)), (3, .ref (eB E + 605)), (4, .int x4)] [] := by
  unfold f_L_law_b729 at hf
  refine G_goto (tgt := 1598) hC dL_law_729 (by decide) ?_
  exact t_L_law_b1598 hC hN hB hB2 hflag hce hsl hk23 hf

def f_L_law_b723 (fu : Nat) (xs : Nat → Int32) (L : Nat) (k23 : (Nat → Int64) → gSt → Int32 → Option Int32) (w : Nat → Int64) (σ : gSt) (x4 : Int32) (ys0 : Int64) (ys1 : Int64) : Option Int32 :=
  if (lg_cmp ys0 ys1) = 0 then (f_L_law_b729 fu xs L k23 w σ x4) else (some 0)
set_option maxRecDepth 100000 in
theorem t_L_law_b723 {fu b L : Nat} {xs : Nat → Int32} {k23 : (Nat → Int64) → gSt → Int32 → Option Int32} (hC : gCx p s m #[Value.ref b] meth c cL_law 7 RL (some .boolean) E) (hN : gN s) (hB : gS s E b L xs) (hB2 : s.heap.size ≤ eB E) (hflag : l.stackTraces = false) {ce sl : Nat} (hce : ce + 4 ≤ room_1.cells) (hsl : sl + 24 ≤ room_1.slots) (hk23 : ∀ (w : Nat → Int64) (σ : gSt) (x4 : Int32), k23 w σ x4 = some 1 → G p l e room_1 s m #[Value.ref b] below meth c 7 (ce + 4) (sl + 24) (lw_Z below #[Value.ref b] s) E w σ 23 [(0, .ref b), (1, .ref (eB E + 0)), (2, .ref (eB E + 583)), (3, .ref (eB E + 605)), (4, .int x4)] []) {w : Nat → Int64} {σ : gSt} {x4 : Int32} {ys0 : Int64} {ys1 : Int64} (hf : f_L_law_b723 fu xs L k23 w σ x4 ys0 ys1 = some 1) : G p l e room_1 s m #[Value.ref b] below meth c 7 (ce + 4) (sl + 24) (lw_Z below #[Value.ref b] s) E w σ 723 [(0, .ref b), (1, .ref (eB E + 0)), (2, .ref (eB E + 583)), (3, .ref (eB E + 605)), (4, .int x4)] [.long ys1, .long ys0] := by
  unfold f_L_law_b723 at hf
  refine G_lcmp (q := 724) hC dL_law_723 rfl ?_
  refine G_if_eq (tgt := 729) (q := 727) hC dL_law_724 (by decide) rfl (fun c1 => ?_) (fun c1 => ?_)
  · have hf := (if_pos c1).symm.trans hf
    exact t_L_law_b729 hC hN hB hB2 hflag hce hsl hk23 hf
  · have hf := (if_neg c1).symm.trans hf
    refine G_iconst (q := 728) hC dL_law_727 rfl ic_0 ?_
    exact absurd hf (by decide)

def f_L_law_b689 (fu : Nat) (xs : Nat → Int32) (L : Nat) (k23 : (Nat → Int64) → gSt → Int32 → Option Int32) (w : Nat → Int64) (σ : gSt) (x4 : Int32) (x5 : Int32) (xs1 : Int32) (xs2 : Int32) : Option Int32 :=
  bd (f_X7_forbid fu σ xs1 xs2) (fun v1 σ1 => bd (f_X7_thrown fu σ1 ) (fun v2 σ2 => if v2 = x5 then (if x5 = 0 then (if v1 = 0 then (f_L_law_b723 fu xs L k23 w σ2 x4 (w 0) (0 : Int64)) else (f_L_law_b723 fu xs L k23 w σ2 x4 (w 0) (1 : Int64))) else (f_L_law_b729 fu xs L k23 w σ2 x4)) else (some 0)))
set_option maxRecDepth 100000 in
theorem t_L_law_b689 {fu b L : Nat} {xs : Nat → Int32} {k23 : (Nat → Int64) → gSt → Int32 → Option Int32} (hC : gCx p s m #[Value.ref b] meth c cL_law 7 RL (some .boolean) E) (hN : gN s) (hB : gS s E b L xs) (hB2 : s.heap.size ≤ eB E) (hflag : l.stackTraces = false) {ce sl : Nat} (hce : ce + 4 ≤ room_1.cells) (hsl : sl + 24 ≤ room_1.slots) (hk23 : ∀ (w : Nat → Int64) (σ : gSt) (x4 : Int32), k23 w σ x4 = some 1 → G p l e room_1 s m #[Value.ref b] below meth c 7 (ce + 4) (sl + 24) (lw_Z below #[Value.ref b] s) E w σ 23 [(0, .ref b), (1, .ref (eB E + 0)), (2, .ref (eB E + 583)), (3, .ref (eB E + 605)), (4, .int x4)] []) {w : Nat → Int64} {σ : gSt} {x4 : Int32} {x5 : Int32} {xs1 : Int32} {xs2 : Int32} (hf : f_L_law_b689 fu xs L k23 w σ x4 x5 xs1 xs2 = some 1) : G p l e room_1 s m #[Value.ref b] below meth c 7 (ce + 4) (sl + 24) (lw_Z below #[Value.ref b] s) E w σ 689 [(0, .ref b), (1, .ref (eB E + 0)), (2, .ref (eB E + 583)), (3, .ref (eB E + 605)), (4, .int x4), (5, .int x5)] [.int xs2, .int xs1, .ref (eB E + 583)] := by
  unfold f_L_law_b689 at hf
  obtain ⟨v1, σ1, hm1, hf⟩ := bd_ok hf
  refine cl_RL_124 (q := 692) hC dL_law_689 rfl (m_X7_forbid hm1) ⟨Nat.le_of_ble_eq_true rfl, Nat.le_of_ble_eq_true rfl⟩ (Nat.le_of_ble_eq_true rfl) ⟨hce, hsl⟩ ?_
  refine G_istore (q := 694) (lv' := [(6, .int v1), (0, .ref b), (1, .ref (eB E + 0)), (2, .ref (eB E + 583)), (3, .ref (eB E + 605)), (4, .int x4), (5, .int x5)]) hC dL_law_692 rfl (by decide) rfl ?_
  refine G_aload_n (q := 695) hC dL_law_694 rfl rfl ?_
  obtain ⟨v2, σ2, hm2, hf⟩ := bd_ok hf
  refine cl_RL_93 (q := 698) hC dL_law_695 rfl (m_X7_thrown hm2) ⟨Nat.le_of_ble_eq_true rfl, Nat.le_of_ble_eq_true rfl⟩ (Nat.le_of_ble_eq_true rfl) ⟨hce, hsl⟩ ?_
  refine G_iload (q := 700) hC dL_law_698 rfl rfl ?_
  refine G_icmp_eq (tgt := 705) (q := 703) hC dL_law_700 (by decide) rfl (fun c3 => ?_) (fun c3 => ?_)
  · have hf := (if_pos c3).symm.trans hf
    refine G_iload (q := 707) hC dL_law_705 rfl rfl ?_
    refine G_if_ne (tgt := 729) (q := 710) hC dL_law_707 (by decide) rfl (fun c4 => ?_) (fun c4 => ?_)
    · have hf := (if_neg c4).symm.trans hf
      refine G_lv (lv' := [(0, .ref b), (1, .ref (eB E + 0)), (2, .ref (eB E + 583)), (3, .ref (eB E + 605)), (4, .int x4)]) [1, 2, 3, 4, 5] rfl ?_
      exact t_L_law_b729 hC hN hB hB2 hflag hce hsl hk23 hf
    · have hf := (if_pos c4).symm.trans hf
      refine G_aload_n (q := 711) hC dL_law_710 rfl rfl ?_
      refine G_iconst (q := 712) hC dL_law_711 rfl ic_0 ?_
      refine G_lald (q := 713) hC dL_law_712 rfl ?_
      refine G_iload (q := 715) hC dL_law_713 rfl rfl ?_
      refine G_if_eq (tgt := 722) (q := 718) hC dL_law_715 (by decide) rfl (fun c5 => ?_) (fun c5 => ?_)
      · have hf := (if_pos c5).symm.trans hf
        refine G_lconst (v := 0) (q := 723) hC dL_law_722 rfl (by decide) ?_
        refine G_lv (lv' := [(0, .ref b), (1, .ref (eB E + 0)), (2, .ref (eB E + 583)), (3, .ref (eB E + 605)), (4, .int x4)]) [1, 2, 3, 4, 5] rfl ?_
        exact t_L_law_b723 hC hN hB hB2 hflag hce hsl hk23 hf
      · have hf := (if_neg c5).symm.trans hf
        refine G_lconst (v := 1) (q := 719) hC dL_law_718 rfl (by decide) ?_
        refine G_goto (tgt := 723) hC dL_law_719 (by decide) ?_
        refine G_lv (lv' := [(0, .ref b), (1, .ref (eB E + 0)), (2, .ref (eB E + 583)), (3, .ref (eB E + 605)), (4, .int x4)]) [1, 2, 3, 4, 5] rfl ?_
        exact t_L_law_b723 hC hN hB hB2 hflag hce hsl hk23 hf
  · have hf := (if_neg c3).symm.trans hf
    refine G_iconst (q := 704) hC dL_law_703 rfl ic_0 ?_
    exact absurd hf (by decide)

def f_L_law_b662 (fu : Nat) (xs : Nat → Int32) (L : Nat) (k23 : (Nat → Int64) → gSt → Int32 → Option Int32) (w : Nat → Int64) (σ : gSt) (x4 : Int32) (xs1 : Int32) (xs2 : Int32) : Option Int32 :=
  bL (f_L_forbid fu w σ xs1 xs2) (fun v1 w1 σ1 => gd (inb (x4 + (1 : Int32)) L) (gd (inb (x4 + (2 : Int32)) L) (if (xs (x4 + (2 : Int32)).toNatClampNeg) = 0 then (f_L_law_b689 fu xs L k23 w1 σ1 x4 v1 (xs (x4 + (1 : Int32)).toNatClampNeg) (0 : Int32)) else (f_L_law_b689 fu xs L k23 w1 σ1 x4 v1 (xs (x4 + (1 : Int32)).toNatClampNeg) (1 : Int32)))))
set_option maxRecDepth 100000 in
theorem t_L_law_b662 {fu b L : Nat} {xs : Nat → Int32} {k23 : (Nat → Int64) → gSt → Int32 → Option Int32} (hC : gCx p s m #[Value.ref b] meth c cL_law 7 RL (some .boolean) E) (hN : gN s) (hB : gS s E b L xs) (hB2 : s.heap.size ≤ eB E) (hflag : l.stackTraces = false) {ce sl : Nat} (hce : ce + 4 ≤ room_1.cells) (hsl : sl + 24 ≤ room_1.slots) (hk23 : ∀ (w : Nat → Int64) (σ : gSt) (x4 : Int32), k23 w σ x4 = some 1 → G p l e room_1 s m #[Value.ref b] below meth c 7 (ce + 4) (sl + 24) (lw_Z below #[Value.ref b] s) E w σ 23 [(0, .ref b), (1, .ref (eB E + 0)), (2, .ref (eB E + 583)), (3, .ref (eB E + 605)), (4, .int x4)] []) {w : Nat → Int64} {σ : gSt} {x4 : Int32} {xs1 : Int32} {xs2 : Int32} (hf : f_L_law_b662 fu xs L k23 w σ x4 xs1 xs2 = some 1) : G p l e room_1 s m #[Value.ref b] below meth c 7 ce sl (lw_Z below #[Value.ref b] s) E w σ 662 [(0, .ref b), (1, .ref (eB E + 0)), (2, .ref (eB E + 583)), (3, .ref (eB E + 605)), (4, .int x4)] [.int xs2, .int xs1, .ref (eB E + 0)] := by
  unfold f_L_law_b662 at hf
  refine G_aload_n (q := 663) hC dL_law_662 rfl rfl ?_
  obtain ⟨v1, w1, σ1, hm1, hf⟩ := bL_ok hf
  refine G_callL (q := 666) (n := 4) (As := [.ref (eB E + 0), .int xs1, .int xs2, .ref (eB E + 605)]) (st := []) hC hN dL_law_663 rfl (m_L_forbid hflag hm1) (wall (by decide +kernel) rfl) (wall (by decide +kernel) rfl) (wall (by decide +kernel) rfl) (wall (by decide +kernel) rfl) rfl ⟨by decide +kernel, by decide +kernel, by decide +kernel⟩ ⟨Nat.le_of_ble_eq_true rfl, Nat.le_of_ble_eq_true rfl⟩ (Nat.le_of_ble_eq_true rfl) ⟨Nat.le_trans (Nat.add_le_add_left (Nat.le_of_ble_eq_true rfl) _) hce, Nat.le_trans (Nat.add_le_add_left (Nat.le_of_ble_eq_true rfl) _) hsl⟩ ?_
  refine G_widen (k := ce + 4) (n := sl + 24) (Nat.add_le_add_left (Nat.le_of_ble_eq_true rfl) _) (Nat.add_le_add_left (Nat.le_of_ble_eq_true rfl) _) ?_
  refine G_istore (q := 668) (lv' := [(5, .int v1), (0, .ref b), (1, .ref (eB E + 0)), (2, .ref (eB E + 583)), (3, .ref (eB E + 605)), (4, .int x4)]) hC dL_law_666 rfl (by decide) rfl ?_
  refine G_aload_n (q := 669) hC dL_law_668 rfl rfl ?_
  refine G_aload_n (q := 670) hC dL_law_669 rfl rfl ?_
  refine G_iload (q := 672) hC dL_law_670 rfl rfl ?_
  refine G_iconst (q := 673) hC dL_law_672 rfl ic_1 ?_
  refine G_iadd (q := 674) hC dL_law_673 rfl ?_
  obtain ⟨g1, hf⟩ := gd_ok hf
  refine G_sld (q := 675) hC dL_law_674 rfl hB g1 ?_
  refine G_aload_n (q := 676) hC dL_law_675 rfl rfl ?_
  refine G_iload (q := 678) hC dL_law_676 rfl rfl ?_
  refine G_iconst (q := 679) hC dL_law_678 rfl ic_2 ?_
  refine G_iadd (q := 680) hC dL_law_679 rfl ?_
  obtain ⟨g2, hf⟩ := gd_ok hf
  refine G_sld (q := 681) hC dL_law_680 rfl hB g2 ?_
  refine G_if_eq (tgt := 688) (q := 684) hC dL_law_681 (by decide) rfl (fun c2 => ?_) (fun c2 => ?_)
  · have hf := (if_pos c2).symm.trans hf
    refine G_iconst (q := 689) hC dL_law_688 rfl ic_0 ?_
    refine G_lv (lv' := [(0, .ref b), (1, .ref (eB E + 0)), (2, .ref (eB E + 583)), (3, .ref (eB E + 605)), (4, .int x4), (5, .int v1)]) [1, 2, 3, 4, 5, 0] rfl ?_
    exact t_L_law_b689 hC hN hB hB2 hflag hce hsl hk23 hf
  · have hf := (if_neg c2).symm.trans hf
    refine G_iconst (q := 685) hC dL_law_684 rfl ic_1 ?_
    refine G_goto (tgt := 689) hC dL_law_685 (by decide) ?_
    refine G_lv (lv' := [(0, .ref b), (1, .ref (eB E + 0)), (2, .ref (eB E + 583)), (3, .ref (eB E + 605)), (4, .int x4), (5, .int v1)]) [1, 2, 3, 4, 5, 0] rfl ?_
    exact t_L_law_b689 hC hN hB hB2 hflag hce hsl hk23 hf

def f_L_law_b641 (fu : Nat) (xs : Nat → Int32) (L : Nat) (k23 : (Nat → Int64) → gSt → Int32 → Option Int32) (w : Nat → Int64) (σ : gSt) (x4 : Int32) : Option Int32 :=
  gd (inb (x4 + (1 : Int32)) L) (gd (inb (x4 + (2 : Int32)) L) (if (xs (x4 + (2 : Int32)).toNatClampNeg) = 0 then (f_L_law_b662 fu xs L k23 w σ x4 (xs (x4 + (1 : Int32)).toNatClampNeg) (0 : Int32)) else (f_L_law_b662 fu xs L k23 w σ x4 (xs (x4 + (1 : Int32)).toNatClampNeg) (1 : Int32))))
set_option maxRecDepth 100000 in
theorem t_L_law_b641 {fu b L : Nat} {xs : Nat → Int32} {k23 : (Nat → Int64) → gSt → Int32 → Option Int32} (hC : gCx p s m #[Value.ref b] meth c cL_law 7 RL (some .boolean) E) (hN : gN s) (hB : gS s E b L xs) (hB2 : s.heap.size ≤ eB E) (hflag : l.stackTraces = false) {ce sl : Nat} (hce : ce + 4 ≤ room_1.cells) (hsl : sl + 24 ≤ room_1.slots) (hk23 : ∀ (w : Nat → Int64) (σ : gSt) (x4 : Int32), k23 w σ x4 = some 1 → G p l e room_1 s m #[Value.ref b] below meth c 7 (ce + 4) (sl + 24) (lw_Z below #[Value.ref b] s) E w σ 23 [(0, .ref b), (1, .ref (eB E + 0)), (2, .ref (eB E + 583)), (3, .ref (eB E + 605)), (4, .int x4)] []) {w : Nat → Int64} {σ : gSt} {x4 : Int32} (hf : f_L_law_b641 fu xs L k23 w σ x4 = some 1) : G p l e room_1 s m #[Value.ref b] below meth c 7 ce sl (lw_Z below #[Value.ref b] s) E w σ 641 [(0, .ref b), (1, .ref (eB E + 0)), (2, .ref (eB E + 583)), (3, .ref (eB E + 605)), (4, .int x4)] [] := by
  unfold f_L_law_b641 at hf
  refine G_aload_n (q := 642) hC dL_law_641 rfl rfl ?_
  refine G_aload_n (q := 643) hC dL_law_642 rfl rfl ?_
  refine G_iload (q := 645) hC dL_law_643 rfl rfl ?_
  refine G_iconst (q := 646) hC dL_law_645 rfl ic_1 ?_
  refine G_iadd (q := 647) hC dL_law_646 rfl ?_
  obtain ⟨g1, hf⟩ := gd_ok hf
  refine G_sld (q := 648) hC dL_law_647 rfl hB g1 ?_
  refine G_aload_n (q := 649) hC dL_law_648 rfl rfl ?_
  refine G_iload (q := 651) hC dL_law_649 rfl rfl ?_
  refine G_iconst (q := 652) hC dL_law_651 rfl ic_2 ?_
  refine G_iadd (q := 653) hC dL_law_652 rfl ?_
  obtain ⟨g2, hf⟩ := gd_ok hf
  refine G_sld (q := 654) hC dL_law_653 rfl hB g2 ?_
  refine G_if_eq (tgt := 661) (q := 657) hC dL_law_654 (by decide) rfl (fun c1 => ?_) (fun c1 => ?_)
  · have hf := (if_pos c1).symm.trans hf
    refine G_iconst (q := 662) hC dL_law_661 rfl ic_0 ?_
    exact t_L_law_b662 hC hN hB hB2 hflag hce hsl hk23 hf
  · have hf := (if_neg c1).symm.trans hf
    refine G_iconst (q := 658) hC dL_law_657 rfl ic_1 ?_
    refine G_goto (tgt := 662) hC dL_law_658 (by decide) ?_
    exact t_L_law_b662 hC hN hB hB2 hflag hce hsl hk23 hf

def f_L_law_b799 (fu : Nat) (xs : Nat → Int32) (L : Nat) (k23 : (Nat → Int64) → gSt → Int32 → Option Int32) (w : Nat → Int64) (σ : gSt) (x4 : Int32) : Option Int32 :=
  f_L_law_b1598 fu xs L k23 w σ x4
set_option maxRecDepth 100000 in
theorem t_L_law_b799 {fu b L : Nat} {xs : Nat → Int32} {k23 : (Nat → Int64) → gSt → Int32 → Option Int32} (hC : gCx p s m #[Value.ref b] meth c cL_law 7 RL (some .boolean) E) (hN : gN s) (hB : gS s E b L xs) (hB2 : s.heap.size ≤ eB E) (hflag : l.stackTraces = false) {ce sl : Nat} (hce : ce + 4 ≤ room_1.cells) (hsl : sl + 24 ≤ room_1.slots) (hk23 : ∀ (w : Nat → Int64) (σ : gSt) (x4 : Int32), k23 w σ x4 = some 1 → G p l e room_1 s m #[Value.ref b] below meth c 7 (ce + 4) (sl + 24) (lw_Z below #[Value.ref b] s) E w σ 23 [(0, .ref b), (1, .ref (eB E + 0)), (2, .ref (eB E + 583)), (3, .ref (eB E + 605)), (4, .int x4)] []) {w : Nat → Int64} {σ : gSt} {x4 : Int32} (hf : f_L_law_b799 fu xs L k23 w σ x4 = some 1) : G p l e room_1 s m #[Value.ref b] below meth c 7 (ce + 4) (sl + 24) (lw_Z below #[Value.ref b] s) E w σ 799 [(0, .ref b), (1, .ref (eB E + 0)), (2, .ref (eB E + 583)), (3, .ref (eB E + 605)), (4, .int x4)] [] := by
  unfold f_L_law_b799 at hf
  refine G_goto (tgt := 1598) hC dL_law_799 (by decide) ?_
  exact t_L_law_b1598 hC hN hB hB2 hflag hce hsl hk23 hf

def f_L_law_b732 (fu : Nat) (xs : Nat → Int32) (L : Nat) (k23 : (Nat → Int64) → gSt → Int32 → Option Int32) (w : Nat → Int64) (σ : gSt) (x4 : Int32) : Option Int32 :=
  gd (inb (x4 + (1 : Int32)) L) (gd (inb (x4 + (2 : Int32)) L) (bL (f_L_volume fu w σ ((((xs (x4 + (1 : Int32)).toNatClampNeg)).toUInt32 % 65536).toInt32) (xs (x4 + (2 : Int32)).toNatClampNeg)) (fun v1 w1 σ1 => gd (inb (x4 + (1 : Int32)) L) (gd (inb (x4 + (2 : Int32)) L) (bd (f_X7_volume fu σ1 ((((xs (x4 + (1 : Int32)).toNatClampNeg)).toUInt32 % 65536).toInt32) (xs (x4 + (2 : Int32)).toNatClampNeg)) (fun v2 σ2 => bd (f_X7_thrown fu σ2 ) (fun v3 σ3 => if v3 = v1 then (if v1 = 0 then (if (lg_cmp (w1 0) ((v2).toInt64)) = 0 then (f_L_law_b799 fu xs L k23 w1 σ3 x4) else (some 0)) else (f_L_law_b799 fu xs L k23 w1 σ3 x4)) else (some 0))))))))
set_option maxRecDepth 100000 in
theorem t_L_law_b732 {fu b L : Nat} {xs : Nat → Int32} {k23 : (Nat → Int64) → gSt → Int32 → Option Int32} (hC : gCx p s m #[Value.ref b] meth c cL_law 7 RL (some .boolean) E) (hN : gN s) (hB : gS s E b L xs) (hB2 : s.heap.size ≤ eB E) (hflag : l.stackTraces = false) {ce sl : Nat} (hce : ce + 4 ≤ room_1.cells) (hsl : sl + 24 ≤ room_1.slots) (hk23 : ∀ (w : Nat → Int64) (σ : gSt) (x4 : Int32), k23 w σ x4 = some 1 → G p l e room_1 s m #[Value.ref b] below meth c 7 (ce + 4) (sl + 24) (lw_Z below #[Value.ref b] s) E w σ 23 [(0, .ref b), (1, .ref (eB E + 0)), (2, .ref (eB E + 583)), (3, .ref (eB E + 605)), (4, .int x4)] []) {w : Nat → Int64} {σ : gSt} {x4 : Int32} (hf : f_L_law_b732 fu xs L k23 w σ x4 = some 1) : G p l e room_1 s m #[Value.ref b] below meth c 7 ce sl (lw_Z below #[Value.ref b] s) E w σ 732 [(0, .ref b), (1, .ref (eB E + 0)), (2, .ref (eB E + 583)), (3, .ref (eB E + 605)), (4, .int x4)] [] := by
  unfold f_L_law_b732 at hf
  refine G_aload_n (q := 733) hC dL_law_732 rfl rfl ?_
  refine G_aload_n (q := 734) hC dL_law_733 rfl rfl ?_
  refine G_iload (q := 736) hC dL_law_734 rfl rfl ?_
  refine G_iconst (q := 737) hC dL_law_736 rfl ic_1 ?_
  refine G_iadd (q := 738) hC dL_law_737 rfl ?_
  obtain ⟨g1, hf⟩ := gd_ok hf
  refine G_sld (q := 739) hC dL_law_738 rfl hB g1 ?_
  refine G_i2c (q := 740) hC dL_law_739 rfl rfl ?_
  refine G_aload_n (q := 741) hC dL_law_740 rfl rfl ?_
  refine G_iload (q := 743) hC dL_law_741 rfl rfl ?_
  refine G_iconst (q := 744) hC dL_law_743 rfl ic_2 ?_
  refine G_iadd (q := 745) hC dL_law_744 rfl ?_
  obtain ⟨g2, hf⟩ := gd_ok hf
  refine G_sld (q := 746) hC dL_law_745 rfl hB g2 ?_
  refine G_aload_n (q := 747) hC dL_law_746 rfl rfl ?_
  obtain ⟨v1, w1, σ1, hm1, hf⟩ := bL_ok hf
  refine G_callL (q := 750) (n := 4) (As := [.ref (eB E + 0), .int (((xs (x4 + (1 : Int32)).toNatClampNeg)).toUInt32 % 65536).toInt32, .int (xs (x4 + (2 : Int32)).toNatClampNeg), .ref (eB E + 605)]) (st := []) hC hN dL_law_747 rfl (m_L_volume hflag hm1) (wall (by decide +kernel) rfl) (wall (by decide +kernel) rfl) (wall (by decide +kernel) rfl) (wall (by decide +kernel) rfl) rfl ⟨by decide +kernel, by decide +kernel, by decide +kernel⟩ ⟨Nat.le_of_ble_eq_true rfl, Nat.le_of_ble_eq_true rfl⟩ (Nat.le_of_ble_eq_true rfl) ⟨Nat.le_trans (Nat.add_le_add_left (Nat.le_of_ble_eq_true rfl) _) hce, Nat.le_trans (Nat.add_le_add_left (Nat.le_of_ble_eq_true rfl) _) hsl⟩ ?_
  refine G_widen (k := ce + 4) (n := sl + 24) (Nat.add_le_add_left (Nat.le_of_ble_eq_true rfl) _) (Nat.add_le_add_left (Nat.le_of_ble_eq_true rfl) _) ?_
  refine G_istore (q := 752) (lv' := [(5, .int v1), (0, .ref b), (1, .ref (eB E + 0)), (2, .ref (eB E + 583)), (3, .ref (eB E + 605)), (4, .int x4)]) hC dL_law_750 rfl (by decide) rfl ?_
  refine G_aload_n (q := 753) hC dL_law_752 rfl rfl ?_
  refine G_aload_n (q := 754) hC dL_law_753 rfl rfl ?_
  refine G_iload (q := 756) hC dL_law_754 rfl rfl ?_
  refine G_iconst (q := 757) hC dL_law_756 rfl ic_1 ?_
  refine G_iadd (q := 758) hC dL_law_757 rfl ?_
  obtain ⟨g3, hf⟩ := gd_ok hf
  refine G_sld (q := 759) hC dL_law_758 rfl hB g3 ?_
  refine G_i2c (q := 760) hC dL_law_759 rfl rfl ?_
  refine G_aload_n (q := 761) hC dL_law_760 rfl rfl ?_
  refine G_iload (q := 763) hC dL_law_761 rfl rfl ?_
  refine G_iconst (q := 764) hC dL_law_763 rfl ic_2 ?_
  refine G_iadd (q := 765) hC dL_law_764 rfl ?_
  obtain ⟨g4, hf⟩ := gd_ok hf
  refine G_sld (q := 766) hC dL_law_765 rfl hB g4 ?_
  obtain ⟨v2, σ2, hm2, hf⟩ := bd_ok hf
  refine cl_RL_128 (q := 769) hC dL_law_766 rfl (m_X7_volume hm2) ⟨Nat.le_of_ble_eq_true rfl, Nat.le_of_ble_eq_true rfl⟩ (Nat.le_of_ble_eq_true rfl) ⟨hce, hsl⟩ ?_
  refine G_istore (q := 771) (lv' := [(6, .int v2), (5, .int v1), (0, .ref b), (1, .ref (eB E + 0)), (2, .ref (eB E + 583)), (3, .ref (eB E + 605)), (4, .int x4)]) hC dL_law_769 rfl (by decide) rfl ?_
  refine G_aload_n (q := 772) hC dL_law_771 rfl rfl ?_
  obtain ⟨v3, σ3, hm3, hf⟩ := bd_ok hf
  refine cl_RL_93 (q := 775) hC dL_law_772 rfl (m_X7_thrown hm3) ⟨Nat.le_of_ble_eq_true rfl, Nat.le_of_ble_eq_true rfl⟩ (Nat.le_of_ble_eq_true rfl) ⟨hce, hsl⟩ ?_
  refine G_iload (q := 777) hC dL_law_775 rfl rfl ?_
  refine G_icmp_eq (tgt := 782) (q := 780) hC dL_law_777 (by decide) rfl (fun c4 => ?_) (fun c4 => ?_)
  · have hf := (if_pos c4).symm.trans hf
    refine G_iload (q := 784) hC dL_law_782 rfl rfl ?_
    refine G_if_ne (tgt := 799) (q := 787) hC dL_law_784 (by decide) rfl (fun c5 => ?_) (fun c5 => ?_)
    · have hf := (if_neg c5).symm.trans hf
      refine G_lv (lv' := [(0, .ref b), (1, .ref (eB E + 0)), (2, .ref (eB E + 583)), (3, .ref (eB E + 605)), (4, .int x4)]) [2, 3, 4, 5, 6] rfl ?_
      exact t_L_law_b799 hC hN hB hB2 hflag hce hsl hk23 hf
    · have hf := (if_pos c5).symm.trans hf
      refine G_aload_n (q := 788) hC dL_law_787 rfl rfl ?_
      refine G_iconst (q := 789) hC dL_law_788 rfl ic_0 ?_
      refine G_lald (q := 790) hC dL_law_789 rfl ?_
      refine G_iload (q := 792) hC dL_law_790 rfl rfl ?_
      refine G_i2l (q := 793) hC dL_law_792 rfl ?_
      refine G_lcmp (q := 794) hC dL_law_793 rfl ?_
      refine G_if_eq (tgt := 799) (q := 797) hC dL_law_794 (by decide) rfl (fun c6 => ?_) (fun c6 => ?_)
      · have hf := (if_pos c6).symm.trans hf
        refine G_lv (lv' := [(0, .ref b), (1, .ref (eB E + 0)), (2, .ref (eB E + 583)), (3, .ref (eB E + 605)), (4, .int x4)]) [2, 3, 4, 5, 6] rfl ?_
        exact t_L_law_b799 hC hN hB hB2 hflag hce hsl hk23 hf
      · have hf := (if_neg c6).symm.trans hf
        refine G_iconst (q := 798) hC dL_law_797 rfl ic_0 ?_
        exact absurd hf (by decide)
  · have hf := (if_neg c4).symm.trans hf
    refine G_iconst (q := 781) hC dL_law_780 rfl ic_0 ?_
    exact absurd hf (by decide)

def f_L_law_b855 (fu : Nat) (xs : Nat → Int32) (L : Nat) (k23 : (Nat → Int64) → gSt → Int32 → Option Int32) (w : Nat → Int64) (σ : gSt) (x4 : Int32) : Option Int32 :=
  f_L_law_b1598 fu xs L k23 w σ x4
set_option maxRecDepth 100000 in
theorem t_L_law_b855 {fu b L : Nat} {xs : Nat → Int32} {k23 : (Nat → Int64) → gSt → Int32 → Option Int32} (hC : gCx p s m #[Value.ref b] meth c cL_law 7 RL (some .boolean) E) (hN : gN s) (hB : gS s E b L xs) (hB2 : s.heap.size ≤ eB E) (hflag : l.stackTraces = false) {ce sl : Nat} (hce : ce + 4 ≤ room_1.cells) (hsl : sl + 24 ≤ room_1.slots) (hk23 : ∀ (w : Nat → Int64) (σ : gSt) (x4 : Int32), k23 w σ x4 = some 1 → G p l e room_1 s m #[Value.ref b] below meth c 7 (ce + 4) (sl + 24) (lw_Z below #[Value.ref b] s) E w σ 23 [(0, .ref b), (1, .ref (eB E + 0)), (2, .ref (eB E + 583)), (3, .ref (eB E + 605)), (4, .int x4)] []) {w : Nat → Int64} {σ : gSt} {x4 : Int32} (hf : f_L_law_b855 fu xs L k23 w σ x4 = some 1) : G p l e room_1 s m #[Value.ref b] below meth c 7 (ce + 4) (sl + 24) (lw_Z below #[Value.ref b] s) E w σ 855 [(0, .ref b), (1, .ref (eB E + 0)), (2, .ref (eB E + 583)), (3, .ref (eB E + 605)), (4, .int x4)] [] := by
  unfold f_L_law_b855 at hf
  refine G_goto (tgt := 1598) hC dL_law_855 (by decide) ?_
  exact t_L_law_b1598 hC hN hB hB2 hflag hce hsl hk23 hf

def f_L_law_b802 (fu : Nat) (xs : Nat → Int32) (L : Nat) (k23 : (Nat → Int64) → gSt → Int32 → Option Int32) (w : Nat → Int64) (σ : gSt) (x4 : Int32) : Option Int32 :=
  gd (inb (x4 + (1 : Int32)) L) (bL (f_L_contributor fu w σ (xs (x4 + (1 : Int32)).toNatClampNeg)) (fun v1 w1 σ1 => gd (inb (x4 + (1 : Int32)) L) (bd (f_X7_contributor fu σ1 (xs (x4 + (1 : Int32)).toNatClampNeg)) (fun v2 σ2 => bd (f_X7_thrown fu σ2 ) (fun v3 σ3 => if v3 = v1 then (if v1 = 0 then (if (lg_cmp (w1 0) ((v2).toInt64)) = 0 then (f_L_law_b855 fu xs L k23 w1 σ3 x4) else (some 0)) else (f_L_law_b855 fu xs L k23 w1 σ3 x4)) else (some 0))))))
set_option maxRecDepth 100000 in
theorem t_L_law_b802 {fu b L : Nat} {xs : Nat → Int32} {k23 : (Nat → Int64) → gSt → Int32 → Option Int32} (hC : gCx p s m #[Value.ref b] meth c cL_law 7 RL (some .boolean) E) (hN : gN s) (hB : gS s E b L xs) (hB2 : s.heap.size ≤ eB E) (hflag : l.stackTraces = false) {ce sl : Nat} (hce : ce + 4 ≤ room_1.cells) (hsl : sl + 24 ≤ room_1.slots) (hk23 : ∀ (w : Nat → Int64) (σ : gSt) (x4 : Int32), k23 w σ x4 = some 1 → G p l e room_1 s m #[Value.ref b] below meth c 7 (ce + 4) (sl + 24) (lw_Z below #[Value.ref b] s) E w σ 23 [(0, .ref b), (1, .ref (eB E + 0)), (2, .ref (eB E + 583)), (3, .ref (eB E + 605)), (4, .int x4)] []) {w : Nat → Int64} {σ : gSt} {x4 : Int32} (hf : f_L_law_b802 fu xs L k23 w σ x4 = some 1) : G p l e room_1 s m #[Value.ref b] below meth c 7 ce sl (lw_Z below #[Value.ref b] s) E w σ 802 [(0, .ref b), (1, .ref (eB E + 0)), (2, .ref (eB E + 583)), (3, .ref (eB E + 605)), (4, .int x4)] [] := by
  unfold f_L_law_b802 at hf
  refine G_aload_n (q := 803) hC dL_law_802 rfl rfl ?_
  refine G_aload_n (q := 804) hC dL_law_803 rfl rfl ?_
  refine G_iload (q := 806) hC dL_law_804 rfl rfl ?_
  refine G_iconst (q := 807) hC dL_law_806 rfl ic_1 ?_
  refine G_iadd (q := 808) hC dL_law_807 rfl ?_
  obtain ⟨g1, hf⟩ := gd_ok hf
  refine G_sld (q := 809) hC dL_law_808 rfl hB g1 ?_
  refine G_aload_n (q := 810) hC dL_law_809 rfl rfl ?_
  obtain ⟨v1, w1, σ1, hm1, hf⟩ := bL_ok hf
  refine G_callL (q := 813) (n := 3) (As := [.ref (eB E + 0), .int (xs (x4 + (1 : Int32)).toNatClampNeg), .ref (eB E + 605)]) (st := []) hC hN dL_law_810 rfl (m_L_contributor hflag hm1) (wall (by decide +kernel) rfl) (wall (by decide +kernel) rfl) (wall (by decide +kernel) rfl) (wall (by decide +kernel) rfl) rfl ⟨by decide +kernel, by decide +kernel, by decide +kernel⟩ ⟨Nat.le_of_ble_eq_true rfl, Nat.le_of_ble_eq_true rfl⟩ (Nat.le_of_ble_eq_true rfl) ⟨Nat.le_trans (Nat.add_le_add_left (Nat.le_of_ble_eq_true rfl) _) hce, Nat.le_trans (Nat.add_le_add_left (Nat.le_of_ble_eq_true rfl) _) hsl⟩ ?_
  refine G_widen (k := ce + 4) (n := sl + 24) (Nat.add_le_add_left (Nat.le_of_ble_eq_true rfl) _) (Nat.add_le_add_left (Nat.le_of_ble_eq_true rfl) _) ?_
  refine G_istore (q := 815) (lv' := [(5, .int v1), (0, .ref b), (1, .ref (eB E + 0)), (2, .ref (eB E + 583)), (3, .ref (eB E + 605)), (4, .int x4)]) hC dL_law_813 rfl (by decide) rfl ?_
  refine G_aload_n (q := 816) hC dL_law_815 rfl rfl ?_
  refine G_aload_n (q := 817) hC dL_law_816 rfl rfl ?_
  refine G_iload (q := 819) hC dL_law_817 rfl rfl ?_
  refine G_iconst (q := 820) hC dL_law_819 rfl ic_1 ?_
  refine G_iadd (q := 821) hC dL_law_820 rfl ?_
  obtain ⟨g2, hf⟩ := gd_ok hf
  refine G_sld (q := 822) hC dL_law_821 rfl hB g2 ?_
  obtain ⟨v2, σ2, hm2, hf⟩ := bd_ok hf
  refine cl_RL_131 (q := 825) hC dL_law_822 rfl (m_X7_contributor hm2) ⟨Nat.le_of_ble_eq_true rfl, Nat.le_of_ble_eq_true rfl⟩ (Nat.le_of_ble_eq_true rfl) ⟨hce, hsl⟩ ?_
  refine G_istore (q := 827) (lv' := [(6, .int v2), (5, .int v1), (0, .ref b), (1, .ref (eB E + 0)), (2, .ref (eB E + 583)), (3, .ref (eB E + 605)), (4, .int x4)]) hC dL_law_825 rfl (by decide) rfl ?_
  refine G_aload_n (q := 828) hC dL_law_827 rfl rfl ?_
  obtain ⟨v3, σ3, hm3, hf⟩ := bd_ok hf
  refine cl_RL_93 (q := 831) hC dL_law_828 rfl (m_X7_thrown hm3) ⟨Nat.le_of_ble_eq_true rfl, Nat.le_of_ble_eq_true rfl⟩ (Nat.le_of_ble_eq_true rfl) ⟨hce, hsl⟩ ?_
  refine G_iload (q := 833) hC dL_law_831 rfl rfl ?_
  refine G_icmp_eq (tgt := 838) (q := 836) hC dL_law_833 (by decide) rfl (fun c4 => ?_) (fun c4 => ?_)
  · have hf := (if_pos c4).symm.trans hf
    refine G_iload (q := 840) hC dL_law_838 rfl rfl ?_
    refine G_if_ne (tgt := 855) (q := 843) hC dL_law_840 (by decide) rfl (fun c5 => ?_) (fun c5 => ?_)
    · have hf := (if_neg c5).symm.trans hf
      refine G_lv (lv' := [(0, .ref b), (1, .ref (eB E + 0)), (2, .ref (eB E + 583)), (3, .ref (eB E + 605)), (4, .int x4)]) [2, 3, 4, 5, 6] rfl ?_
      exact t_L_law_b855 hC hN hB hB2 hflag hce hsl hk23 hf
    · have hf := (if_pos c5).symm.trans hf
      refine G_aload_n (q := 844) hC dL_law_843 rfl rfl ?_
      refine G_iconst (q := 845) hC dL_law_844 rfl ic_0 ?_
      refine G_lald (q := 846) hC dL_law_845 rfl ?_
      refine G_iload (q := 848) hC dL_law_846 rfl rfl ?_
      refine G_i2l (q := 849) hC dL_law_848 rfl ?_
      refine G_lcmp (q := 850) hC dL_law_849 rfl ?_
      refine G_if_eq (tgt := 855) (q := 853) hC dL_law_850 (by decide) rfl (fun c6 => ?_) (fun c6 => ?_)
      · have hf := (if_pos c6).symm.trans hf
        refine G_lv (lv' := [(0, .ref b), (1, .ref (eB E + 0)), (2, .ref (eB E + 583)), (3, .ref (eB E + 605)), (4, .int x4)]) [2, 3, 4, 5, 6] rfl ?_
        exact t_L_law_b855 hC hN hB hB2 hflag hce hsl hk23 hf
      · have hf := (if_neg c6).symm.trans hf
        refine G_iconst (q := 854) hC dL_law_853 rfl ic_0 ?_
        exact absurd hf (by decide)
  · have hf := (if_neg c4).symm.trans hf
    refine G_iconst (q := 837) hC dL_law_836 rfl ic_0 ?_
    exact absurd hf (by decide)

def f_L_law_b930 (fu : Nat) (xs : Nat → Int32) (L : Nat) (k23 : (Nat → Int64) → gSt → Int32 → Option Int32) (w : Nat → Int64) (σ : gSt) (x4 : Int32) : Option Int32 :=
  f_L_law_b1598 fu xs L k23 w σ x4
set_option maxRecDepth 100000 in
theorem t_L_law_b930 {fu b L : Nat} {xs : Nat → Int32} {k23 : (Nat → Int64) → gSt → Int32 → Option Int32} (hC : gCx p s m #[Value.ref b] meth c cL_law 7 RL (some .boolean) E) (hN : gN s) (hB : gS s E b L xs) (hB2 : s.heap.size ≤ eB E) (hflag : l.stackTraces = false) {ce sl : Nat} (hce : ce + 4 ≤ room_1.cells) (hsl : sl + 24 ≤ room_1.slots) (hk23 : ∀ (w : Nat → Int64) (σ : gSt) (x4 : Int32), k23 w σ x4 = some 1 → G p l e room_1 s m #[Value.ref b] below meth c 7 (ce + 4) (sl + 24) (lw_Z below #[Value.ref b] s) E w σ 23 [(0, .ref b), (1, .ref (eB E + 0)), (2, .ref (eB E + 583)), (3, .ref (eB E + 605)), (4, .int x4)] []) {w : Nat → Int64} {σ : gSt} {x4 : Int32} (hf : f_L_law_b930 fu xs L k23 w σ x4 = some 1) : G p l e room_1 s m #[Value.ref b] below meth c 7 (ce + 4) (sl + 24) (lw_Z below #[Value.ref b] s) E w σ 930 [(0, .ref b), (1, .ref (eB E + 0)), (2, .ref (eB E + 583)), (3, .ref (eB E + 605)), (4, .int x4)] [] := by
  unfold f_L_law_b930 at hf
  refine G_goto (tgt := 1598) hC dL_law_930 (by decide) ?_
  exact t_L_law_b1598 hC hN hB hB2 hflag hce hsl hk23 hf

def f_L_law_b924 (fu : Nat) (xs : Nat → Int32) (L : Nat) (k23 : (Nat → Int64) → gSt → Int32 → Option Int32) (w : Nat → Int64) (σ : gSt) (x4 : Int32) (ys0 : Int64) (ys1 : Int64) : Option Int32 :=
  if (lg_cmp ys0 ys1) = 0 then (f_L_law_b930 fu xs L k23 w σ x4) else (some 0)
set_option maxRecDepth 100000 in
theorem t_L_law_b924 {fu b L : Nat} {xs : Nat → Int32} {k23 : (Nat → Int64) → gSt → Int32 → Option Int32} (hC : gCx p s m #[Value.ref b] meth c cL_law 7 RL (some .boolean) E) (hN : gN s) (hB : gS s E b L xs) (hB2 : s.heap.size ≤ eB E) (hflag : l.stackTraces = false) {ce sl : Nat} (hce : ce + 4 ≤ room_1.cells) (hsl : sl + 24 ≤ room_1.slots) (hk23 : ∀ (w : Nat → Int64) (σ : gSt) (x4 : Int32), k23 w σ x4 = some 1 → G p l e room_1 s m #[Value.ref b] below meth c 7 (ce + 4) (sl + 24) (lw_Z below #[Value.ref b] s) E w σ 23 [(0, .ref b), (1, .ref (eB E + 0)), (2, .ref (eB E + 583)), (3, .ref (eB E + 605)), (4, .int x4)] []) {w : Nat → Int64} {σ : gSt} {x4 : Int32} {ys0 : Int64} {ys1 : Int64} (hf : f_L_law_b924 fu xs L k23 w σ x4 ys0 ys1 = some 1) : G p l e room_1 s m #[Value.ref b] below meth c 7 (ce + 4) (sl + 24) (lw_Z below #[Value.ref b] s) E w σ 924 [(0, .ref b), (1, .ref (eB E + 0)), (2, .ref (eB E + 583)), (3, .ref (eB E + 605)), (4, .int x4)] [.long ys1, .long ys0] := by
  unfold f_L_law_b924 at hf
  refine G_lcmp (q := 925) hC dL_law_924 rfl ?_
  refine G_if_eq (tgt := 930) (q := 928) hC dL_law_925 (by decide) rfl (fun c1 => ?_) (fun c1 => ?_)
  · have hf := (if_pos c1).symm.trans hf
    exact t_L_law_b930 hC hN hB hB2 hflag hce hsl hk23 hf
  · have hf := (if_neg c1).symm.trans hf
    refine G_iconst (q := 929) hC dL_law_928 rfl ic_0 ?_
    exact absurd hf (by decide)

def f_L_law_b858 (fu : Nat) (xs : Nat → Int32) (L : Nat) (k23 : (Nat → Int64) → gSt → Int32 → Option Int32) (w : Nat → Int64) (σ : gSt) (x4 : Int32) : Option Int32 :=
  gd (inb (x4 + (1 : Int32)) L) (gd (inb (x4 + (2 : Int32)) L) (bL (f_L_quarrel fu w σ (xs (x4 + (1 : Int32)).toNatClampNeg) (xs (x4 + (2 : Int32)).toNatClampNeg)) (fun v1 w1 σ1 => gd (inb (x4 + (1 : Int32)) L) (gd (inb (x4 + (2 : Int32)) L) (bd (f_X7_quarrel fu σ1 (xs (x4 + (1 : Int32)).toNatClampNeg) (xs (x4 + (2 : Int32)).toNatClampNeg)) (fun v2 σ2 => bd (f_X7_thrown fu σ2 ) (fun v3 σ3 => if v3 = v1 then (if v1 = 0 then (if v2 = 0 then (f_L_law_b924 fu xs L k23 w1 σ3 x4 (w1 0) (0 : Int64)) else (f_L_law_b924 fu xs L k23 w1 σ3 x4 (w1 0) (1 : Int64))) else (f_L_law_b930 fu xs L k23 w1 σ3 x4)) else (some 0))))))))
set_option maxRecDepth 100000 in
theorem t_L_law_b858 {fu b L : Nat} {xs : Nat → Int32} {k23 : (Nat → Int64) → gSt → Int32 → Option Int32} (hC : gCx p s m #[Value.ref b] meth c cL_law 7 RL (some .boolean) E) (hN : gN s) (hB : gS s E b L xs) (hB2 : s.heap.size ≤ eB E) (hflag : l.stackTraces = false) {ce sl : Nat} (hce : ce + 4 ≤ room_1.cells) (hsl : sl + 24 ≤ room_1.slots) (hk23 : ∀ (w : Nat → Int64) (σ : gSt) (x4 : Int32), k23 w σ x4 = some 1 → G p l e room_1 s m #[Value.ref b] below meth c 7 (ce + 4) (sl + 24) (lw_Z below #[Value.ref b] s) E w σ 23 [(0, .ref b), (1, .ref (eB E + 0)), (2, .ref (eB E + 583)), (3, .ref (eB E + 605)), (4, .int x4)] []) {w : Nat → Int64} {σ : gSt} {x4 : Int32} (hf : f_L_law_b858 fu xs L k23 w σ x4 = some 1) : G p l e room_1 s m #[Value.ref b] below meth c 7 ce sl (lw_Z below #[Value.ref b] s) E w σ 858 [(0, .ref b), (1, .ref (eB E + 0)), (2, .ref (eB E + 583)), (3, .ref (eB E + 605)), (4, .int x4)] [] := by
  unfold f_L_law_b858 at hf
  refine G_aload_n (q := 859) hC dL_law_858 rfl rfl ?_
  refine G_aload_n (q := 860) hC dL_law_859 rfl rfl ?_
  refine G_iload (q := 862) hC dL_law_860 rfl rfl ?_
  refine G_iconst (q := 863) hC dL_law_862 rfl ic_1 ?_
  refine G_iadd (q := 864) hC dL_law_863 rfl ?_
  obtain ⟨g1, hf⟩ := gd_ok hf
  refine G_sld (q := 865) hC dL_law_864 rfl hB g1 ?_
  refine G_aload_n (q := 866) hC dL_law_865 rfl rfl ?_
  refine G_iload (q := 868) hC dL_law_866 rfl rfl ?_
  refine G_iconst (q := 869) hC dL_law_868 rfl ic_2 ?_
  refine G_iadd (q := 870) hC dL_law_869 rfl ?_
  obtain ⟨g2, hf⟩ := gd_ok hf
  refine G_sld (q := 871) hC dL_law_870 rfl hB g2 ?_
  refine G_aload_n (q := 872) hC dL_law_871 rfl rfl ?_
  obtain ⟨v1, w1, σ1, hm1, hf⟩ := bL_ok hf
  refine G_callL (q := 875) (n := 4) (As := [.ref (eB E + 0), .int (xs (x4 + (1 : Int32)).toNatClampNeg), .int (xs (x4 + (2 : Int32)).toNatClampNeg), .ref (eB E + 605)]) (st := []) hC hN dL_law_872 rfl (m_L_quarrel hflag hm1) (wall (by decide +kernel) rfl) (wall (by decide +kernel) rfl) (wall (by decide +kernel) rfl) (wall (by decide +kernel) rfl) rfl ⟨by decide +kernel, by decide +kernel, by decide +kernel⟩ ⟨Nat.le_of_ble_eq_true rfl, Nat.le_of_ble_eq_true rfl⟩ (Nat.le_of_ble_eq_true rfl) ⟨Nat.le_trans (Nat.add_le_add_left (Nat.le_of_ble_eq_true rfl) _) hce, Nat.le_trans (Nat.add_le_add_left (Nat.le_of_ble_eq_true rfl) _) hsl⟩ ?_
  refine G_widen (k := ce + 4) (n := sl + 24) (Nat.add_le_add_left (Nat.le_of_ble_eq_true rfl) _) (Nat.add_le_add_left (Nat.le_of_ble_eq_true rfl) _) ?_
  refine G_istore (q := 877) (lv' := [(5, .int v1), (0, .ref b), (1, .ref (eB E + 0)), (2, .ref (eB E + 583)), (3, .ref (eB E + 605)), (4, .int x4)]) hC dL_law_875 rfl (by decide) rfl ?_
  refine G_aload_n (q := 878) hC dL_law_877 rfl rfl ?_
  refine G_aload_n (q := 879) hC dL_law_878 rfl rfl ?_
  refine G_iload (q := 881) hC dL_law_879 rfl rfl ?_
  refine G_iconst (q := 882) hC dL_law_881 rfl ic_1 ?_
  refine G_iadd (q := 883) hC dL_law_882 rfl ?_
  obtain ⟨g3, hf⟩ := gd_ok hf
  refine G_sld (q := 884) hC dL_law_883 rfl hB g3 ?_
  refine G_aload_n (q := 885) hC dL_law_884 rfl rfl ?_
  refine G_iload (q := 887) hC dL_law_885 rfl rfl ?_
  refine G_iconst (q := 888) hC dL_law_887 rfl ic_2 ?_
  refine G_iadd (q := 889) hC dL_law_888 rfl ?_
  obtain ⟨g4, hf⟩ := gd_ok hf
  refine G_sld (q := 890) hC dL_law_889 rfl hB g4 ?_
  obtain ⟨v2, σ2, hm2, hf⟩ := bd_ok hf
  refine cl_RL_134 (q := 893) hC dL_law_890 rfl (m_X7_quarrel hm2) ⟨Nat.le_of_ble_eq_true rfl, Nat.le_of_ble_eq_true rfl⟩ (Nat.le_of_ble_eq_true rfl) ⟨hce, hsl⟩ ?_
  refine G_istore (q := 895) (lv' := [(6, .int v2), (5, .int v1), (0, .ref b), (1, .ref (eB E + 0)), (2, .ref (eB E + 583)), (3, .ref (eB E + 605)), (4, .int x4)]) hC dL_law_893 rfl (by decide) rfl ?_
  refine G_aload_n (q := 896) hC dL_law_895 rfl rfl ?_
  obtain ⟨v3, σ3, hm3, hf⟩ := bd_ok hf
  refine cl_RL_93 (q := 899) hC dL_law_896 rfl (m_X7_thrown hm3) ⟨Nat.le_of_ble_eq_true rfl, Nat.le_of_ble_eq_true rfl⟩ (Nat.le_of_ble_eq_true rfl) ⟨hce, hsl⟩ ?_
  refine G_iload (q := 901) hC dL_law_899 rfl rfl ?_
  refine G_icmp_eq (tgt := 906) (q := 904) hC dL_law_901 (by decide) rfl (fun c4 => ?_) (fun c4 => ?_)
  · have hf := (if_pos c4).symm.trans hf
    refine G_iload (q := 908) hC dL_law_906 rfl rfl ?_
    refine G_if_ne (tgt := 930) (q := 911) hC dL_law_908 (by decide) rfl (fun c5 => ?_) (fun c5 => ?_)
    · have hf := (if_neg c5).symm.trans hf
      refine G_lv (lv' := [(0, .ref b), (1, .ref (eB E + 0)), (2, .ref (eB E + 583)), (3, .ref (eB E + 605)), (4, .int x4)]) [2, 3, 4, 5, 6] rfl ?_
      exact t_L_law_b930 hC hN hB hB2 hflag hce hsl hk23 hf
    · have hf := (if_pos c5).symm.trans hf
      refine G_aload_n (q := 912) hC dL_law_911 rfl rfl ?_
      refine G_iconst (q := 913) hC dL_law_912 rfl ic_0 ?_
      refine G_lald (q := 914) hC dL_law_913 rfl ?_
      refine G_iload (q := 916) hC dL_law_914 rfl rfl ?_
      refine G_if_eq (tgt := 923) (q := 919) hC dL_law_916 (by decide) rfl (fun c6 => ?_) (fun c6 => ?_)
      · have hf := (if_pos c6).symm.trans hf
        refine G_lconst (v := 0) (q := 924) hC dL_law_923 rfl (by decide) ?_
        refine G_lv (lv' := [(0, .ref b), (1, .ref (eB E + 0)), (2, .ref (eB E + 583)), (3, .ref (eB E + 605)), (4, .int x4)]) [2, 3, 4, 5, 6] rfl ?_
        exact t_L_law_b924 hC hN hB hB2 hflag hce hsl hk23 hf
      · have hf := (if_neg c6).symm.trans hf
        refine G_lconst (v := 1) (q := 920) hC dL_law_919 rfl (by decide) ?_
        refine G_goto (tgt := 924) hC dL_law_920 (by decide) ?_
        refine G_lv (lv' := [(0, .ref b), (1, .ref (eB E + 0)), (2, .ref (eB E + 583)), (3, .ref (eB E + 605)), (4, .int x4)]) [2, 3, 4, 5, 6] rfl ?_
        exact t_L_law_b924 hC hN hB hB2 hflag hce hsl hk23 hf
  · have hf := (if_neg c4).symm.trans hf
    refine G_iconst (q := 905) hC dL_law_904 rfl ic_0 ?_
    exact absurd hf (by decide)

def f_L_law_b998 (fu : Nat) (xs : Nat → Int32) (L : Nat) (k23 : (Nat → Int64) → gSt → Int32 → Option Int32) (w : Nat → Int64) (σ : gSt) (x4 : Int32) : Option Int32 :=
  f_L_law_b1598 fu xs L k23 w σ x4
set_option maxRecDepth 100000 in
theorem t_L_law_b998 {fu b L : Nat} {xs : Nat → Int32} {k23 : (Nat → Int64) → gSt → Int32 → Option Int32} (hC : gCx p s m #[Value.ref b] meth c cL_law 7 RL (some .boolean) E) (hN : gN s) (hB : gS s E b L xs) (hB2 : s.heap.size ≤ eB E) (hflag : l.stackTraces = false) {ce sl : Nat} (hce : ce + 4 ≤ room_1.cells) (hsl : sl + 24 ≤ room_1.slots) (hk23 : ∀ (w : Nat → Int64) (σ : gSt) (x4 : Int32), k23 w σ x4 = some 1 → G p l e room_1 s m #[Value.ref b] below meth c 7 (ce + 4) (sl + 24) (lw_Z below #[Value.ref b] s) E w σ 23 [(0, .ref b), (1, .ref (eB E + 0)), (2, .ref (eB E + 583)), (3, .ref (eB E + 605)), (4, .int x4)] []) {w : Nat → Int64} {σ : gSt} {x4 : Int32} (hf : f_L_law_b998 fu xs L k23 w σ x4 = some 1) : G p l e room_1 s m #[Value.ref b] below meth c 7 (ce + 4) (sl + 24) (lw_Z below #[Value.ref b] s) E w σ 998 [(0, .ref b), (1, .ref (eB E + 0)), (2, .ref (eB E + 583)), (3, .ref (eB E + 605)), (4, .int x4)] [] := by
  unfold f_L_law_b998 at hf
  refine G_goto (tgt := 1598) hC dL_law_998 (by decide) ?_
  exact t_L_law_b1598 hC hN hB hB2 hflag hce hsl hk23 hf

def f_L_law_b933 (fu : Nat) (xs : Nat → Int32) (L : Nat) (k23 : (Nat → Int64) → gSt → Int32 → Option Int32) (w : Nat → Int64) (σ : gSt) (x4 : Int32) : Option Int32 :=
  gd (inb (x4 + (1 : Int32)) L) (gd (inb (x4 + (2 : Int32)) L) (bL (f_L_give fu w σ (xs (x4 + (1 : Int32)).toNatClampNeg) (xs (x4 + (2 : Int32)).toNatClampNeg)) (fun v1 w1 σ1 => gd (inb (x4 + (1 : Int32)) L) (gd (inb (x4 + (2 : Int32)) L) (bd (f_X7_give fu σ1 (xs (x4 + (1 : Int32)).toNatClampNeg) (xs (x4 + (2 : Int32)).toNatClampNeg)) (fun v2 σ2 => bd (f_X7_thrown fu σ2 ) (fun v3 σ3 => if v3 = v1 then (if v1 = 0 then (if (lg_cmp (w1 0) ((v2).toInt64)) = 0 then (f_L_law_b998 fu xs L k23 w1 σ3 x4) else (some 0)) else (f_L_law_b998 fu xs L k23 w1 σ3 x4)) else (some 0))))))))
set_option maxRecDepth 100000 in
theorem t_L_law_b933 {fu b L : Nat} {xs : Nat → Int32} {k23 : (Nat → Int64) → gSt → Int32 → Option Int32} (hC : gCx p s m #[Value.ref b] meth c cL_law 7 RL (some .boolean) E) (hN : gN s) (hB : gS s E b L xs) (hB2 : s.heap.size ≤ eB E) (hflag : l.stackTraces = false) {ce sl : Nat} (hce : ce + 4 ≤ room_1.cells) (hsl : sl + 24 ≤ room_1.slots) (hk23 : ∀ (w : Nat → Int64) (σ : gSt) (x4 : Int32), k23 w σ x4 = some 1 → G p l e room_1 s m #[Value.ref b] below meth c 7 (ce + 4) (sl + 24) (lw_Z below #[Value.ref b] s) E w σ 23 [(0, .ref b), (1, .ref (eB E + 0)), (2, .ref (eB E + 583)), (3, .ref (eB E + 605)), (4, .int x4)] []) {w : Nat → Int64} {σ : gSt} {x4 : Int32} (hf : f_L_law_b933 fu xs L k23 w σ x4 = some 1) : G p l e room_1 s m #[Value.ref b] below meth c 7 ce sl (lw_Z below #[Value.ref b] s) E w σ 933 [(0, .ref b), (1, .ref (eB E + 0)), (2, .ref (eB E + 583)), (3, .ref (eB E + 605)), (4, .int x4)] [] := by
  unfold f_L_law_b933 at hf
  refine G_aload_n (q := 934) hC dL_law_933 rfl rfl ?_
  refine G_aload_n (q := 935) hC dL_law_934 rfl rfl ?_
  refine G_iload (q := 937) hC dL_law_935 rfl rfl ?_
  refine G_iconst (q := 938) hC dL_law_937 rfl ic_1 ?_
  refine G_iadd (q := 939) hC dL_law_938 rfl ?_
  obtain ⟨g1, hf⟩ := gd_ok hf
  refine G_sld (q := 940) hC dL_law_939 rfl hB g1 ?_
  refine G_aload_n (q := 941) hC dL_law_940 rfl rfl ?_
  refine G_iload (q := 943) hC dL_law_941 rfl rfl ?_
  refine G_iconst (q := 944) hC dL_law_943 rfl ic_2 ?_
  refine G_iadd (q := 945) hC dL_law_944 rfl ?_
  obtain ⟨g2, hf⟩ := gd_ok hf
  refine G_sld (q := 946) hC dL_law_945 rfl hB g2 ?_
  refine G_aload_n (q := 947) hC dL_law_946 rfl rfl ?_
  obtain ⟨v1, w1, σ1, hm1, hf⟩ := bL_ok hf
  refine G_callL (q := 950) (n := 4) (As := [.ref (eB E + 0), .int (xs (x4 + (1 : Int32)).toNatClampNeg), .int (xs (x4 + (2 : Int32)).toNatClampNeg), .ref (eB E + 605)]) (st := []) hC hN dL_law_947 rfl (m_L_give hflag hm1) (wall (by decide +kernel) rfl) (wall (by decide +kernel) rfl) (wall (by decide +kernel) rfl) (wall (by decide +kernel) rfl) rfl ⟨by decide +kernel, by decide +kernel, by decide +kernel⟩ ⟨Nat.le_of_ble_eq_true rfl, Nat.le_of_ble_eq_true rfl⟩ (Nat.le_of_ble_eq_true rfl) ⟨Nat.le_trans (Nat.add_le_add_left (Nat.le_of_ble_eq_true rfl) _) hce, Nat.le_trans (Nat.add_le_add_left (Nat.le_of_ble_eq_true rfl) _) hsl⟩ ?_
  refine G_widen (k := ce + 4) (n := sl + 24) (Nat.add_le_add_left (Nat.le_of_ble_eq_true rfl) _) (Nat.add_le_add_left (Nat.le_of_ble_eq_true rfl) _) ?_
  refine G_istore (q := 952) (lv' := [(5, .int v1), (0, .ref b), (1, .ref (eB E + 0)), (2, .ref (eB E + 583)), (3, .ref (eB E + 605)), (4, .int x4)]) hC dL_law_950 rfl (by decide) rfl ?_
  refine G_aload_n (q := 953) hC dL_law_952 rfl rfl ?_
  refine G_aload_n (q := 954) hC dL_law_953 rfl rfl ?_
  refine G_iload (q := 956) hC dL_law_954 rfl rfl ?_
  refine G_iconst (q := 957) hC dL_law_956 rfl ic_1 ?_
  refine G_iadd (q := 958) hC dL_law_957 rfl ?_
  obtain ⟨g3, hf⟩ := gd_ok hf
  refine G_sld (q := 959) hC dL_law_958 rfl hB g3 ?_
  refine G_aload_n (q := 960) hC dL_law_959 rfl rfl ?_
  refine G_iload (q := 962) hC dL_law_960 rfl rfl ?_
  refine G_iconst (q := 963) hC dL_law_962 rfl ic_2 ?_
  refine G_iadd (q := 964) hC dL_law_963 rfl ?_
  obtain ⟨g4, hf⟩ := gd_ok hf
  refine G_sld (q := 965) hC dL_law_964 rfl hB g4 ?_
  obtain ⟨v2, σ2, hm2, hf⟩ := bd_ok hf
  refine cl_RL_137 (q := 968) hC dL_law_965 rfl (m_X7_give hm2) ⟨Nat.le_of_ble_eq_true rfl, Nat.le_of_ble_eq_true rfl⟩ (Nat.le_of_ble_eq_true rfl) ⟨hce, hsl⟩ ?_
  refine G_istore (q := 970) (lv' := [(6, .int v2), (5, .int v1), (0, .ref b), (1, .ref (eB E + 0)), (2, .ref (eB E + 583)), (3, .ref (eB E + 605)), (4, .int x4)]) hC dL_law_968 rfl (by decide) rfl ?_
  refine G_aload_n (q := 971) hC dL_law_970 rfl rfl ?_
  obtain ⟨v3, σ3, hm3, hf⟩ := bd_ok hf
  refine cl_RL_93 (q := 974) hC dL_law_971 rfl (m_X7_thrown hm3) ⟨Nat.le_of_ble_eq_true rfl, Nat.le_of_ble_eq_true rfl⟩ (Nat.le_of_ble_eq_true rfl) ⟨hce, hsl⟩ ?_
  refine G_iload (q := 976) hC dL_law_974 rfl rfl ?_
  refine G_icmp_eq (tgt := 981) (q := 979) hC dL_law_976 (by decide) rfl (fun c4 => ?_) (fun c4 => ?_)
  · have hf := (if_pos c4).symm.trans hf
    refine G_iload (q := 983) hC dL_law_981 rfl rfl ?_
    refine G_if_ne (tgt := 998) (q := 986) hC dL_law_983 (by decide) rfl (fun c5 => ?_) (fun c5 => ?_)
    · have hf := (if_neg c5).symm.trans hf
      refine G_lv (lv' := [(0, .ref b), (1, .ref (eB E + 0)), (2, .ref (eB E + 583)), (3, .ref (eB E + 605)), (4, .int x4)]) [2, 3, 4, 5, 6] rfl ?_
      exact t_L_law_b998 hC hN hB hB2 hflag hce hsl hk23 hf
    · have hf := (if_pos c5).symm.trans hf
      refine G_aload_n (q := 987) hC dL_law_986 rfl rfl ?_
      refine G_iconst (q := 988) hC dL_law_987 rfl ic_0 ?_
      refine G_lald (q := 989) hC dL_law_988 rfl ?_
      refine G_iload (q := 991) hC dL_law_989 rfl rfl ?_
      refine G_i2l (q := 992) hC dL_law_991 rfl ?_
      refine G_lcmp (q := 993) hC dL_law_992 rfl ?_
      refine G_if_eq (tgt := 998) (q := 996) hC dL_law_993 (by decide) rfl (fun c6 => ?_) (fun c6 => ?_)
      · have hf := (if_pos c6).symm.trans hf
        refine G_lv (lv' := [(0, .ref b), (1, .ref (eB E + 0)), (2, .ref (eB E + 583)), (3, .ref (eB E + 605)), (4, .int x4)]) [2, 3, 4, 5, 6] rfl ?_
        exact t_L_law_b998 hC hN hB hB2 hflag hce hsl hk23 hf
      · have hf := (if_neg c6).symm.trans hf
        refine G_iconst (q := 997) hC dL_law_996 rfl ic_0 ?_
        exact absurd hf (by decide)
  · have hf := (if_neg c4).symm.trans hf
    refine G_iconst (q := 980) hC dL_law_979 rfl ic_0 ?_
    exact absurd hf (by decide)

def f_L_law_b1054 (fu : Nat) (xs : Nat → Int32) (L : Nat) (k23 : (Nat → Int64) → gSt → Int32 → Option Int32) (w : Nat → Int64) (σ : gSt) (x4 : Int32) : Option Int32 :=
  f_L_law_b1598 fu xs L k23 w σ x4
set_option maxRecDepth 100000 in
theorem t_L_law_b1054 {fu b L : Nat} {xs : Nat → Int32} {k23 : (Nat → Int64) → gSt → Int32 → Option Int32} (hC : gCx p s m #[Value.ref b] meth c cL_law 7 RL (some .boolean) E) (hN : gN s) (hB : gS s E b L xs) (hB2 : s.heap.size ≤ eB E) (hflag : l.stackTraces = false) {ce sl : Nat} (hce : ce + 4 ≤ room_1.cells) (hsl : sl + 24 ≤ room_1.slots) (hk23 : ∀ (w : Nat → Int64) (σ : gSt) (x4 : Int32), k23 w σ x4 = some 1 → G p l e room_1 s m #[Value.ref b] below meth c 7 (ce + 4) (sl + 24) (lw_Z below #[Value.ref b] s) E w σ 23 [(0, .ref b), (1, .ref (eB E + 0)), (2, .ref (eB E + 583)), (3, .ref (eB E + 605)), (4, .int x4)] []) {w : Nat → Int64} {σ : gSt} {x4 : Int32} (hf : f_L_law_b1054 fu xs L k23 w σ x4 = some 1) : G p l e room_1 s m #[Value.ref b] below meth c 7 (ce + 4) (sl + 24) (lw_Z below #[Value.ref b] s) E w σ 1054 [(0, .ref b), (1, .ref (eB E + 0)), (2, .ref (eB E + 583)), (3, .ref (eB E + 605)), (4, .int x4)] [] := by
  unfold f_L_law_b1054 at hf
  refine G_goto (tgt := 1598) hC dL_law_1054 (by decide) ?_
  exact t_L_law_b1598 hC hN hB hB2 hflag hce hsl hk23 hf

def f_L_law_b1001 (fu : Nat) (xs : Nat → Int32) (L : Nat) (k23 : (Nat → Int64) → gSt → Int32 → Option Int32) (w : Nat → Int64) (σ : gSt) (x4 : Int32) : Option Int32 :=
  gd (inb (x4 + (1 : Int32)) L) (bL (f_L_die fu w σ (xs (x4 + (1 : Int32)).toNatClampNeg)) (fun v1 w1 σ1 => gd (inb (x4 + (1 : Int32)) L) (bd (f_X7_die fu σ1 (xs (x4 + (1 : Int32)).toNatClampNeg)) (fun v2 σ2 => bd (f_X7_thrown fu σ2 ) (fun v3 σ3 => if v3 = v1 then (if v1 = 0 then (if (lg_cmp (w1 0) ((v2).toInt64)) = 0 then (f_L_law_b1054 fu xs L k23 w1 σ3 x4) else (some 0)) else (f_L_law_b1054 fu xs L k23 w1 σ3 x4)) else (some 0))))))
set_option maxRecDepth 100000 in
theorem t_L_law_b1001 {fu b L : Nat} {xs : Nat → Int32} {k23 : (Nat → Int64) → gSt → Int32 → Option Int32} (hC : gCx p s m #[Value.ref b] meth c cL_law 7 RL (some .boolean) E) (hN : gN s) (hB : gS s E b L xs) (hB2 : s.heap.size ≤ eB E) (hflag : l.stackTraces = false) {ce sl : Nat} (hce : ce + 4 ≤ room_1.cells) (hsl : sl + 24 ≤ room_1.slots) (hk23 : ∀ (w : Nat → Int64) (σ : gSt) (x4 : Int32), k23 w σ x4 = some 1 → G p l e room_1 s m #[Value.ref b] below meth c 7 (ce + 4) (sl + 24) (lw_Z below #[Value.ref b] s) E w σ 23 [(0, .ref b), (1, .ref (eB E + 0)), (2, .ref (eB E + 583)), (3, .ref (eB E + 605)), (4, .int x4)] []) {w : Nat → Int64} {σ : gSt} {x4 : Int32} (hf : f_L_law_b1001 fu xs L k23 w σ x4 = some 1) : G p l e room_1 s m #[Value.ref b] below meth c 7 ce sl (lw_Z below #[Value.ref b] s) E w σ 1001 [(0, .ref b), (1, .ref (eB E + 0)), (2, .ref (eB E + 583)), (3, .ref (eB E + 605)), (4, .int x4)] [] := by
  unfold f_L_law_b1001 at hf
  refine G_aload_n (q := 1002) hC dL_law_1001 rfl rfl ?_
  refine G_aload_n (q := 1003) hC dL_law_1002 rfl rfl ?_
  refine G_iload (q := 1005) hC dL_law_1003 rfl rfl ?_
  refine G_iconst (q := 1006) hC dL_law_1005 rfl ic_1 ?_
  refine G_iadd (q := 1007) hC dL_law_1006 rfl ?_
  obtain ⟨g1, hf⟩ := gd_ok hf
  refine G_sld (q := 1008) hC dL_law_1007 rfl hB g1 ?_
  refine G_aload_n (q := 1009) hC dL_law_1008 rfl rfl ?_
  obtain ⟨v1, w1, σ1, hm1, hf⟩ := bL_ok hf
  refine G_callL (q := 1012) (n := 3) (As := [.ref (eB E + 0), .int (xs (x4 + (1 : Int32)).toNatClampNeg), .ref (eB E + 605)]) (st := []) hC hN dL_law_1009 rfl (m_L_die hflag hm1) (wall (by decide +kernel) rfl) (wall (by decide +kernel) rfl) (wall (by decide +kernel) rfl) (wall (by decide +kernel) rfl) rfl ⟨by decide +kernel, by decide +kernel, by decide +kernel⟩ ⟨Nat.le_of_ble_eq_true rfl, Nat.le_of_ble_eq_true rfl⟩ (Nat.le_of_ble_eq_true rfl) ⟨Nat.le_trans (Nat.add_le_add_left (Nat.le_of_ble_eq_true rfl) _) hce, Nat.le_trans (Nat.add_le_add_left (Nat.le_of_ble_eq_true rfl) _) hsl⟩ ?_
  refine G_widen (k := ce + 4) (n := sl + 24) (Nat.add_le_add_left (Nat.le_of_ble_eq_true rfl) _) (Nat.add_le_add_left (Nat.le_of_ble_eq_true rfl) _) ?_
  refine G_istore (q := 1014) (lv' := [(5, .int v1), (0, .ref b), (1, .ref (eB E + 0)), (2, .ref (eB E + 583)), (3, .ref (eB E + 605)), (4, .int x4)]) hC dL_law_1012 rfl (by decide) rfl ?_
  refine G_aload_n (q := 1015) hC dL_law_1014 rfl rfl ?_
  refine G_aload_n (q := 1016) hC dL_law_1015 rfl rfl ?_
  refine G_iload (q := 1018) hC dL_law_1016 rfl rfl ?_
  refine G_iconst (q := 1019) hC dL_law_1018 rfl ic_1 ?_
  refine G_iadd (q := 1020) hC dL_law_1019 rfl ?_
  obtain ⟨g2, hf⟩ := gd_ok hf
  refine G_sld (q := 1021) hC dL_law_1020 rfl hB g2 ?_
  obtain ⟨v2, σ2, hm2, hf⟩ := bd_ok hf
  refine cl_RL_140 (q := 1024) hC dL_law_1021 rfl (m_X7_die hm2) ⟨Nat.le_of_ble_eq_true rfl, Nat.le_of_ble_eq_true rfl⟩ (Nat.le_of_ble_eq_true rfl) ⟨hce, hsl⟩ ?_
  refine G_istore (q := 1026) (lv' := [(6, .int v2), (5, .int v1), (0, .ref b), (1, .ref (eB E + 0)), (2, .ref (eB E + 583)), (3, .ref (eB E + 605)), (4, .int x4)]) hC dL_law_1024 rfl (by decide) rfl ?_
  refine G_aload_n (q := 1027) hC dL_law_1026 rfl rfl ?_
  obtain ⟨v3, σ3, hm3, hf⟩ := bd_ok hf
  refine cl_RL_93 (q := 1030) hC dL_law_1027 rfl (m_X7_thrown hm3) ⟨Nat.le_of_ble_eq_true rfl, Nat.le_of_ble_eq_true rfl⟩ (Nat.le_of_ble_eq_true rfl) ⟨hce, hsl⟩ ?_
  refine G_iload (q := 1032) hC dL_law_1030 rfl rfl ?_
  refine G_icmp_eq (tgt := 1037) (q := 1035) hC dL_law_1032 (by decide) rfl (fun c4 => ?_) (fun c4 => ?_)
  · have hf := (if_pos c4).symm.trans hf
    refine G_iload (q := 1039) hC dL_law_1037 rfl rfl ?_
    refine G_if_ne (tgt := 1054) (q := 1042) hC dL_law_1039 (by decide) rfl (fun c5 => ?_) (fun c5 => ?_)
    · have hf := (if_neg c5).symm.trans hf
      refine G_lv (lv' := [(0, .ref b), (1, .ref (eB E + 0)), (2, .ref (eB E + 583)), (3, .ref (eB E + 605)), (4, .int x4)]) [2, 3, 4, 5, 6] rfl ?_
      exact t_L_law_b1054 hC hN hB hB2 hflag hce hsl hk23 hf
    · have hf := (if_pos c5).symm.trans hf
      refine G_aload_n (q := 1043) hC dL_law_1042 rfl rfl ?_
      refine G_iconst (q := 1044) hC dL_law_1043 rfl ic_0 ?_
      refine G_lald (q := 1045) hC dL_law_1044 rfl ?_
      refine G_iload (q := 1047) hC dL_law_1045 rfl rfl ?_
      refine G_i2l (q := 1048) hC dL_law_1047 rfl ?_
      refine G_lcmp (q := 1049) hC dL_law_1048 rfl ?_
      refine G_if_eq (tgt := 1054) (q := 1052) hC dL_law_1049 (by decide) rfl (fun c6 => ?_) (fun c6 => ?_)
      · have hf := (if_pos c6).symm.trans hf
        refine G_lv (lv' := [(0, .ref b), (1, .ref (eB E + 0)), (2, .ref (eB E + 583)), (3, .ref (eB E + 605)), (4, .int x4)]) [2, 3, 4, 5, 6] rfl ?_
        exact t_L_law_b1054 hC hN hB hB2 hflag hce hsl hk23 hf
      · have hf := (if_neg c6).symm.trans hf
        refine G_iconst (q := 1053) hC dL_law_1052 rfl ic_0 ?_
        exact absurd hf (by decide)
  · have hf := (if_neg c4).symm.trans hf
    refine G_iconst (q := 1036) hC dL_law_1035 rfl ic_0 ?_
    exact absurd hf (by decide)

def f_L_law_b1110 (fu : Nat) (xs : Nat → Int32) (L : Nat) (k23 : (Nat → Int64) → gSt → Int32 → Option Int32) (w : Nat → Int64) (σ : gSt) (x4 : Int32) : Option Int32 :=
  f_L_law_b1598 fu xs L k23 w σ x4
set_option maxRecDepth 100000 in
theorem t_L_law_b1110 {fu b L : Nat} {xs : Nat → Int32} {k23 : (Nat → Int64) → gSt → Int32 → Option Int32} (hC : gCx p s m #[Value.ref b] meth c cL_law 7 RL (some .boolean) E) (hN : gN s) (hB : gS s E b L xs) (hB2 : s.heap.size ≤ eB E) (hflag : l.stackTraces = false) {ce sl : Nat} (hce : ce + 4 ≤ room_1.cells) (hsl : sl + 24 ≤ room_1.slots) (hk23 : ∀ (w : Nat → Int64) (σ : gSt) (x4 : Int32), k23 w σ x4 = some 1 → G p l e room_1 s m #[Value.ref b] below meth c 7 (ce + 4) (sl + 24) (lw_Z below #[Value.ref b] s) E w σ 23 [(0, .ref b), (1, .ref (eB E + 0)), (2, .ref (eB E + 583)), (3, .ref (eB E + 605)), (4, .int x4)] []) {w : Nat → Int64} {σ : gSt} {x4 : Int32} (hf : f_L_law_b1110 fu xs L k23 w σ x4 = some 1) : G p l e room_1 s m #[Value.ref b] below meth c 7 (ce + 4) (sl + 24) (lw_Z below #[Value.ref b] s) E w σ 1110 [(0, .ref b), (1, .ref (eB E + 0)), (2, .ref (eB E + 583)), (3, .ref (eB E + 605)), (4, .int x4)] [] := by
  unfold f_L_law_b1110 at hf
  refine G_goto (tgt := 1598) hC dL_law_1110 (by decide) ?_
  exact t_L_law_b1598 hC hN hB hB2 hflag hce hsl hk23 hf

def f_L_law_b1057 (fu : Nat) (xs : Nat → Int32) (L : Nat) (k23 : (Nat → Int64) → gSt → Int32 → Option Int32) (w : Nat → Int64) (σ : gSt) (x4 : Int32) : Option Int32 :=
  gd (inb (x4 + (1 : Int32)) L) (bL (f_L_pass fu w σ (xs (x4 + (1 : Int32)).toNatClampNeg)) (fun v1 w1 σ1 => gd (inb (x4 + (1 : Int32)) L) (bd (f_X7_pass fu σ1 (xs (x4 + (1 : Int32)).toNatClampNeg)) (fun v2 σ2 => bd (f_X7_thrown fu σ2 ) (fun v3 σ3 => if v3 = v1 then (if v1 = 0 then (if (lg_cmp (w1 0) ((v2).toInt64)) = 0 then (f_L_law_b1110 fu xs L k23 w1 σ3 x4) else (some 0)) else (f_L_law_b1110 fu xs L k23 w1 σ3 x4)) else (some 0))))))
set_option maxRecDepth 100000 in
theorem t_L_law_b1057 {fu b L : Nat} {xs : Nat → Int32} {k23 : (Nat → Int64) → gSt → Int32 → Option Int32} (hC : gCx p s m #[Value.ref b] meth c cL_law 7 RL (some .boolean) E) (hN : gN s) (hB : gS s E b L xs) (hB2 : s.heap.size ≤ eB E) (hflag : l.stackTraces = false) {ce sl : Nat} (hce : ce + 4 ≤ room_1.cells) (hsl : sl + 24 ≤ room_1.slots) (hk23 : ∀ (w : Nat → Int64) (σ : gSt) (x4 : Int32), k23 w σ x4 = some 1 → G p l e room_1 s m #[Value.ref b] below meth c 7 (ce + 4) (sl + 24) (lw_Z below #[Value.ref b] s) E w σ 23 [(0, .ref b), (1, .ref (eB E + 0)), (2, .ref (eB E + 583)), (3, .ref (eB E + 605)), (4, .int x4)] []) {w : Nat → Int64} {σ : gSt} {x4 : Int32} (hf : f_L_law_b1057 fu xs L k23 w σ x4 = some 1) : G p l e room_1 s m #[Value.ref b] below meth c 7 ce sl (lw_Z below #[Value.ref b] s) E w σ 1057 [(0, .ref b), (1, .ref (eB E + 0)), (2, .ref (eB E + 583)), (3, .ref (eB E + 605)), (4, .int x4)] [] := by
  unfold f_L_law_b1057 at hf
  refine G_aload_n (q := 1058) hC dL_law_1057 rfl rfl ?_
  refine G_aload_n (q := 1059) hC dL_law_1058 rfl rfl ?_
  refine G_iload (q := 1061) hC dL_law_1059 rfl rfl ?_
  refine G_iconst (q := 1062) hC dL_law_1061 rfl ic_1 ?_
  refine G_iadd (q := 1063) hC dL_law_1062 rfl ?_
  obtain ⟨g1, hf⟩ := gd_ok hf
  refine G_sld (q := 1064) hC dL_law_1063 rfl hB g1 ?_
  refine G_aload_n (q := 1065) hC dL_law_1064 rfl rfl ?_
  obtain ⟨v1, w1, σ1, hm1, hf⟩ := bL_ok hf
  refine G_callL (q := 1068) (n := 3) (As := [.ref (eB E + 0), .int (xs (x4 + (1 : Int32)).toNatClampNeg), .ref (eB E + 605)]) (st := []) hC hN dL_law_1065 rfl (m_L_pass hflag hm1) (wall (by decide +kernel) rfl) (wall (by decide +kernel) rfl) (wall (by decide +kernel) rfl) (wall (by decide +kernel) rfl) rfl ⟨by decide +kernel, by decide +kernel, by decide +kernel⟩ ⟨Nat.le_of_ble_eq_true rfl, Nat.le_of_ble_eq_true rfl⟩ (Nat.le_of_ble_eq_true rfl) ⟨Nat.le_trans (Nat.add_le_add_left (Nat.le_of_ble_eq_true rfl) _) hce, Nat.le_trans (Nat.add_le_add_left (Nat.le_of_ble_eq_true rfl) _) hsl⟩ ?_
  refine G_widen (k := ce + 4) (n := sl + 24) (Nat.add_le_add_left (Nat.le_of_ble_eq_true rfl) _) (Nat.add_le_add_left (Nat.le_of_ble_eq_true rfl) _) ?_
  refine G_istore (q := 1070) (lv' := [(5, .int v1), (0, .ref b), (1, .ref (eB E + 0)), (2, .ref (eB E + 583)), (3, .ref (eB E + 605)), (4, .int x4)]) hC dL_law_1068 rfl (by decide) rfl ?_
  refine G_aload_n (q := 1071) hC dL_law_1070 rfl rfl ?_
  refine G_aload_n (q := 1072) hC dL_law_1071 rfl rfl ?_
  refine G_iload (q := 1074) hC dL_law_1072 rfl rfl ?_
  refine G_iconst (q := 1075) hC dL_law_1074 rfl ic_1 ?_
  refine G_iadd (q := 1076) hC dL_law_1075 rfl ?_
  obtain ⟨g2, hf⟩ := gd_ok hf
  refine G_sld (q := 1077) hC dL_law_1076 rfl hB g2 ?_
  obtain ⟨v2, σ2, hm2, hf⟩ := bd_ok hf
  refine cl_RL_143 (q := 1080) hC dL_law_1077 rfl (m_X7_pass hm2) ⟨Nat.le_of_ble_eq_true rfl, Nat.le_of_ble_eq_true rfl⟩ (Nat.le_of_ble_eq_true rfl) ⟨hce, hsl⟩ ?_
  refine G_istore (q := 1082) (lv' := [(6, .int v2), (5, .int v1), (0, .ref b), (1, .ref (eB E + 0)), (2, .ref (eB E + 583)), (3, .ref (eB E + 605)), (4, .int x4)]) hC dL_law_1080 rfl (by decide) rfl ?_
  refine G_aload_n (q := 1083) hC dL_law_1082 rfl rfl ?_
  obtain ⟨v3, σ3, hm3, hf⟩ := bd_ok hf
  refine cl_RL_93 (q := 1086) hC dL_law_1083 rfl (m_X7_thrown hm3) ⟨Nat.le_of_ble_eq_true rfl, Nat.le_of_ble_eq_true rfl⟩ (Nat.le_of_ble_eq_true rfl) ⟨hce, hsl⟩ ?_
  refine G_iload (q := 1088) hC dL_law_1086 rfl rfl ?_
  refine G_icmp_eq (tgt := 1093) (q := 1091) hC dL_law_1088 (by decide) rfl (fun c4 => ?_) (fun c4 => ?_)
  · have hf := (if_pos c4).symm.trans hf
    refine G_iload (q := 1095) hC dL_law_1093 rfl rfl ?_
    refine G_if_ne (tgt := 1110) (q := 1098) hC dL_law_1095 (by decide) rfl (fun c5 => ?_) (fun c5 => ?_)
    · have hf := (if_neg c5).symm.trans hf
      refine G_lv (lv' := [(0, .ref b), (1, .ref (eB E + 0)), (2, .ref (eB E + 583)), (3, .ref (eB E + 605)), (4, .int x4)]) [2, 3, 4, 5, 6] rfl ?_
      exact t_L_law_b1110 hC hN hB hB2 hflag hce hsl hk23 hf
    · have hf := (if_pos c5).symm.trans hf
      refine G_aload_n (q := 1099) hC dL_law_1098 rfl rfl ?_
      refine G_iconst (q := 1100) hC dL_law_1099 rfl ic_0 ?_
      refine G_lald (q := 1101) hC dL_law_1100 rfl ?_
      refine G_iload (q := 1103) hC dL_law_1101 rfl rfl ?_
      refine G_i2l (q := 1104) hC dL_law_1103 rfl ?_
      refine G_lcmp (q := 1105) hC dL_law_1104 rfl ?_
      refine G_if_eq (tgt := 1110) (q := 1108) hC dL_law_1105 (by decide) rfl (fun c6 => ?_) (fun c6 => ?_)
      · have hf := (if_pos c6).symm.trans hf
        refine G_lv (lv' := [(0, .ref b), (1, .ref (eB E + 0)), (2, .ref (eB E + 583)), (3, .ref (eB E + 605)), (4, .int x4)]) [2, 3, 4, 5, 6] rfl ?_
        exact t_L_law_b1110 hC hN hB hB2 hflag hce hsl hk23 hf
      · have hf := (if_neg c6).symm.trans hf
        refine G_iconst (q := 1109) hC dL_law_1108 rfl ic_0 ?_
        exact absurd hf (by decide)
  · have hf := (if_neg c4).symm.trans hf
    refine G_iconst (q := 1092) hC dL_law_1091 rfl ic_0 ?_
    exact absurd hf (by decide)

def f_L_law_b1166 (fu : Nat) (xs : Nat → Int32) (L : Nat) (k23 : (Nat → Int64) → gSt → Int32 → Option Int32) (w : Nat → Int64) (σ : gSt) (x4 : Int32) : Option Int32 :=
  f_L_law_b1598 fu xs L k23 w σ x4
set_option maxRecDepth 100000 in
theorem t_L_law_b1166 {fu b L : Nat} {xs : Nat → Int32} {k23 : (Nat → Int64) → gSt → Int32 → Option Int32} (hC : gCx p s m #[Value.ref b] meth c cL_law 7 RL (some .boolean) E) (hN : gN s) (hB : gS s E b L xs) (hB2 : s.heap.size ≤ eB E) (hflag : l.stackTraces = false) {ce sl : Nat} (hce : ce + 4 ≤ room_1.cells) (hsl : sl + 24 ≤ room_1.slots) (hk23 : ∀ (w : Nat → Int64) (σ : gSt) (x4 : Int32), k23 w σ x4 = some 1 → G p l e room_1 s m #[Value.ref b] below meth c 7 (ce + 4) (sl + 24) (lw_Z below #[Value.ref b] s) E w σ 23 [(0, .ref b), (1, .ref (eB E + 0)), (2, .ref (eB E + 583)), (3, .ref (eB E + 605)), (4, .int x4)] []) {w : Nat → Int64} {σ : gSt} {x4 : Int32} (hf : f_L_law_b1166 fu xs L k23 w σ x4 = some 1) : G p l e room_1 s m #[Value.ref b] below meth c 7 (ce + 4) (sl + 24) (lw_Z below #[Value.ref b] s) E w σ 1166 [(0, .ref b), (1, .ref (eB E + 0)), (2, .ref (eB E + 583)), (3, .ref (eB E + 605)), (4, .int x4)] [] := by
  unfold f_L_law_b1166 at hf
  refine G_goto (tgt := 1598) hC dL_law_1166 (by decide) ?_
  exact t_L_law_b1598 hC hN hB hB2 hflag hce hsl hk23 hf

def f_L_law_b1113 (fu : Nat) (xs : Nat → Int32) (L : Nat) (k23 : (Nat → Int64) → gSt → Int32 → Option Int32) (w : Nat → Int64) (σ : gSt) (x4 : Int32) : Option Int32 :=
  gd (inb (x4 + (1 : Int32)) L) (bL (f_L_print fu w σ (xs (x4 + (1 : Int32)).toNatClampNeg)) (fun v1 w1 σ1 => gd (inb (x4 + (1 : Int32)) L) (bd (f_X7_print fu σ1 (xs (x4 + (1 : Int32)).toNatClampNeg)) (fun v2 σ2 => bd (f_X7_thrown fu σ2 ) (fun v3 σ3 => if v3 = v1 then (if v1 = 0 then (if (lg_cmp (w1 0) ((v2).toInt64)) = 0 then (f_L_law_b1166 fu xs L k23 w1 σ3 x4) else (some 0)) else (f_L_law_b1166 fu xs L k23 w1 σ3 x4)) else (some 0))))))
set_option maxRecDepth 100000 in
theorem t_L_law_b1113 {fu b L : Nat} {xs : Nat → Int32} {k23 : (Nat → Int64) → gSt → Int32 → Option Int32} (hC : gCx p s m #[Value.ref b] meth c cL_law 7 RL (some .boolean) E) (hN : gN s) (hB : gS s E b L xs) (hB2 : s.heap.size ≤ eB E) (hflag : l.stackTraces = false) {ce sl : Nat} (hce : ce + 4 ≤ room_1.cells) (hsl : sl + 24 ≤ room_1.slots) (hk23 : ∀ (w : Nat → Int64) (σ : gSt) (x4 : Int32), k23 w σ x4 = some 1 → G p l e room_1 s m #[Value.ref b] below meth c 7 (ce + 4) (sl + 24) (lw_Z below #[Value.ref b] s) E w σ 23 [(0, .ref b), (1, .ref (eB E + 0)), (2, .ref (eB E + 583)), (3, .ref (eB E + 605)), (4, .int x4)] []) {w : Nat → Int64} {σ : gSt} {x4 : Int32} (hf : f_L_law_b1113 fu xs L k23 w σ x4 = some 1) : G p l e room_1 s m #[Value.ref b] below meth c 7 ce sl (lw_Z below #[Value.ref b] s) E w σ 1113 [(0, .ref b), (1, .ref (eB E + 0)), (2, .ref (eB E + 583)), (3, .ref (eB E + 605)), (4, .int x4)] [] := by
  unfold f_L_law_b1113 at hf
  refine G_aload_n (q := 1114) hC dL_law_1113 rfl rfl ?_
  refine G_aload_n (q := 1115) hC dL_law_1114 rfl rfl ?_
  refine G_iload (q := 1117) hC dL_law_1115 rfl rfl ?_
  refine G_iconst (q := 1118) hC dL_law_1117 rfl ic_1 ?_
  refine G_iadd (q := 1119) hC dL_law_1118 rfl ?_
  obtain ⟨g1, hf⟩ := gd_ok hf
  refine G_sld (q := 1120) hC dL_law_1119 rfl hB g1 ?_
  refine G_aload_n (q := 1121) hC dL_law_1120 rfl rfl ?_
  obtain ⟨v1, w1, σ1, hm1, hf⟩ := bL_ok hf
  refine G_callL (q := 1124) (n := 3) (As := [.ref (eB E + 0), .int (xs (x4 + (1 : Int32)).toNatClampNeg), .ref (eB E + 605)]) (st := []) hC hN dL_law_1121 rfl (m_L_print hflag hm1) (wall (by decide +kernel) rfl) (wall (by decide +kernel) rfl) (wall (by decide +kernel) rfl) (wall (by decide +kernel) rfl) rfl ⟨by decide +kernel, by decide +kernel, by decide +kernel⟩ ⟨Nat.le_of_ble_eq_true rfl, Nat.le_of_ble_eq_true rfl⟩ (Nat.le_of_ble_eq_true rfl) ⟨Nat.le_trans (Nat.add_le_add_left (Nat.le_of_ble_eq_true rfl) _) hce, Nat.le_trans (Nat.add_le_add_left (Nat.le_of_ble_eq_true rfl) _) hsl⟩ ?_
  refine G_widen (k := ce + 4) (n := sl + 24) (Nat.add_le_add_left (Nat.le_of_ble_eq_true rfl) _) (Nat.add_le_add_left (Nat.le_of_ble_eq_true rfl) _) ?_
  refine G_istore (q := 1126) (lv' := [(5, .int v1), (0, .ref b), (1, .ref (eB E + 0)), (2, .ref (eB E + 583)), (3, .ref (eB E + 605)), (4, .int x4)]) hC dL_law_1124 rfl (by decide) rfl ?_
  refine G_aload_n (q := 1127) hC dL_law_1126 rfl rfl ?_
  refine G_aload_n (q := 1128) hC dL_law_1127 rfl rfl ?_
  refine G_iload (q := 1130) hC dL_law_1128 rfl rfl ?_
  refine G_iconst (q := 1131) hC dL_law_1130 rfl ic_1 ?_
  refine G_iadd (q := 1132) hC dL_law_1131 rfl ?_
  obtain ⟨g2, hf⟩ := gd_ok hf
  refine G_sld (q := 1133) hC dL_law_1132 rfl hB g2 ?_
  obtain ⟨v2, σ2, hm2, hf⟩ := bd_ok hf
  refine cl_RL_146 (q := 1136) hC dL_law_1133 rfl (m_X7_print hm2) ⟨Nat.le_of_ble_eq_true rfl, Nat.le_of_ble_eq_true rfl⟩ (Nat.le_of_ble_eq_true rfl) ⟨hce, hsl⟩ ?_
  refine G_istore (q := 1138) (lv' := [(6, .int v2), (5, .int v1), (0, .ref b), (1, .ref (eB E + 0)), (2, .ref (eB E + 583)), (3, .ref (eB E + 605)), (4, .int x4)]) hC dL_law_1136 rfl (by decide) rfl ?_
  refine G_aload_n (q := 1139) hC dL_law_1138 rfl rfl ?_
  obtain ⟨v3, σ3, hm3, hf⟩ := bd_ok hf
  refine cl_RL_93 (q := 1142) hC dL_law_1139 rfl (m_X7_thrown hm3) ⟨Nat.le_of_ble_eq_true rfl, Nat.le_of_ble_eq_true rfl⟩ (Nat.le_of_ble_eq_true rfl) ⟨hce, hsl⟩ ?_
  refine G_iload (q := 1144) hC dL_law_1142 rfl rfl ?_
  refine G_icmp_eq (tgt := 1149) (q := 1147) hC dL_law_1144 (by decide) rfl (fun c4 => ?_) (fun c4 => ?_)
  · have hf := (if_pos c4).symm.trans hf
    refine G_iload (q := 1151) hC dL_law_1149 rfl rfl ?_
    refine G_if_ne (tgt := 1166) (q := 1154) hC dL_law_1151 (by decide) rfl (fun c5 => ?_) (fun c5 => ?_)
    · have hf := (if_neg c5).symm.trans hf
      refine G_lv (lv' := [(0, .ref b), (1, .ref (eB E + 0)), (2, .ref (eB E + 583)), (3, .ref (eB E + 605)), (4, .int x4)]) [2, 3, 4, 5, 6] rfl ?_
      exact t_L_law_b1166 hC hN hB hB2 hflag hce hsl hk23 hf
    · have hf := (if_pos c5).symm.trans hf
      refine G_aload_n (q := 1155) hC dL_law_1154 rfl rfl ?_
      refine G_iconst (q := 1156) hC dL_law_1155 rfl ic_0 ?_
      refine G_lald (q := 1157) hC dL_law_1156 rfl ?_
      refine G_iload (q := 1159) hC dL_law_1157 rfl rfl ?_
      refine G_i2l (q := 1160) hC dL_law_1159 rfl ?_
      refine G_lcmp (q := 1161) hC dL_law_1160 rfl ?_
      refine G_if_eq (tgt := 1166) (q := 1164) hC dL_law_1161 (by decide) rfl (fun c6 => ?_) (fun c6 => ?_)
      · have hf := (if_pos c6).symm.trans hf
        refine G_lv (lv' := [(0, .ref b), (1, .ref (eB E + 0)), (2, .ref (eB E + 583)), (3, .ref (eB E + 605)), (4, .int x4)]) [2, 3, 4, 5, 6] rfl ?_
        exact t_L_law_b1166 hC hN hB hB2 hflag hce hsl hk23 hf
      · have hf := (if_neg c6).symm.trans hf
        refine G_iconst (q := 1165) hC dL_law_1164 rfl ic_0 ?_
        exact absurd hf (by decide)
  · have hf := (if_neg c4).symm.trans hf
    refine G_iconst (q := 1148) hC dL_law_1147 rfl ic_0 ?_
    exact absurd hf (by decide)

def f_L_law_b1210 (fu : Nat) (xs : Nat → Int32) (L : Nat) (k23 : (Nat → Int64) → gSt → Int32 → Option Int32) (w : Nat → Int64) (σ : gSt) (x4 : Int32) : Option Int32 :=
  f_L_law_b1598 fu xs L k23 w σ x4
set_option maxRecDepth 100000 in
theorem t_L_law_b1210 {fu b L : Nat} {xs : Nat → Int32} {k23 : (Nat → Int64) → gSt → Int32 → Option Int32} (hC : gCx p s m #[Value.ref b] meth c cL_law 7 RL (some .boolean) E) (hN : gN s) (hB : gS s E b L xs) (hB2 : s.heap.size ≤ eB E) (hflag : l.stackTraces = false) {ce sl : Nat} (hce : ce + 4 ≤ room_1.cells) (hsl : sl + 24 ≤ room_1.slots) (hk23 : ∀ (w : Nat → Int64) (σ : gSt) (x4 : Int32), k23 w σ x4 = some 1 → G p l e room_1 s m #[Value.ref b] below meth c 7 (ce + 4) (sl + 24) (lw_Z below #[Value.ref b] s) E w σ 23 [(0, .ref b), (1, .ref (eB E + 0)), (2, .ref (eB E + 583)), (3, .ref (eB E + 605)), (4, .int x4)] []) {w : Nat → Int64} {σ : gSt} {x4 : Int32} (hf : f_L_law_b1210 fu xs L k23 w σ x4 = some 1) : G p l e room_1 s m #[Value.ref b] below meth c 7 (ce + 4) (sl + 24) (lw_Z below #[Value.ref b] s) E w σ 1210 [(0, .ref b), (1, .ref (eB E + 0)), (2, .ref (eB E + 583)), (3, .ref (eB E + 605)), (4, .int x4)] [] := by
  unfold f_L_law_b1210 at hf
  refine G_goto (tgt := 1598) hC dL_law_1210 (by decide) ?_
  exact t_L_law_b1598 hC hN hB hB2 hflag hce hsl hk23 hf

def f_L_law_b1169 (fu : Nat) (xs : Nat → Int32) (L : Nat) (k23 : (Nat → Int64) → gSt → Int32 → Option Int32) (w : Nat → Int64) (σ : gSt) (x4 : Int32) : Option Int32 :=
  bL (f_L_supplement fu w σ ) (fun v1 w1 σ1 => bd (f_X7_supplement fu σ1 ) (fun v2 σ2 => bd (f_X7_thrown fu σ2 ) (fun v3 σ3 => if v3 = v1 then (if v1 = 0 then (if (lg_cmp (w1 0) ((v2).toInt64)) = 0 then (f_L_law_b1210 fu xs L k23 w1 σ3 x4) else (some 0)) else (f_L_law_b1210 fu xs L k23 w1 σ3 x4)) else (some 0))))
set_option maxRecDepth 100000 in
theorem t_L_law_b1169 {fu b L : Nat} {xs : Nat → Int32} {k23 : (Nat → Int64) → gSt → Int32 → Option Int32} (hC : gCx p s m #[Value.ref b] meth c cL_law 7 RL (some .boolean) E) (hN : gN s) (hB : gS s E b L xs) (hB2 : s.heap.size ≤ eB E) (hflag : l.stackTraces = false) {ce sl : Nat} (hce : ce + 4 ≤ room_1.cells) (hsl : sl + 24 ≤ room_1.slots) (hk23 : ∀ (w : Nat → Int64) (σ : gSt) (x4 : Int32), k23 w σ x4 = some 1 → G p l e room_1 s m #[Value.ref b] below meth c 7 (ce + 4) (sl + 24) (lw_Z below #[Value.ref b] s) E w σ 23 [(0, .ref b), (1, .ref (eB E + 0)), (2, .ref (eB E + 583)), (3, .ref (eB E + 605)), (4, .int x4)] []) {w : Nat → Int64} {σ : gSt} {x4 : Int32} (hf : f_L_law_b1169 fu xs L k23 w σ x4 = some 1) : G p l e room_1 s m #[Value.ref b] below meth c 7 ce sl (lw_Z below #[Value.ref b] s) E w σ 1169 [(0, .ref b), (1, .ref (eB E + 0)), (2, .ref (eB E + 583)), (3, .ref (eB E + 605)), (4, .int x4)] [] := by
  unfold f_L_law_b1169 at hf
  refine G_aload_n (q := 1170) hC dL_law_1169 rfl rfl ?_
  refine G_aload_n (q := 1171) hC dL_law_1170 rfl rfl ?_
  obtain ⟨v1, w1, σ1, hm1, hf⟩ := bL_ok hf
  refine G_callL (q := 1174) (n := 2) (As := [.ref (eB E + 0), .ref (eB E + 605)]) (st := []) hC hN dL_law_1171 rfl (m_L_supplement hflag hm1) (wall (by decide +kernel) rfl) (wall (by decide +kernel) rfl) (wall (by decide +kernel) rfl) (wall (by decide +kernel) rfl) rfl ⟨by decide +kernel, by decide +kernel, by decide +kernel⟩ ⟨Nat.le_of_ble_eq_true rfl, Nat.le_of_ble_eq_true rfl⟩ (Nat.le_of_ble_eq_true rfl) ⟨Nat.le_trans (Nat.add_le_add_left (Nat.le_of_ble_eq_true rfl) _) hce, Nat.le_trans (Nat.add_le_add_left (Nat.le_of_ble_eq_true rfl) _) hsl⟩ ?_
  refine G_widen (k := ce + 4) (n := sl + 24) (Nat.add_le_add_left (Nat.le_of_ble_eq_true rfl) _) (Nat.add_le_add_left (Nat.le_of_ble_eq_true rfl) _) ?_
  refine G_istore (q := 1176) (lv' := [(5, .int v1), (0, .ref b), (1, .ref (eB E + 0)), (2, .ref (eB E + 583)), (3, .ref (eB E + 605)), (4, .int x4)]) hC dL_law_1174 rfl (by decide) rfl ?_
  refine G_aload_n (q := 1177) hC dL_law_1176 rfl rfl ?_
  obtain ⟨v2, σ2, hm2, hf⟩ := bd_ok hf
  refine cl_RL_150 (q := 1180) hC dL_law_1177 rfl (m_X7_supplement hm2) ⟨Nat.le_of_ble_eq_true rfl, Nat.le_of_ble_eq_true rfl⟩ (Nat.le_of_ble_eq_true rfl) ⟨hce, hsl⟩ ?_
  refine G_istore (q := 1182) (lv' := [(6, .int v2), (5, .int v1), (0, .ref b), (1, .ref (eB E + 0)), (2, .ref (eB E + 583)), (3, .ref (eB E + 605)), (4, .int x4)]) hC dL_law_1180 rfl (by decide) rfl ?_
  refine G_aload_n (q := 1183) hC dL_law_1182 rfl rfl ?_
  obtain ⟨v3, σ3, hm3, hf⟩ := bd_ok hf
  refine cl_RL_93 (q := 1186) hC dL_law_1183 rfl (m_X7_thrown hm3) ⟨Nat.le_of_ble_eq_true rfl, Nat.le_of_ble_eq_true rfl⟩ (Nat.le_of_ble_eq_true rfl) ⟨hce, hsl⟩ ?_
  refine G_iload (q := 1188) hC dL_law_1186 rfl rfl ?_
  refine G_icmp_eq (tgt := 1193) (q := 1191) hC dL_law_1188 (by decide) rfl (fun c4 => ?_) (fun c4 => ?_)
  · have hf := (if_pos c4).symm.trans hf
    refine G_iload (q := 1195) hC dL_law_1193 rfl rfl ?_
    refine G_if_ne (tgt := 1210) (q := 1198) hC dL_law_1195 (by decide) rfl (fun c5 => ?_) (fun c5 => ?_)
    · have hf := (if_neg c5).symm.trans hf
      refine G_lv (lv' := [(0, .ref b), (1, .ref (eB E + 0)), (2, .ref (eB E + 583)), (3, .ref (eB E + 605)), (4, .int x4)]) [2, 3, 4, 5, 6] rfl ?_
      exact t_L_law_b1210 hC hN hB hB2 hflag hce hsl hk23 hf
    · have hf := (if_pos c5).symm.trans hf
      refine G_aload_n (q := 1199) hC dL_law_1198 rfl rfl ?_
      refine G_iconst (q := 1200) hC dL_law_1199 rfl ic_0 ?_
      refine G_lald (q := 1201) hC dL_law_1200 rfl ?_
      refine G_iload (q := 1203) hC dL_law_1201 rfl rfl ?_
      refine G_i2l (q := 1204) hC dL_law_1203 rfl ?_
      refine G_lcmp (q := 1205) hC dL_law_1204 rfl ?_
      refine G_if_eq (tgt := 1210) (q := 1208) hC dL_law_1205 (by decide) rfl (fun c6 => ?_) (fun c6 => ?_)
      · have hf := (if_pos c6).symm.trans hf
        refine G_lv (lv' := [(0, .ref b), (1, .ref (eB E + 0)), (2, .ref (eB E + 583)), (3, .ref (eB E + 605)), (4, .int x4)]) [2, 3, 4, 5, 6] rfl ?_
        exact t_L_law_b1210 hC hN hB hB2 hflag hce hsl hk23 hf
      · have hf := (if_neg c6).symm.trans hf
        refine G_iconst (q := 1209) hC dL_law_1208 rfl ic_0 ?_
        exact absurd hf (by decide)
  · have hf := (if_neg c4).symm.trans hf
    refine G_iconst (q := 1192) hC dL_law_1191 rfl ic_0 ?_
    exact absurd hf (by decide)

def f_L_law_b1213 (fu : Nat) (xs : Nat → Int32) (L : Nat) (k23 : (Nat → Int64) → gSt → Int32 → Option Int32) (w : Nat → Int64) (σ : gSt) (x4 : Int32) : Option Int32 :=
  bd (f_X6_month fu σ ) (fun v1 σ1 => bd (f_X7_month fu σ1 ) (fun v2 σ2 => if v1 = v2 then (f_L_law_b1598 fu xs L k23 w σ2 x4) else (some 0)))
set_option maxRecDepth 100000 in
theorem t_L_law_b1213 {fu b L : Nat} {xs : Nat → Int32} {k23 : (Nat → Int64) → gSt → Int32 → Option Int32} (hC : gCx p s m #[Value.ref b] meth c cL_law 7 RL (some .boolean) E) (hN : gN s) (hB : gS s E b L xs) (hB2 : s.heap.size ≤ eB E) (hflag : l.stackTraces = false) {ce sl : Nat} (hce : ce + 4 ≤ room_1.cells) (hsl : sl + 24 ≤ room_1.slots) (hk23 : ∀ (w : Nat → Int64) (σ : gSt) (x4 : Int32), k23 w σ x4 = some 1 → G p l e room_1 s m #[Value.ref b] below meth c 7 (ce + 4) (sl + 24) (lw_Z below #[Value.ref b] s) E w σ 23 [(0, .ref b), (1, .ref (eB E + 0)), (2, .ref (eB E + 583)), (3, .ref (eB E + 605)), (4, .int x4)] []) {w : Nat → Int64} {σ : gSt} {x4 : Int32} (hf : f_L_law_b1213 fu xs L k23 w σ x4 = some 1) : G p l e room_1 s m #[Value.ref b] below meth c 7 ce sl (lw_Z below #[Value.ref b] s) E w σ 1213 [(0, .ref b), (1, .ref (eB E + 0)), (2, .ref (eB E + 583)), (3, .ref (eB E + 605)), (4, .int x4)] [] := by
  unfold f_L_law_b1213 at hf
  refine G_aload_n (q := 1214) hC dL_law_1213 rfl rfl ?_
  obtain ⟨v1, σ1, hm1, hf⟩ := bd_ok hf
  refine cl_RL_151 (q := 1217) hC dL_law_1214 rfl (m_X6_month hm1) ⟨Nat.le_of_ble_eq_true rfl, Nat.le_of_ble_eq_true rfl⟩ (Nat.le_of_ble_eq_true rfl) ⟨Nat.le_trans (Nat.le_add_right _ _) hce, Nat.le_trans (Nat.le_add_right _ _) hsl⟩ ?_
  refine G_aload_n (q := 1218) hC dL_law_1217 rfl rfl ?_
  obtain ⟨v2, σ2, hm2, hf⟩ := bd_ok hf
  refine cl_RL_154 (q := 1221) hC dL_law_1218 rfl (m_X7_month hm2) ⟨Nat.le_of_ble_eq_true rfl, Nat.le_of_ble_eq_true rfl⟩ (Nat.le_of_ble_eq_true rfl) ⟨Nat.le_trans (Nat.le_add_right _ _) hce, Nat.le_trans (Nat.le_add_right _ _) hsl⟩ ?_
  refine G_icmp_eq (tgt := 1598) (q := 1224) hC dL_law_1221 (by decide) rfl (fun c3 => ?_) (fun c3 => ?_)
  · have hf := (if_pos c3).symm.trans hf
    refine G_widen (k := ce + 4) (n := sl + 24) (Nat.le_add_right _ _) (Nat.le_add_right _ _) ?_
    exact t_L_law_b1598 hC hN hB hB2 hflag hce hsl hk23 hf
  · have hf := (if_neg c3).symm.trans hf
    refine G_iconst (q := 1225) hC dL_law_1224 rfl ic_0 ?_
    exact absurd hf (by decide)

def f_L_law_b1279 (fu : Nat) (xs : Nat → Int32) (L : Nat) (k23 : (Nat → Int64) → gSt → Int32 → Option Int32) (w : Nat → Int64) (σ : gSt) (x4 : Int32) : Option Int32 :=
  f_L_law_b1598 fu xs L k23 w σ x4
set_option maxRecDepth 100000 in
theorem t_L_law_b1279 {fu b L : Nat} {xs : Nat → Int32} {k23 : (Nat → Int64) → gSt → Int32 → Option Int32} (hC : gCx p s m #[Value.ref b] meth c cL_law 7 RL (some .boolean) E) (hN : gN s) (hB : gS s E b L xs) (hB2 : s.heap.size ≤ eB E) (hflag : l.stackTraces = false) {ce sl : Nat} (hce : ce + 4 ≤ room_1.cells) (hsl : sl + 24 ≤ room_1.slots) (hk23 : ∀ (w : Nat → Int64) (σ : gSt) (x4 : Int32), k23 w σ x4 = some 1 → G p l e room_1 s m #[Value.ref b] below meth c 7 (ce + 4) (sl + 24) (lw_Z below #[Value.ref b] s) E w σ 23 [(0, .ref b), (1, .ref (eB E + 0)), (2, .ref (eB E + 583)), (3, .ref (eB E + 605)), (4, .int x4)] []) {w : Nat → Int64} {σ : gSt} {x4 : Int32} (hf : f_L_law_b1279 fu xs L k23 w σ x4 = some 1) : G p l e room_1 s m #[Value.ref b] below meth c 7 (ce + 4) (sl + 24) (lw_Z below #[Value.ref b] s) E w σ 1279 [(0, .ref b), (1, .ref (eB E + 0)), (2, .ref (eB E + 583)), (3, .ref (eB E + 605)), (4, .int x4)] [] := by
  unfold f_L_law_b1279 at hf
  refine G_goto (tgt := 1598) hC dL_law_1279 (by decide) ?_
  exact t_L_law_b1598 hC hN hB hB2 hflag hce hsl hk23 hf

def f_L_law_b1226 (fu : Nat) (xs : Nat → Int32) (L : Nat) (k23 : (Nat → Int64) → gSt → Int32 → Option Int32) (w : Nat → Int64) (σ : gSt) (x4 : Int32) : Option Int32 :=
  gd (inb (x4 + (1 : Int32)) L) (bL (f_L_at fu w σ (xs (x4 + (1 : Int32)).toNatClampNeg)) (fun v1 w1 σ1 => gd (inb (x4 + (1 : Int32)) L) (bd (f_X7_at fu σ1 (xs (x4 + (1 : Int32)).toNatClampNeg)) (fun v2 σ2 => bd (f_X7_thrown fu σ2 ) (fun v3 σ3 => if v3 = v1 then (if v1 = 0 then (if (lg_cmp (w1 0) ((v2).toInt64)) = 0 then (f_L_law_b1279 fu xs L k23 w1 σ3 x4) else (some 0)) else (f_L_law_b1279 fu xs L k23 w1 σ3 x4)) else (some 0))))))
set_option maxRecDepth 100000 in
theorem t_L_law_b1226 {fu b L : Nat} {xs : Nat → Int32} {k23 : (Nat → Int64) → gSt → Int32 → Option Int32} (hC : gCx p s m #[Value.ref b] meth c cL_law 7 RL (some .boolean) E) (hN : gN s) (hB : gS s E b L xs) (hB2 : s.heap.size ≤ eB E) (hflag : l.stackTraces = false) {ce sl : Nat} (hce : ce + 4 ≤ room_1.cells) (hsl : sl + 24 ≤ room_1.slots) (hk23 : ∀ (w : Nat → Int64) (σ : gSt) (x4 : Int32), k23 w σ x4 = some 1 → G p l e room_1 s m #[Value.ref b] below meth c 7 (ce + 4) (sl + 24) (lw_Z below #[Value.ref b] s) E w σ 23 [(0, .ref b), (1, .ref (eB E + 0)), (2, .ref (eB E + 583)), (3, .ref (eB E + 605)), (4, .int x4)] []) {w : Nat → Int64} {σ : gSt} {x4 : Int32} (hf : f_L_law_b1226 fu xs L k23 w σ x4 = some 1) : G p l e room_1 s m #[Value.ref b] below meth c 7 ce sl (lw_Z below #[Value.ref b] s) E w σ 1226 [(0, .ref b), (1, .ref (eB E + 0)), (2, .ref (eB E + 583)), (3, .ref (eB E + 605)), (4, .int x4)] [] := by
  unfold f_L_law_b1226 at hf
  refine G_aload_n (q := 1227) hC dL_law_1226 rfl rfl ?_
  refine G_aload_n (q := 1228) hC dL_law_1227 rfl rfl ?_
  refine G_iload (q := 1230) hC dL_law_1228 rfl rfl ?_
  refine G_iconst (q := 1231) hC dL_law_1230 rfl ic_1 ?_
  refine G_iadd (q := 1232) hC dL_law_1231 rfl ?_
  obtain ⟨g1, hf⟩ := gd_ok hf
  refine G_sld (q := 1233) hC dL_law_1232 rfl hB g1 ?_
  refine G_aload_n (q := 1234) hC dL_law_1233 rfl rfl ?_
  obtain ⟨v1, w1, σ1, hm1, hf⟩ := bL_ok hf
  refine G_callL (q := 1237) (n := 3) (As := [.ref (eB E + 0), .int (xs (x4 + (1 : Int32)).toNatClampNeg), .ref (eB E + 605)]) (st := []) hC hN dL_law_1234 rfl (m_L_at hflag hm1) (wall (by decide +kernel) rfl) (wall (by decide +kernel) rfl) (wall (by decide +kernel) rfl) (wall (by decide +kernel) rfl) rfl ⟨by decide +kernel, by decide +kernel, by decide +kernel⟩ ⟨Nat.le_of_ble_eq_true rfl, Nat.le_of_ble_eq_true rfl⟩ (Nat.le_of_ble_eq_true rfl) ⟨Nat.le_trans (Nat.add_le_add_left (Nat.le_of_ble_eq_true rfl) _) hce, Nat.le_trans (Nat.add_le_add_left (Nat.le_of_ble_eq_true rfl) _) hsl⟩ ?_
  refine G_widen (k := ce + 4) (n := sl + 24) (Nat.add_le_add_left (Nat.le_of_ble_eq_true rfl) _) (Nat.add_le_add_left (Nat.le_of_ble_eq_true rfl) _) ?_
  refine G_istore (q := 1239) (lv' := [(5, .int v1), (0, .ref b), (1, .ref (eB E + 0)), (2, .ref (eB E + 583)), (3, .ref (eB E + 605)), (4, .int x4)]) hC dL_law_1237 rfl (by decide) rfl ?_
  refine G_aload_n (q := 1240) hC dL_law_1239 rfl rfl ?_
  refine G_aload_n (q := 1241) hC dL_law_1240 rfl rfl ?_
  refine G_iload (q := 1243) hC dL_law_1241 rfl rfl ?_
  refine G_iconst (q := 1244) hC dL_law_1243 rfl ic_1 ?_
  refine G_iadd (q := 1245) hC dL_law_1244 rfl ?_
  obtain ⟨g2, hf⟩ := gd_ok hf
  refine G_sld (q := 1246) hC dL_law_1245 rfl hB g2 ?_
  obtain ⟨v2, σ2, hm2, hf⟩ := bd_ok hf
  refine cl_RL_157 (q := 1249) hC dL_law_1246 rfl (m_X7_at hm2) ⟨Nat.le_of_ble_eq_true rfl, Nat.le_of_ble_eq_true rfl⟩ (Nat.le_of_ble_eq_true rfl) ⟨hce, hsl⟩ ?_
  refine G_istore (q := 1251) (lv' := [(6, .int v2), (5, .int v1), (0, .ref b), (1, .ref (eB E + 0)), (2, .ref (eB E + 583)), (3, .ref (eB E + 605)), (4, .int x4)]) hC dL_law_1249 rfl (by decide) rfl ?_
  refine G_aload_n (q := 1252) hC dL_law_1251 rfl rfl ?_
  obtain ⟨v3, σ3, hm3, hf⟩ := bd_ok hf
  refine cl_RL_93 (q := 1255) hC dL_law_1252 rfl (m_X7_thrown hm3) ⟨Nat.le_of_ble_eq_true rfl, Nat.le_of_ble_eq_true rfl⟩ (Nat.le_of_ble_eq_true rfl) ⟨hce, hsl⟩ ?_
  refine G_iload (q := 1257) hC dL_law_1255 rfl rfl ?_
  refine G_icmp_eq (tgt := 1262) (q := 1260) hC dL_law_1257 (by decide) rfl (fun c4 => ?_) (fun c4 => ?_)
  · have hf := (if_pos c4).symm.trans hf
    refine G_iload (q := 1264) hC dL_law_1262 rfl rfl ?_
    refine G_if_ne (tgt := 1279) (q := 1267) hC dL_law_1264 (by decide) rfl (fun c5 => ?_) (fun c5 => ?_)
    · have hf := (if_neg c5).symm.trans hf
      refine G_lv (lv' := [(0, .ref b), (1, .ref (eB E + 0)), (2, .ref (eB E + 583)), (3, .ref (eB E + 605)), (4, .int x4)]) [2, 3, 4, 5, 6] rfl ?_
      exact t_L_law_b1279 hC hN hB hB2 hflag hce hsl hk23 hf
    · have hf := (if_pos c5).symm.trans hf
      refine G_aload_n (q := 1268) hC dL_law_1267 rfl rfl ?_
      refine G_iconst (q := 1269) hC dL_law_1268 rfl ic_0 ?_
      refine G_lald (q := 1270) hC dL_law_1269 rfl ?_
      refine G_iload (q := 1272) hC dL_law_1270 rfl rfl ?_
      refine G_i2l (q := 1273) hC dL_law_1272 rfl ?_
      refine G_lcmp (q := 1274) hC dL_law_1273 rfl ?_
      refine G_if_eq (tgt := 1279) (q := 1277) hC dL_law_1274 (by decide) rfl (fun c6 => ?_) (fun c6 => ?_)
      · have hf := (if_pos c6).symm.trans hf
        refine G_lv (lv' := [(0, .ref b), (1, .ref (eB E + 0)), (2, .ref (eB E + 583)), (3, .ref (eB E + 605)), (4, .int x4)]) [2, 3, 4, 5, 6] rfl ?_
        exact t_L_law_b1279 hC hN hB hB2 hflag hce hsl hk23 hf
      · have hf := (if_neg c6).symm.trans hf
        refine G_iconst (q := 1278) hC dL_law_1277 rfl ic_0 ?_
        exact absurd hf (by decide)
  · have hf := (if_neg c4).symm.trans hf
    refine G_iconst (q := 1261) hC dL_law_1260 rfl ic_0 ?_
    exact absurd hf (by decide)

def f_L_law_b1347 (fu : Nat) (xs : Nat → Int32) (L : Nat) (k23 : (Nat → Int64) → gSt → Int32 → Option Int32) (w : Nat → Int64) (σ : gSt) (x4 : Int32) : Option Int32 :=
  f_L_law_b1598 fu xs L k23 w σ x4
set_option maxRecDepth 100000 in
theorem t_L_law_b1347 {fu b L : Nat} {xs : Nat → Int32} {k23 : (Nat → Int64) → gSt → Int32 → Option Int32} (hC : gCx p s m #[Value.ref b] meth c cL_law 7 RL (some .boolean) E) (hN : gN s) (hB : gS s E b L xs) (hB2 : s.heap.size ≤ eB E) (hflag : l.stackTraces = false) {ce sl : Nat} (hce : ce + 4 ≤ room_1.cells) (hsl : sl + 24 ≤ room_1.slots) (hk23 : ∀ (w : Nat → Int64) (σ : gSt) (x4 : Int32), k23 w σ x4 = some 1 → G p l e room_1 s m #[Value.ref b] below meth c 7 (ce + 4) (sl + 24) (lw_Z below #[Value.ref b] s) E w σ 23 [(0, .ref b), (1, .ref (eB E + 0)), (2, .ref (eB E + 583)), (3, .ref (eB E + 605)), (4, .int x4)] []) {w : Nat → Int64} {σ : gSt} {x4 : Int32} (hf : f_L_law_b1347 fu xs L k23 w σ x4 = some 1) : G p l e room_1 s m #[Value.ref b] below meth c 7 (ce + 4) (sl + 24) (lw_Z below #[Value.ref b] s) E w σ 1347 [(0, .ref b), (1, .ref (eB E + 0)), (2, .ref (eB E + 583)), (3, .ref (eB E + 605)), (4, .int x4)] [] := by
  unfold f_L_law_b1347 at hf
  refine G_goto (tgt := 1598) hC dL_law_1347 (by decide) ?_
  exact t_L_law_b1598 hC hN hB hB2 hflag hce hsl hk23 hf

def f_L_law_b1282 (fu : Nat) (xs : Nat → Int32) (L : Nat) (k23 : (Nat → Int64) → gSt → Int32 → Option Int32) (w : Nat → Int64) (σ : gSt) (x4 : Int32) : Option Int32 :=
  gd (inb (x4 + (1 : Int32)) L) (gd (inb (x4 + (2 : Int32)) L) (bL (f_L_about fu w σ (xs (x4 + (1 : Int32)).toNatClampNeg) (xs (x4 + (2 : Int32)).toNatClampNeg)) (fun v1 w1 σ1 => gd (inb (x4 + (1 : Int32)) L) (gd (inb (x4 + (2 : Int32)) L) (bd (f_X7_about fu σ1 (xs (x4 + (1 : Int32)).toNatClampNeg) (xs (x4 + (2 : Int32)).toNatClampNeg)) (fun v2 σ2 => bd (f_X7_thrown fu σ2 ) (fun v3 σ3 => if v3 = v1 then (if v1 = 0 then (if (lg_cmp (w1 0) ((v2).toInt64)) = 0 then (f_L_law_b1347 fu xs L k23 w1 σ3 x4) else (some 0)) else (f_L_law_b1347 fu xs L k23 w1 σ3 x4)) else (some 0))))))))
set_option maxRecDepth 100000 in
theorem t_L_law_b1282 {fu b L : Nat} {xs : Nat → Int32} {k23 : (Nat → Int64) → gSt → Int32 → Option Int32} (hC : gCx p s m #[Value.ref b] meth c cL_law 7 RL (some .boolean) E) (hN : gN s) (hB : gS s E b L xs) (hB2 : s.heap.size ≤ eB E) (hflag : l.stackTraces = false) {ce sl : Nat} (hce : ce + 4 ≤ room_1.cells) (hsl : sl + 24 ≤ room_1.slots) (hk23 : ∀ (w : Nat → Int64) (σ : gSt) (x4 : Int32), k23 w σ x4 = some 1 → G p l e room_1 s m #[Value.ref b] below meth c 7 (ce + 4) (sl + 24) (lw_Z below #[Value.ref b] s) E w σ 23 [(0, .ref b), (1, .ref (eB E + 0)), (2, .ref (eB E + 583)), (3, .ref (eB E + 605)), (4, .int x4)] []) {w : Nat → Int64} {σ : gSt} {x4 : Int32} (hf : f_L_law_b1282 fu xs L k23 w σ x4 = some 1) : G p l e room_1 s m #[Value.ref b] below meth c 7 ce sl (lw_Z below #[Value.ref b] s) E w σ 1282 [(0, .ref b), (1, .ref (eB E + 0)), (2, .ref (eB E + 583)), (3, .ref (eB E + 605)), (4, .int x4)] [] := by
  unfold f_L_law_b1282 at hf
  refine G_aload_n (q := 1283) hC dL_law_1282 rfl rfl ?_
  refine G_aload_n (q := 1284) hC dL_law_1283 rfl rfl ?_
  refine G_iload (q := 1286) hC dL_law_1284 rfl rfl ?_
  refine G_iconst (q := 1287) hC dL_law_1286 rfl ic_1 ?_
  refine G_iadd (q := 1288) hC dL_law_1287 rfl ?_
  obtain ⟨g1, hf⟩ := gd_ok hf
  refine G_sld (q := 1289) hC dL_law_1288 rfl hB g1 ?_
  refine G_aload_n (q := 1290) hC dL_law_1289 rfl rfl ?_
  refine G_iload (q := 1292) hC dL_law_1290 rfl rfl ?_
  refine G_iconst (q := 1293) hC dL_law_1292 rfl ic_2 ?_
  refine G_iadd (q := 1294) hC dL_law_1293 rfl ?_
  obtain ⟨g2, hf⟩ := gd_ok hf
  refine G_sld (q := 1295) hC dL_law_1294 rfl hB g2 ?_
  refine G_aload_n (q := 1296) hC dL_law_1295 rfl rfl ?_
  obtain ⟨v1, w1, σ1, hm1, hf⟩ := bL_ok hf
  refine G_callL (q := 1299) (n := 4) (As := [.ref (eB E + 0), .int (xs (x4 + (1 : Int32)).toNatClampNeg), .int (xs (x4 + (2 : Int32)).toNatClampNeg), .ref (eB E + 605)]) (st := []) hC hN dL_law_1296 rfl (m_L_about hflag hm1) (wall (by decide +kernel) rfl) (wall (by decide +kernel) rfl) (wall (by decide +kernel) rfl) (wall (by decide +kernel) rfl) rfl ⟨by decide +kernel, by decide +kernel, by decide +kernel⟩ ⟨Nat.le_of_ble_eq_true rfl, Nat.le_of_ble_eq_true rfl⟩ (Nat.le_of_ble_eq_true rfl) ⟨Nat.le_trans (Nat.add_le_add_left (Nat.le_of_ble_eq_true rfl) _) hce, Nat.le_trans (Nat.add_le_add_left (Nat.le_of_ble_eq_true rfl) _) hsl⟩ ?_
  refine G_widen (k := ce + 4) (n := sl + 24) (Nat.add_le_add_left (Nat.le_of_ble_eq_true rfl) _) (Nat.add_le_add_left (Nat.le_of_ble_eq_true rfl) _) ?_
  refine G_istore (q := 1301) (lv' := [(5, .int v1), (0, .ref b), (1, .ref (eB E + 0)), (2, .ref (eB E + 583)), (3, .ref (eB E + 605)), (4, .int x4)]) hC dL_law_1299 rfl (by decide) rfl ?_
  refine G_aload_n (q := 1302) hC dL_law_1301 rfl rfl ?_
  refine G_aload_n (q := 1303) hC dL_law_1302 rfl rfl ?_
  refine G_iload (q := 1305) hC dL_law_1303 rfl rfl ?_
  refine G_iconst (q := 1306) hC dL_law_1305 rfl ic_1 ?_
  refine G_iadd (q := 1307) hC dL_law_1306 rfl ?_
  obtain ⟨g3, hf⟩ := gd_ok hf
  refine G_sld (q := 1308) hC dL_law_1307 rfl hB g3 ?_
  refine G_aload_n (q := 1309) hC dL_law_1308 rfl rfl ?_
  refine G_iload (q := 1311) hC dL_law_1309 rfl rfl ?_
  refine G_iconst (q := 1312) hC dL_law_1311 rfl ic_2 ?_
  refine G_iadd (q := 1313) hC dL_law_1312 rfl ?_
  obtain ⟨g4, hf⟩ := gd_ok hf
  refine G_sld (q := 1314) hC dL_law_1313 rfl hB g4 ?_
  obtain ⟨v2, σ2, hm2, hf⟩ := bd_ok hf
  refine cl_RL_160 (q := 1317) hC dL_law_1314 rfl (m_X7_about hm2) ⟨Nat.le_of_ble_eq_true rfl, Nat.le_of_ble_eq_true rfl⟩ (Nat.le_of_ble_eq_true rfl) ⟨hce, hsl⟩ ?_
  refine G_istore (q := 1319) (lv' := [(6, .int v2), (5, .int v1), (0, .ref b), (1, .ref (eB E + 0)), (2, .ref (eB E + 583)), (3, .ref (eB E + 605)), (4, .int x4)]) hC dL_law_1317 rfl (by decide) rfl ?_
  refine G_aload_n (q := 1320) hC dL_law_1319 rfl rfl ?_
  obtain ⟨v3, σ3, hm3, hf⟩ := bd_ok hf
  refine cl_RL_93 (q := 1323) hC dL_law_1320 rfl (m_X7_thrown hm3) ⟨Nat.le_of_ble_eq_true rfl, Nat.le_of_ble_eq_true rfl⟩ (Nat.le_of_ble_eq_true rfl) ⟨hce, hsl⟩ ?_
  refine G_iload (q := 1325) hC dL_law_1323 rfl rfl ?_
  refine G_icmp_eq (tgt := 1330) (q := 1328) hC dL_law_1325 (by decide) rfl (fun c4 => ?_) (fun c4 => ?_)
  · have hf := (if_pos c4).symm.trans hf
    refine G_iload (q := 1332) hC dL_law_1330 rfl rfl ?_
    refine G_if_ne (tgt := 1347) (q := 1335) hC dL_law_1332 (by decide) rfl (fun c5 => ?_) (fun c5 => ?_)
    · have hf := (if_neg c5).symm.trans hf
      refine G_lv (lv' := [(0, .ref b), (1, .ref (eB E + 0)), (2, .ref (eB E + 583)), (3, .ref (eB E + 605)), (4, .int x4)]) [2, 3, 4, 5, 6] rfl ?_
      exact t_L_law_b1347 hC hN hB hB2 hflag hce hsl hk23 hf
    · have hf := (if_pos c5).symm.trans hf
      refine G_aload_n (q := 1336) hC dL_law_1335 rfl rfl ?_
      refine G_iconst (q := 1337) hC dL_law_1336 rfl ic_0 ?_
      refine G_lald (q := 1338) hC dL_law_1337 rfl ?_
      refine G_iload (q := 1340) hC dL_law_1338 rfl rfl ?_
      refine G_i2l (q := 1341) hC dL_law_1340 rfl ?_
      refine G_lcmp (q := 1342) hC dL_law_1341 rfl ?_
      refine G_if_eq (tgt := 1347) (q := 1345) hC dL_law_1342 (by decide) rfl (fun c6 => ?_) (fun c6 => ?_)
      · have hf := (if_pos c6).symm.trans hf
        refine G_lv (lv' := [(0, .ref b), (1, .ref (eB E + 0)), (2, .ref (eB E + 583)), (3, .ref (eB E + 605)), (4, .int x4)]) [2, 3, 4, 5, 6] rfl ?_
        exact t_L_law_b1347 hC hN hB hB2 hflag hce hsl hk23 hf
      · have hf := (if_neg c6).symm.trans hf
        refine G_iconst (q := 1346) hC dL_law_1345 rfl ic_0 ?_
        exact absurd hf (by decide)
  · have hf := (if_neg c4).symm.trans hf
    refine G_iconst (q := 1329) hC dL_law_1328 rfl ic_0 ?_
    exact absurd hf (by decide)

def f_L_law_b1350 (fu : Nat) (xs : Nat → Int32) (L : Nat) (k23 : (Nat → Int64) → gSt → Int32 → Option Int32) (w : Nat → Int64) (σ : gSt) (x4 : Int32) : Option Int32 :=
  bd (f_X6_struck fu σ ) (fun v1 σ1 => bd (f_X7_struck fu σ1 ) (fun v2 σ2 => if v1 = v2 then (f_L_law_b1598 fu xs L k23 w σ2 x4) else (some 0)))
set_option maxRecDepth 100000 in
theorem t_L_law_b1350 {fu b L : Nat} {xs : Nat → Int32} {k23 : (Nat → Int64) → gSt → Int32 → Option Int32} (hC : gCx p s m #[Value.ref b] meth c cL_law 7 RL (some .boolean) E) (hN : gN s) (hB : gS s E b L xs) (hB2 : s.heap.size ≤ eB E) (hflag : l.stackTraces = false) {ce sl : Nat} (hce : ce + 4 ≤ room_1.cells) (hsl : sl + 24 ≤ room_1.slots) (hk23 : ∀ (w : Nat → Int64) (σ : gSt) (x4 : Int32), k23 w σ x4 = some 1 → G p l e room_1 s m #[Value.ref b] below meth c 7 (ce + 4) (sl + 24) (lw_Z below #[Value.ref b] s) E w σ 23 [(0, .ref b), (1, .ref (eB E + 0)), (2, .ref (eB E + 583)), (3, .ref (eB E + 605)), (4, .int x4)] []) {w : Nat → Int64} {σ : gSt} {x4 : Int32} (hf : f_L_law_b1350 fu xs L k23 w σ x4 = some 1) : G p l e room_1 s m #[Value.ref b] below meth c 7 ce sl (lw_Z below #[Value.ref b] s) E w σ 1350 [(0, .ref b), (1, .ref (eB E + 0)), (2, .ref (eB E + 583)), (3, .ref (eB E + 605)), (4, .int x4)] [] := by
  unfold f_L_law_b1350 at hf
  refine G_aload_n (q := 1351) hC dL_law_1350 rfl rfl ?_
  obtain ⟨v1, σ1, hm1, hf⟩ := bd_ok hf
  refine cl_RL_161 (q := 1354) hC dL_law_1351 rfl (m_X6_struck hm1) ⟨Nat.le_of_ble_eq_true rfl, Nat.le_of_ble_eq_true rfl⟩ (Nat.le_of_ble_eq_true rfl) ⟨Nat.le_trans (Nat.le_add_right _ _) hce, Nat.le_trans (Nat.le_add_right _ _) hsl⟩ ?_
  refine G_aload_n (q := 1355) hC dL_law_1354 rfl rfl ?_
  obtain ⟨v2, σ2, hm2, hf⟩ := bd_ok hf
  refine cl_RL_164 (q := 1358) hC dL_law_1355 rfl (m_X7_struck hm2) ⟨Nat.le_of_ble_eq_true rfl, Nat.le_of_ble_eq_true rfl⟩ (Nat.le_of_ble_eq_true rfl) ⟨Nat.le_trans (Nat.le_add_right _ _) hce, Nat.le_trans (Nat.le_add_right _ _) hsl⟩ ?_
  refine G_icmp_eq (tgt := 1598) (q := 1361) hC dL_law_1358 (by decide) rfl (fun c3 => ?_) (fun c3 => ?_)
  · have hf := (if_pos c3).symm.trans hf
    refine G_widen (k := ce + 4) (n := sl + 24) (Nat.le_add_right _ _) (Nat.le_add_right _ _) ?_
    exact t_L_law_b1598 hC hN hB hB2 hflag hce hsl hk23 hf
  · have hf := (if_neg c3).symm.trans hf
    refine G_iconst (q := 1362) hC dL_law_1361 rfl ic_0 ?_
    exact absurd hf (by decide)

def f_L_law_b1416 (fu : Nat) (xs : Nat → Int32) (L : Nat) (k23 : (Nat → Int64) → gSt → Int32 → Option Int32) (w : Nat → Int64) (σ : gSt) (x4 : Int32) : Option Int32 :=
  f_L_law_b1598 fu xs L k23 w σ x4
set_option maxRecDepth 100000 in
theorem t_L_law_b1416 {fu b L : Nat} {xs : Nat → Int32} {k23 : (Nat → Int64) → gSt → Int32 → Option Int32} (hC : gCx p s m #[Value.ref b] meth c cL_law 7 RL (some .boolean) E) (hN : gN s) (hB : gS s E b L xs) (hB2 : s.heap.size ≤ eB E) (hflag : l.stackTraces = false) {ce sl : Nat} (hce : ce + 4 ≤ room_1.cells) (hsl : sl + 24 ≤ room_1.slots) (hk23 : ∀ (w : Nat → Int64) (σ : gSt) (x4 : Int32), k23 w σ x4 = some 1 → G p l e room_1 s m #[Value.ref b] below meth c 7 (ce + 4) (sl + 24) (lw_Z below #[Value.ref b] s) E w σ 23 [(0, .ref b), (1, .ref (eB E + 0)), (2, .ref (eB E + 583)), (3, .ref (eB E + 605)), (4, .int x4)] []) {w : Nat → Int64} {σ : gSt} {x4 : Int32} (hf : f_L_law_b1416 fu xs L k23 w σ x4 = some 1) : G p l e room_1 s m #[Value.ref b] below meth c 7 (ce + 4) (sl + 24) (lw_Z below #[Value.ref b] s) E w σ 1416 [(0, .ref b), (1, .ref (eB E + 0)), (2, .ref (eB E + 583)), (3, .ref (eB E + 605)), (4, .int x4)] [] := by
  unfold f_L_law_b1416 at hf
  refine G_goto (tgt := 1598) hC dL_law_1416 (by decide) ?_
  exact t_L_law_b1598 hC hN hB hB2 hflag hce hsl hk23 hf

def f_L_law_b1363 (fu : Nat) (xs : Nat → Int32) (L : Nat) (k23 : (Nat → Int64) → gSt → Int32 → Option Int32) (w : Nat → Int64) (σ : gSt) (x4 : Int32) : Option Int32 :=
  gd (inb (x4 + (1 : Int32)) L) (bL (f_L_errata fu w σ (xs (x4 + (1 : Int32)).toNatClampNeg)) (fun v1 w1 σ1 => gd (inb (x4 + (1 : Int32)) L) (bd (f_X7_errata fu σ1 (xs (x4 + (1 : Int32)).toNatClampNeg)) (fun v2 σ2 => bd (f_X7_thrown fu σ2 ) (fun v3 σ3 => if v3 = v1 then (if v1 = 0 then (if (lg_cmp (w1 0) ((v2).toInt64)) = 0 then (f_L_law_b1416 fu xs L k23 w1 σ3 x4) else (some 0)) else (f_L_law_b1416 fu xs L k23 w1 σ3 x4)) else (some 0))))))
set_option maxRecDepth 100000 in
theorem t_L_law_b1363 {fu b L : Nat} {xs : Nat → Int32} {k23 : (Nat → Int64) → gSt → Int32 → Option Int32} (hC : gCx p s m #[Value.ref b] meth c cL_law 7 RL (some .boolean) E) (hN : gN s) (hB : gS s E b L xs) (hB2 : s.heap.size ≤ eB E) (hflag : l.stackTraces = false) {ce sl : Nat} (hce : ce + 4 ≤ room_1.cells) (hsl : sl + 24 ≤ room_1.slots) (hk23 : ∀ (w : Nat → Int64) (σ : gSt) (x4 : Int32), k23 w σ x4 = some 1 → G p l e room_1 s m #[Value.ref b] below meth c 7 (ce + 4) (sl + 24) (lw_Z below #[Value.ref b] s) E w σ 23 [(0, .ref b), (1, .ref (eB E + 0)), (2, .ref (eB E + 583)), (3, .ref (eB E + 605)), (4, .int x4)] []) {w : Nat → Int64} {σ : gSt} {x4 : Int32} (hf : f_L_law_b1363 fu xs L k23 w σ x4 = some 1) : G p l e room_1 s m #[Value.ref b] below meth c 7 ce sl (lw_Z below #[Value.ref b] s) E w σ 1363 [(0, .ref b), (1, .ref (eB E + 0)), (2, .ref (eB E + 583)), (3, .ref (eB E + 605)), (4, .int x4)] [] := by
  unfold f_L_law_b1363 at hf
  refine G_aload_n (q := 1364) hC dL_law_1363 rfl rfl ?_
  refine G_aload_n (q := 1365) hC dL_law_1364 rfl rfl ?_
  refine G_iload (q := 1367) hC dL_law_1365 rfl rfl ?_
  refine G_iconst (q := 1368) hC dL_law_1367 rfl ic_1 ?_
  refine G_iadd (q := 1369) hC dL_law_1368 rfl ?_
  obtain ⟨g1, hf⟩ := gd_ok hf
  refine G_sld (q := 1370) hC dL_law_1369 rfl hB g1 ?_
  refine G_aload_n (q := 1371) hC dL_law_1370 rfl rfl ?_
  obtain ⟨v1, w1, σ1, hm1, hf⟩ := bL_ok hf
  refine G_callL (q := 1374) (n := 3) (As := [.ref (eB E + 0), .int (xs (x4 + (1 : Int32)).toNatClampNeg), .ref (eB E + 605)]) (st := []) hC hN dL_law_1371 rfl (m_L_errata hflag hm1) (wall (by decide +kernel) rfl) (wall (by decide +kernel) rfl) (wall (by decide +kernel) rfl) (wall (by decide +kernel) rfl) rfl ⟨by decide +kernel, by decide +kernel, by decide +kernel⟩ ⟨Nat.le_of_ble_eq_true rfl, Nat.le_of_ble_eq_true rfl⟩ (Nat.le_of_ble_eq_true rfl) ⟨Nat.le_trans (Nat.add_le_add_left (Nat.le_of_ble_eq_true rfl) _) hce, Nat.le_trans (Nat.add_le_add_left (Nat.le_of_ble_eq_true rfl) _) hsl⟩ ?_
  refine G_widen (k := ce + 4) (n := sl + 24) (Nat.add_le_add_left (Nat.le_of_ble_eq_true rfl) _) (Nat.add_le_add_left (Nat.le_of_ble_eq_true rfl) _) ?_
  refine G_istore (q := 1376) (lv' := [(5, .int v1), (0, .ref b), (1, .ref (eB E + 0)), (2, .ref (eB E + 583)), (3, .ref (eB E + 605)), (4, .int x4)]) hC dL_law_1374 rfl (by decide) rfl ?_
  refine G_aload_n (q := 1377) hC dL_law_1376 rfl rfl ?_
  refine G_aload_n (q := 1378) hC dL_law_1377 rfl rfl ?_
  refine G_iload (q := 1380) hC dL_law_1378 rfl rfl ?_
  refine G_iconst (q := 1381) hC dL_law_1380 rfl ic_1 ?_
  refine G_iadd (q := 1382) hC dL_law_1381 rfl ?_
  obtain ⟨g2, hf⟩ := gd_ok hf
  refine G_sld (q := 1383) hC dL_law_1382 rfl hB g2 ?_
  obtain ⟨v2, σ2, hm2, hf⟩ := bd_ok hf
  refine cl_RL_167 (q := 1386) hC dL_law_1383 rfl (m_X7_errata hm2) ⟨Nat.le_of_ble_eq_true rfl, Nat.le_of_ble_eq_true rfl⟩ (Nat.le_of_ble_eq_true rfl) ⟨hce, hsl⟩ ?_
  refine G_istore (q := 1388) (lv' := [(6, .int v2), (5, .int v1), (0, .ref b), (1, .ref (eB E + 0)), (2, .ref (eB E + 583)), (3, .ref (eB E + 605)), (4, .int x4)]) hC dL_law_1386 rfl (by decide) rfl ?_
  refine G_aload_n (q := 1389) hC dL_law_1388 rfl rfl ?_
  obtain ⟨v3, σ3, hm3, hf⟩ := bd_ok hf
  refine cl_RL_93 (q := 1392) hC dL_law_1389 rfl (m_X7_thrown hm3) ⟨Nat.le_of_ble_eq_true rfl, Nat.le_of_ble_eq_true rfl⟩ (Nat.le_of_ble_eq_true rfl) ⟨hce, hsl⟩ ?_
  refine G_iload (q := 1394) hC dL_law_1392 rfl rfl ?_
  refine G_icmp_eq (tgt := 1399) (q := 1397) hC dL_law_1394 (by decide) rfl (fun c4 => ?_) (fun c4 => ?_)
  · have hf := (if_pos c4).symm.trans hf
    refine G_iload (q := 1401) hC dL_law_1399 rfl rfl ?_
    refine G_if_ne (tgt := 1416) (q := 1404) hC dL_law_1401 (by decide) rfl (fun c5 => ?_) (fun c5 => ?_)
    · have hf := (if_neg c5).symm.trans hf
      refine G_lv (lv' := [(0, .ref b), (1, .ref (eB E + 0)), (2, .ref (eB E + 583)), (3, .ref (eB E + 605)), (4, .int x4)]) [2, 3, 4, 5, 6] rfl ?_
      exact t_L_law_b1416 hC hN hB hB2 hflag hce hsl hk23 hf
    · have hf := (if_pos c5).symm.trans hf
      refine G_aload_n (q := 1405) hC dL_law_1404 rfl rfl ?_
      refine G_iconst (q := 1406) hC dL_law_1405 rfl ic_0 ?_
      refine G_lald (q := 1407) hC dL_law_1406 rfl ?_
      refine G_iload (q := 1409) hC dL_law_1407 rfl rfl ?_
      refine G_i2l (q := 1410) hC dL_law_1409 rfl ?_
      refine G_lcmp (q := 1411) hC dL_law_1410 rfl ?_
      refine G_if_eq (tgt := 1416) (q := 1414) hC dL_law_1411 (by decide) rfl (fun c6 => ?_) (fun c6 => ?_)
      · have hf := (if_pos c6).symm.trans hf
        refine G_lv (lv' := [(0, .ref b), (1, .ref (eB E + 0)), (2, .ref (eB E + 583)), (3, .ref (eB E + 605)), (4, .int x4)]) [2, 3, 4, 5, 6] rfl ?_
        exact t_L_law_b1416 hC hN hB hB2 hflag hce hsl hk23 hf
      · have hf := (if_neg c6).symm.trans hf
        refine G_iconst (q := 1415) hC dL_law_1414 rfl ic_0 ?_
        exact absurd hf (by decide)
  · have hf := (if_neg c4).symm.trans hf
    refine G_iconst (q := 1398) hC dL_law_1397 rfl ic_0 ?_
    exact absurd hf (by decide)

def f_L_law_b1452 (fu : Nat) (xs : Nat → Int32) (L : Nat) (k23 : (Nat → Int64) → gSt → Int32 → Option Int32) (w : Nat → Int64) (σ : gSt) (x4 : Int32) (xs0 : Int32) (xs2 : Int32) : Option Int32 :=
  bd (f_X7_open fu σ xs2) (fun v1 σ1 => if xs0 = v1 then (f_L_law_b1598 fu xs L k23 w σ1 x4) else (some 0))
set_option maxRecDepth 100000 in
theorem t_L_law_b1452 {fu b L : Nat} {xs : Nat → Int32} {k23 : (Nat → Int64) → gSt → Int32 → Option Int32} (hC : gCx p s m #[Value.ref b] meth c cL_law 7 RL (some .boolean) E) (hN : gN s) (hB : gS s E b L xs) (hB2 : s.heap.size ≤ eB E) (hflag : l.stackTraces = false) {ce sl : Nat} (hce : ce + 4 ≤ room_1.cells) (hsl : sl + 24 ≤ room_1.slots) (hk23 : ∀ (w : Nat → Int64) (σ : gSt) (x4 : Int32), k23 w σ x4 = some 1 → G p l e room_1 s m #[Value.ref b] below meth c 7 (ce + 4) (sl + 24) (lw_Z below #[Value.ref b] s) E w σ 23 [(0, .ref b), (1, .ref (eB E + 0)), (2, .ref (eB E + 583)), (3, .ref (eB E + 605)), (4, .int x4)] []) {w : Nat → Int64} {σ : gSt} {x4 : Int32} {xs0 : Int32} {xs2 : Int32} (hf : f_L_law_b1452 fu xs L k23 w σ x4 xs0 xs2 = some 1) : G p l e room_1 s m #[Value.ref b] below meth c 7 ce sl (lw_Z below #[Value.ref b] s) E w σ 1452 [(0, .ref b), (1, .ref (eB E + 0)), (2, .ref (eB E + 583)), (3, .ref (eB E + 605)), (4, .int x4)] [.int xs2, .ref (eB E + 583), .int xs0] := by
  unfold f_L_law_b1452 at hf
  obtain ⟨v1, σ1, hm1, hf⟩ := bd_ok hf
  refine cl_RL_172 (q := 1455) hC dL_law_1452 rfl (m_X7_open hm1) ⟨Nat.le_of_ble_eq_true rfl, Nat.le_of_ble_eq_true rfl⟩ (Nat.le_of_ble_eq_true rfl) ⟨Nat.le_trans (Nat.le_add_right _ _) hce, Nat.le_trans (Nat.le_add_right _ _) hsl⟩ ?_
  refine G_icmp_eq (tgt := 1598) (q := 1458) hC dL_law_1455 (by decide) rfl (fun c2 => ?_) (fun c2 => ?_)
  · have hf := (if_pos c2).symm.trans hf
    refine G_widen (k := ce + 4) (n := sl + 24) (Nat.le_add_right _ _) (Nat.le_add_right _ _) ?_
    exact t_L_law_b1598 hC hN hB hB2 hflag hce hsl hk23 hf
  · have hf := (if_neg c2).symm.trans hf
    refine G_iconst (q := 1459) hC dL_law_1458 rfl ic_0 ?_
    exact absurd hf (by decide)

def f_L_law_b1434 (fu : Nat) (xs : Nat → Int32) (L : Nat) (k23 : (Nat → Int64) → gSt → Int32 → Option Int32) (w : Nat → Int64) (σ : gSt) (x4 : Int32) (xs1 : Int32) : Option Int32 :=
  bd (f_X6_open fu σ xs1) (fun v1 σ1 => gd (inb (x4 + (1 : Int32)) L) (if (xs (x4 + (1 : Int32)).toNatClampNeg) = 0 then (f_L_law_b1452 fu xs L k23 w σ1 x4 v1 (0 : Int32)) else (f_L_law_b1452 fu xs L k23 w σ1 x4 v1 (1 : Int32))))
set_option maxRecDepth 100000 in
theorem t_L_law_b1434 {fu b L : Nat} {xs : Nat → Int32} {k23 : (Nat → Int64) → gSt → Int32 → Option Int32} (hC : gCx p s m #[Value.ref b] meth c cL_law 7 RL (some .boolean) E) (hN : gN s) (hB : gS s E b L xs) (hB2 : s.heap.size ≤ eB E) (hflag : l.stackTraces = false) {ce sl : Nat} (hce : ce + 4 ≤ room_1.cells) (hsl : sl + 24 ≤ room_1.slots) (hk23 : ∀ (w : Nat → Int64) (σ : gSt) (x4 : Int32), k23 w σ x4 = some 1 → G p l e room_1 s m #[Value.ref b] below meth c 7 (ce + 4) (sl + 24) (lw_Z below #[Value.ref b] s) E w σ 23 [(0, .ref b), (1, .ref (eB E + 0)), (2, .ref (eB E + 583)), (3, .ref (eB E + 605)), (4, .int x4)] []) {w : Nat → Int64} {σ : gSt} {x4 : Int32} {xs1 : Int32} (hf : f_L_law_b1434 fu xs L k23 w σ x4 xs1 = some 1) : G p l e room_1 s m #[Value.ref b] below meth c 7 ce sl (lw_Z below #[Value.ref b] s) E w σ 1434 [(0, .ref b), (1, .ref (eB E + 0)), (2, .ref (eB E + 583)), (3, .ref (eB E + 605)), (4, .int x4)] [.int xs1, .ref (eB E + 0)] := by
  unfold f_L_law_b1434 at hf
  obtain ⟨v1, σ1, hm1, hf⟩ := bd_ok hf
  refine cl_RL_168 (q := 1437) hC dL_law_1434 rfl (m_X6_open hm1) ⟨Nat.le_of_ble_eq_true rfl, Nat.le_of_ble_eq_true rfl⟩ (Nat.le_of_ble_eq_true rfl) ⟨Nat.le_trans (Nat.le_add_right _ _) hce, Nat.le_trans (Nat.le_add_right _ _) hsl⟩ ?_
  refine G_aload_n (q := 1438) hC dL_law_1437 rfl rfl ?_
  refine G_aload_n (q := 1439) hC dL_law_1438 rfl rfl ?_
  refine G_iload (q := 1441) hC dL_law_1439 rfl rfl ?_
  refine G_iconst (q := 1442) hC dL_law_1441 rfl ic_1 ?_
  refine G_iadd (q := 1443) hC dL_law_1442 rfl ?_
  obtain ⟨g1, hf⟩ := gd_ok hf
  refine G_sld (q := 1444) hC dL_law_1443 rfl hB g1 ?_
  refine G_if_eq (tgt := 1451) (q := 1447) hC dL_law_1444 (by decide) rfl (fun c2 => ?_) (fun c2 => ?_)
  · have hf := (if_pos c2).symm.trans hf
    refine G_iconst (q := 1452) hC dL_law_1451 rfl ic_0 ?_
    exact t_L_law_b1452 hC hN hB hB2 hflag hce hsl hk23 hf
  · have hf := (if_neg c2).symm.trans hf
    refine G_iconst (q := 1448) hC dL_law_1447 rfl ic_1 ?_
    refine G_goto (tgt := 1452) hC dL_law_1448 (by decide) ?_
    exact t_L_law_b1452 hC hN hB hB2 hflag hce hsl hk23 hf

def f_L_law_b1419 (fu : Nat) (xs : Nat → Int32) (L : Nat) (k23 : (Nat → Int64) → gSt → Int32 → Option Int32) (w : Nat → Int64) (σ : gSt) (x4 : Int32) : Option Int32 :=
  gd (inb (x4 + (1 : Int32)) L) (if (xs (x4 + (1 : Int32)).toNatClampNeg) = 0 then (f_L_law_b1434 fu xs L k23 w σ x4 (0 : Int32)) else (f_L_law_b1434 fu xs L k23 w σ x4 (1 : Int32)))
set_option maxRecDepth 100000 in
theorem t_L_law_b1419 {fu b L : Nat} {xs : Nat → Int32} {k23 : (Nat → Int64) → gSt → Int32 → Option Int32} (hC : gCx p s m #[Value.ref b] meth c cL_law 7 RL (some .boolean) E) (hN : gN s) (hB : gS s E b L xs) (hB2 : s.heap.size ≤ eB E) (hflag : l.stackTraces = false) {ce sl : Nat} (hce : ce + 4 ≤ room_1.cells) (hsl : sl + 24 ≤ room_1.slots) (hk23 : ∀ (w : Nat → Int64) (σ : gSt) (x4 : Int32), k23 w σ x4 = some 1 → G p l e room_1 s m #[Value.ref b] below meth c 7 (ce + 4) (sl + 24) (lw_Z below #[Value.ref b] s) E w σ 23 [(0, .ref b), (1, .ref (eB E + 0)), (2, .ref (eB E + 583)), (3, .ref (eB E + 605)), (4, .int x4)] []) {w : Nat → Int64} {σ : gSt} {x4 : Int32} (hf : f_L_law_b1419 fu xs L k23 w σ x4 = some 1) : G p l e room_1 s m #[Value.ref b] below meth c 7 ce sl (lw_Z below #[Value.ref b] s) E w σ 1419 [(0, .ref b), (1, .ref (eB E + 0)), (2, .ref (eB E + 583)), (3, .ref (eB E + 605)), (4, .int x4)] [] := by
  unfold f_L_law_b1419 at hf
  refine G_aload_n (q := 1420) hC dL_law_1419 rfl rfl ?_
  refine G_aload_n (q := 1421) hC dL_law_1420 rfl rfl ?_
  refine G_iload (q := 1423) hC dL_law_1421 rfl rfl ?_
  refine G_iconst (q := 1424) hC dL_law_1423 rfl ic_1 ?_
  refine G_iadd (q := 1425) hC dL_law_1424 rfl ?_
  obtain ⟨g1, hf⟩ := gd_ok hf
  refine G_sld (q := 1426) hC dL_law_1425 rfl hB g1 ?_
  refine G_if_eq (tgt := 1433) (q := 1429) hC dL_law_1426 (by decide) rfl (fun c1 => ?_) (fun c1 => ?_)
  · have hf := (if_pos c1).symm.trans hf
    refine G_iconst (q := 1434) hC dL_law_1433 rfl ic_0 ?_
    exact t_L_law_b1434 hC hN hB hB2 hflag hce hsl hk23 hf
  · have hf := (if_neg c1).symm.trans hf
    refine G_iconst (q := 1430) hC dL_law_1429 rfl ic_1 ?_
    refine G_goto (tgt := 1434) hC dL_law_1430 (by decide) ?_
    exact t_L_law_b1434 hC hN hB hB2 hflag hce hsl hk23 hf

def f_L_law_b1493 (fu : Nat) (xs : Nat → Int32) (L : Nat) (k23 : (Nat → Int64) → gSt → Int32 → Option Int32) (w : Nat → Int64) (σ : gSt) (x4 : Int32) (xs0 : Int32) (xs2 : Int32) : Option Int32 :=
  bd (f_X7_contradictions fu σ xs2) (fun v1 σ1 => if xs0 = v1 then (f_L_law_b1598 fu xs L k23 w σ1 x4) else (some 0))
set_option maxRecDepth 100000 in
theorem t_L_law_b1493 {fu b L : Nat} {xs : Nat → Int32} {k23 : (Nat → Int64) → gSt → Int32 → Option Int32} (hC : gCx p s m #[Value.ref b] meth c cL_law 7 RL (some .boolean) E) (hN : gN s) (hB : gS s E b L xs) (hB2 : s.heap.size ≤ eB E) (hflag : l.stackTraces = false) {ce sl : Nat} (hce : ce + 4 ≤ room_1.cells) (hsl : sl + 24 ≤ room_1.slots) (hk23 : ∀ (w : Nat → Int64) (σ : gSt) (x4 : Int32), k23 w σ x4 = some 1 → G p l e room_1 s m #[Value.ref b] below meth c 7 (ce + 4) (sl + 24) (lw_Z below #[Value.ref b] s) E w σ 23 [(0, .ref b), (1, .ref (eB E + 0)), (2, .ref (eB E + 583)), (3, .ref (eB E + 605)), (4, .int x4)] []) {w : Nat → Int64} {σ : gSt} {x4 : Int32} {xs0 : Int32} {xs2 : Int32} (hf : f_L_law_b1493 fu xs L k23 w σ x4 xs0 xs2 = some 1) : G p l e room_1 s m #[Value.ref b] below meth c 7 ce sl (lw_Z below #[Value.ref b] s) E w σ 1493 [(0, .ref b), (1, .ref (eB E + 0)), (2, .ref (eB E + 583)), (3, .ref (eB E + 605)), (4, .int x4)] [.int xs2, .ref (eB E + 583), .int xs0] := by
  unfold f_L_law_b1493 at hf
  obtain ⟨v1, σ1, hm1, hf⟩ := bd_ok hf
  refine cl_RL_176 (q := 1496) hC dL_law_1493 rfl (m_X7_contradictions hm1) ⟨Nat.le_of_ble_eq_true rfl, Nat.le_of_ble_eq_true rfl⟩ (Nat.le_of_ble_eq_true rfl) ⟨Nat.le_trans (Nat.le_add_right _ _) hce, Nat.le_trans (Nat.le_add_right _ _) hsl⟩ ?_
  refine G_icmp_eq (tgt := 1598) (q := 1499) hC dL_law_1496 (by decide) rfl (fun c2 => ?_) (fun c2 => ?_)
  · have hf := (if_pos c2).symm.trans hf
    refine G_widen (k := ce + 4) (n := sl + 24) (Nat.le_add_right _ _) (Nat.le_add_right _ _) ?_
    exact t_L_law_b1598 hC hN hB hB2 hflag hce hsl hk23 hf
  · have hf := (if_neg c2).symm.trans hf
    refine G_iconst (q := 1500) hC dL_law_1499 rfl ic_0 ?_
    exact absurd hf (by decide)

def f_L_law_b1475 (fu : Nat) (xs : Nat → Int32) (L : Nat) (k23 : (Nat → Int64) → gSt → Int32 → Option Int32) (w : Nat → Int64) (σ : gSt) (x4 : Int32) (xs1 : Int32) : Option Int32 :=
  bd (f_X6_contradictions fu σ xs1) (fun v1 σ1 => gd (inb (x4 + (1 : Int32)) L) (if (xs (x4 + (1 : Int32)).toNatClampNeg) = 0 then (f_L_law_b1493 fu xs L k23 w σ1 x4 v1 (0 : Int32)) else (f_L_law_b1493 fu xs L k23 w σ1 x4 v1 (1 : Int32))))
set_option maxRecDepth 100000 in
theorem t_L_law_b1475 {fu b L : Nat} {xs : Nat → Int32} {k23 : (Nat → Int64) → gSt → Int32 → Option Int32} (hC : gCx p s m #[Value.ref b] meth c cL_law 7 RL (some .boolean) E) (hN : gN s) (hB : gS s E b L xs) (hB2 : s.heap.size ≤ eB E) (hflag : l.stackTraces = false) {ce sl : Nat} (hce : ce + 4 ≤ room_1.cells) (hsl : sl + 24 ≤ room_1.slots) (hk23 : ∀ (w : Nat → Int64) (σ : gSt) (x4 : Int32), k23 w σ x4 = some 1 → G p l e room_1 s m #[Value.ref b] below meth c 7 (ce + 4) (sl + 24) (lw_Z below #[Value.ref b] s) E w σ 23 [(0, .ref b), (1, .ref (eB E + 0)), (2, .ref (eB E + 583)), (3, .ref (eB E + 605)), (4, .int x4)] []) {w : Nat → Int64} {σ : gSt} {x4 : Int32} {xs1 : Int32} (hf : f_L_law_b1475 fu xs L k23 w σ x4 xs1 = some 1) : G p l e room_1 s m #[Value.ref b] below meth c 7 ce sl (lw_Z below #[Value.ref b] s) E w σ 1475 [(0, .ref b), (1, .ref (eB E + 0)), (2, .ref (eB E + 583)), (3, .ref (eB E + 605)), (4, .int x4)] [.int xs1, .ref (eB E + 0)] := by
  unfold f_L_law_b1475 at hf
  obtain ⟨v1, σ1, hm1, hf⟩ := bd_ok hf
  refine cl_RL_173 (q := 1478) hC dL_law_1475 rfl (m_X6_contradictions hm1) ⟨Nat.le_of_ble_eq_true rfl, Nat.le_of_ble_eq_true rfl⟩ (Nat.le_of_ble_eq_true rfl) ⟨Nat.le_trans (Nat.le_add_right _ _) hce, Nat.le_trans (Nat.le_add_right _ _) hsl⟩ ?_
  refine G_aload_n (q := 1479) hC dL_law_1478 rfl rfl ?_
  refine G_aload_n (q := 1480) hC dL_law_1479 rfl rfl ?_
  refine G_iload (q := 1482) hC dL_law_1480 rfl rfl ?_
  refine G_iconst (q := 1483) hC dL_law_1482 rfl ic_1 ?_
  refine G_iadd (q := 1484) hC dL_law_1483 rfl ?_
  obtain ⟨g1, hf⟩ := gd_ok hf
  refine G_sld (q := 1485) hC dL_law_1484 rfl hB g1 ?_
  refine G_if_eq (tgt := 1492) (q := 1488) hC dL_law_1485 (by decide) rfl (fun c2 => ?_) (fun c2 => ?_)
  · have hf := (if_pos c2).symm.trans hf
    refine G_iconst (q := 1493) hC dL_law_1492 rfl ic_0 ?_
    exact t_L_law_b1493 hC hN hB hB2 hflag hce hsl hk23 hf
  · have hf := (if_neg c2).symm.trans hf
    refine G_iconst (q := 1489) hC dL_law_1488 rfl ic_1 ?_
    refine G_goto (tgt := 1493) hC dL_law_1489 (by decide) ?_
    exact t_L_law_b1493 hC hN hB hB2 hflag hce hsl hk23 hf

def f_L_law_b1460 (fu : Nat) (xs : Nat → Int32) (L : Nat) (k23 : (Nat → Int64) → gSt → Int32 → Option Int32) (w : Nat → Int64) (σ : gSt) (x4 : Int32) : Option Int32 :=
  gd (inb (x4 + (1 : Int32)) L) (if (xs (x4 + (1 : Int32)).toNatClampNeg) = 0 then (f_L_law_b1475 fu xs L k23 w σ x4 (0 : Int32)) else (f_L_law_b1475 fu xs L k23 w σ x4 (1 : Int32)))
set_option maxRecDepth 100000 in
theorem t_L_law_b1460 {fu b L : Nat} {xs : Nat → Int32} {k23 : (Nat → Int64) → gSt → Int32 → Option Int32} (hC : gCx p s m #[Value.ref b] meth c cL_law 7 RL (some .boolean) E) (hN : gN s) (hB : gS s E b L xs) (hB2 : s.heap.size ≤ eB E) (hflag : l.stackTraces = false) {ce sl : Nat} (hce : ce + 4 ≤ room_1.cells) (hsl : sl + 24 ≤ room_1.slots) (hk23 : ∀ (w : Nat → Int64) (σ : gSt) (x4 : Int32), k23 w σ x4 = some 1 → G p l e room_1 s m #[Value.ref b] below meth c 7 (ce + 4) (sl + 24) (lw_Z below #[Value.ref b] s) E w σ 23 [(0, .ref b), (1, .ref (eB E + 0)), (2, .ref (eB E + 583)), (3, .ref (eB E + 605)), (4, .int x4)] []) {w : Nat → Int64} {σ : gSt} {x4 : Int32} (hf : f_L_law_b1460 fu xs L k23 w σ x4 = some 1) : G p l e room_1 s m #[Value.ref b] below meth c 7 ce sl (lw_Z below #[Value.ref b] s) E w σ 1460 [(0, .ref b), (1, .ref (eB E + 0)), (2, .ref (eB E + 583)), (3, .ref (eB E + 605)), (4, .int x4)] [] := by
  unfold f_L_law_b1460 at hf
  refine G_aload_n (q := 1461) hC dL_law_1460 rfl rfl ?_
  refine G_aload_n (q := 1462) hC dL_law_1461 rfl rfl ?_
  refine G_iload (q := 1464) hC dL_law_1462 rfl rfl ?_
  refine G_iconst (q := 1465) hC dL_law_1464 rfl ic_1 ?_
  refine G_iadd (q := 1466) hC dL_law_1465 rfl ?_
  obtain ⟨g1, hf⟩ := gd_ok hf
  refine G_sld (q := 1467) hC dL_law_1466 rfl hB g1 ?_
  refine G_if_eq (tgt := 1474) (q := 1470) hC dL_law_1467 (by decide) rfl (fun c1 => ?_) (fun c1 => ?_)
  · have hf := (if_pos c1).symm.trans hf
    refine G_iconst (q := 1475) hC dL_law_1474 rfl ic_0 ?_
    exact t_L_law_b1475 hC hN hB hB2 hflag hce hsl hk23 hf
  · have hf := (if_neg c1).symm.trans hf
    refine G_iconst (q := 1471) hC dL_law_1470 rfl ic_1 ?_
    refine G_goto (tgt := 1475) hC dL_law_1471 (by decide) ?_
    exact t_L_law_b1475 hC hN hB hB2 hflag hce hsl hk23 hf

def f_L_law_b1534 (fu : Nat) (xs : Nat → Int32) (L : Nat) (k23 : (Nat → Int64) → gSt → Int32 → Option Int32) (w : Nat → Int64) (σ : gSt) (x4 : Int32) (xs0 : Int32) (xs2 : Int32) : Option Int32 :=
  bd (f_X7_readAnew fu σ xs2) (fun v1 σ1 => if xs0 = v1 then (f_L_law_b1598 fu xs L k23 w σ1 x4) else (some 0))
set_option maxRecDepth 100000 in
theorem t_L_law_b1534 {fu b L : Nat} {xs : Nat → Int32} {k23 : (Nat → Int64) → gSt → Int32 → Option Int32} (hC : gCx p s m #[Value.ref b] meth c cL_law 7 RL (some .boolean) E) (hN : gN s) (hB : gS s E b L xs) (hB2 : s.heap.size ≤ eB E) (hflag : l.stackTraces = false) {ce sl : Nat} (hce : ce + 4 ≤ room_1.cells) (hsl : sl + 24 ≤ room_1.slots) (hk23 : ∀ (w : Nat → Int64) (σ : gSt) (x4 : Int32), k23 w σ x4 = some 1 → G p l e room_1 s m #[Value.ref b] below meth c 7 (ce + 4) (sl + 24) (lw_Z below #[Value.ref b] s) E w σ 23 [(0, .ref b), (1, .ref (eB E + 0)), (2, .ref (eB E + 583)), (3, .ref (eB E + 605)), (4, .int x4)] []) {w : Nat → Int64} {σ : gSt} {x4 : Int32} {xs0 : Int32} {xs2 : Int32} (hf : f_L_law_b1534 fu xs L k23 w σ x4 xs0 xs2 = some 1) : G p l e room_1 s m #[Value.ref b] below meth c 7 ce sl (lw_Z below #[Value.ref b] s) E w σ 1534 [(0, .ref b), (1, .ref (eB E + 0)), (2, .ref (eB E + 583)), (3, .ref (eB E + 605)), (4, .int x4)] [.int xs2, .ref (eB E + 583), .int xs0] := by
  unfold f_L_law_b1534 at hf
  obtain ⟨v1, σ1, hm1, hf⟩ := bd_ok hf
  refine cl_RL_180 (q := 1537) hC dL_law_1534 rfl (m_X7_readAnew hm1) ⟨Nat.le_of_ble_eq_true rfl, Nat.le_of_ble_eq_true rfl⟩ (Nat.le_of_ble_eq_true rfl) ⟨Nat.le_trans (Nat.le_add_right _ _) hce, Nat.le_trans (Nat.le_add_right _ _) hsl⟩ ?_
  refine G_icmp_eq (tgt := 1598) (q := 1540) hC dL_law_1537 (by decide) rfl (fun c2 => ?_) (fun c2 => ?_)
  · have hf := (if_pos c2).symm.trans hf
    refine G_widen (k := ce + 4) (n := sl + 24) (Nat.le_add_right _ _) (Nat.le_add_right _ _) ?_
    exact t_L_law_b1598 hC hN hB hB2 hflag hce hsl hk23 hf
  · have hf := (if_neg c2).symm.trans hf
    refine G_iconst (q := 1541) hC dL_law_1540 rfl ic_0 ?_
    exact absurd hf (by decide)

def f_L_law_b1516 (fu : Nat) (xs : Nat → Int32) (L : Nat) (k23 : (Nat → Int64) → gSt → Int32 → Option Int32) (w : Nat → Int64) (σ : gSt) (x4 : Int32) (xs1 : Int32) : Option Int32 :=
  bd (f_X6_readAnew fu σ xs1) (fun v1 σ1 => gd (inb (x4 + (1 : Int32)) L) (if (xs (x4 + (1 : Int32)).toNatClampNeg) = 0 then (f_L_law_b1534 fu xs L k23 w σ1 x4 v1 (0 : Int32)) else (f_L_law_b1534 fu xs L k23 w σ1 x4 v1 (1 : Int32))))
set_option maxRecDepth 100000 in
theorem t_L_law_b1516 {fu b L : Nat} {xs : Nat → Int32} {k23 : (Nat → Int64) → gSt → Int32 → Option Int32} (hC : gCx p s m #[Value.ref b] meth c cL_law 7 RL (some .boolean) E) (hN : gN s) (hB : gS s E b L xs) (hB2 : s.heap.size ≤ eB E) (hflag : l.stackTraces = false) {ce sl : Nat} (hce : ce + 4 ≤ room_1.cells) (hsl : sl + 24 ≤ room_1.slots) (hk23 : ∀ (w : Nat → Int64) (σ : gSt) (x4 : Int32), k23 w σ x4 = some 1 → G p l e room_1 s m #[Value.ref b] below meth c 7 (ce + 4) (sl + 24) (lw_Z below #[Value.ref b] s) E w σ 23 [(0, .ref b), (1, .ref (eB E + 0)), (2, .ref (eB E + 583)), (3, .ref (eB E + 605)), (4, .int x4)] []) {w : Nat → Int64} {σ : gSt} {x4 : Int32} {xs1 : Int32} (hf : f_L_law_b1516 fu xs L k23 w σ x4 xs1 = some 1) : G p l e room_1 s m #[Value.ref b] below meth c 7 ce sl (lw_Z below #[Value.ref b] s) E w σ 1516 [(0, .ref b), (1, .ref (eB E + 0)), (2, .ref (eB E + 583)), (3, .ref (eB E + 605)), (4, .int x4)] [.int xs1, .ref (eB E + 0)] := by
  unfold f_L_law_b1516 at hf
  obtain ⟨v1, σ1, hm1, hf⟩ := bd_ok hf
  refine cl_RL_177 (q := 1519) hC dL_law_1516 rfl (m_X6_readAnew hm1) ⟨Nat.le_of_ble_eq_true rfl, Nat.le_of_ble_eq_true rfl⟩ (Nat.le_of_ble_eq_true rfl) ⟨Nat.le_trans (Nat.le_add_right _ _) hce, Nat.le_trans (Nat.le_add_right _ _) hsl⟩ ?_
  refine G_aload_n (q := 1520) hC dL_law_1519 rfl rfl ?_
  refine G_aload_n (q := 1521) hC dL_law_1520 rfl rfl ?_
  refine G_iload (q := 1523) hC dL_law_1521 rfl rfl ?_
  refine G_iconst (q := 1524) hC dL_law_1523 rfl ic_1 ?_
  refine G_iadd (q := 1525) hC dL_law_1524 rfl ?_
  obtain ⟨g1, hf⟩ := gd_ok hf
  refine G_sld (q := 1526) hC dL_law_1525 rfl hB g1 ?_
  refine G_if_eq (tgt := 1533) (q := 1529) hC dL_law_1526 (by decide) rfl (fun c2 => ?_) (fun c2 => ?_)
  · have hf := (if_pos c2).symm.trans hf
    refine G_iconst (q := 1534) hC dL_law_1533 rfl ic_0 ?_
    exact t_L_law_b1534 hC hN hB hB2 hflag hce hsl hk23 hf
  · have hf := (if_neg c2).symm.trans hf
    refine G_iconst (q := 1530) hC dL_law_1529 rfl ic_1 ?_
    refine G_goto (tgt := 1534) hC dL_law_1530 (by decide) ?_
    exact t_L_law_b1534 hC hN hB hB2 hflag hce hsl hk23 hf

def f_L_law_b1501 (fu : Nat) (xs : Nat → Int32) (L : Nat) (k23 : (Nat → Int64) → gSt → Int32 → Option Int32) (w : Nat → Int64) (σ : gSt) (x4 : Int32) : Option Int32 :=
  gd (inb (x4 + (1 : Int32)) L) (if (xs (x4 + (1 : Int32)).toNatClampNeg) = 0 then (f_L_law_b1516 fu xs L k23 w σ x4 (0 : Int32)) else (f_L_law_b1516 fu xs L k23 w σ x4 (1 : Int32)))
set_option maxRecDepth 100000 in
theorem t_L_law_b1501 {fu b L : Nat} {xs : Nat → Int32} {k23 : (Nat → Int64) → gSt → Int32 → Option Int32} (hC : gCx p s m #[Value.ref b] meth c cL_law 7 RL (some .boolean) E) (hN : gN s) (hB : gS s E b L xs) (hB2 : s.heap.size ≤ eB E) (hflag : l.stackTraces = false) {ce sl : Nat} (hce : ce + 4 ≤ room_1.cells) (hsl : sl + 24 ≤ room_1.slots) (hk23 : ∀ (w : Nat → Int64) (σ : gSt) (x4 : Int32), k23 w σ x4 = some 1 → G p l e room_1 s m #[Value.ref b] below meth c 7 (ce + 4) (sl + 24) (lw_Z below #[Value.ref b] s) E w σ 23 [(0, .ref b), (1, .ref (eB E + 0)), (2, .ref (eB E + 583)), (3, .ref (eB E + 605)), (4, .int x4)] []) {w : Nat → Int64} {σ : gSt} {x4 : Int32} (hf : f_L_law_b1501 fu xs L k23 w σ x4 = some 1) : G p l e room_1 s m #[Value.ref b] below meth c 7 ce sl (lw_Z below #[Value.ref b] s) E w σ 1501 [(0, .ref b), (1, .ref (eB E + 0)), (2, .ref (eB E + 583)), (3, .ref (eB E + 605)), (4, .int x4)] [] := by
  unfold f_L_law_b1501 at hf
  refine G_aload_n (q := 1502) hC dL_law_1501 rfl rfl ?_
  refine G_aload_n (q := 1503) hC dL_law_1502 rfl rfl ?_
  refine G_iload (q := 1505) hC dL_law_1503 rfl rfl ?_
  refine G_iconst (q := 1506) hC dL_law_1505 rfl ic_1 ?_
  refine G_iadd (q := 1507) hC dL_law_1506 rfl ?_
  obtain ⟨g1, hf⟩ := gd_ok hf
  refine G_sld (q := 1508) hC dL_law_1507 rfl hB g1 ?_
  refine G_if_eq (tgt := 1515) (q := 1511) hC dL_law_1508 (by decide) rfl (fun c1 => ?_) (fun c1 => ?_)
  · have hf := (if_pos c1).symm.trans hf
    refine G_iconst (q := 1516) hC dL_law_1515 rfl ic_0 ?_
    exact t_L_law_b1516 hC hN hB hB2 hflag hce hsl hk23 hf
  · have hf := (if_neg c1).symm.trans hf
    refine G_iconst (q := 1512) hC dL_law_1511 rfl ic_1 ?_
    refine G_goto (tgt := 1516) hC dL_law_1512 (by decide) ?_
    exact t_L_law_b1516 hC hN hB hB2 hflag hce hsl hk23 hf

def f_L_law_b1595 (fu : Nat) (xs : Nat → Int32) (L : Nat) (k23 : (Nat → Int64) → gSt → Int32 → Option Int32) (w : Nat → Int64) (σ : gSt) (x4 : Int32) : Option Int32 :=
  f_L_law_b1598 fu xs L k23 w σ x4
set_option maxRecDepth 100000 in
theorem t_L_law_b1595 {fu b L : Nat} {xs : Nat → Int32} {k23 : (Nat → Int64) → gSt → Int32 → Option Int32} (hC : gCx p s m #[Value.ref b] meth c cL_law 7 RL (some .boolean) E) (hN : gN s) (hB : gS s E b L xs) (hB2 : s.heap.size ≤ eB E) (hflag : l.stackTraces = false) {ce sl : Nat} (hce : ce + 4 ≤ room_1.cells) (hsl : sl + 24 ≤ room_1.slots) (hk23 : ∀ (w : Nat → Int64) (σ : gSt) (x4 : Int32), k23 w σ x4 = some 1 → G p l e room_1 s m #[Value.ref b] below meth c 7 (ce + 4) (sl + 24) (lw_Z below #[Value.ref b] s) E w σ 23 [(0, .ref b), (1, .ref (eB E + 0)), (2, .ref (eB E + 583)), (3, .ref (eB E + 605)), (4, .int x4)] []) {w : Nat → Int64} {σ : gSt} {x4 : Int32} (hf : f_L_law_b1595 fu xs L k23 w σ x4 = some 1) : G p l e room_1 s m #[Value.ref b] below meth c 7 (ce + 4) (sl + 24) (lw_Z below #[Value.ref b] s) E w σ 1595 [(0, .ref b), (1, .ref (eB E + 0)), (2, .ref (eB E + 583)), (3, .ref (eB E + 605)), (4, .int x4)] [] := by
  unfold f_L_law_b1595 at hf
  refine G_goto (tgt := 1598) hC dL_law_1595 (by decide) ?_
  exact t_L_law_b1598 hC hN hB hB2 hflag hce hsl hk23 hf

def f_L_law_b1542 (fu : Nat) (xs : Nat → Int32) (L : Nat) (k23 : (Nat → Int64) → gSt → Int32 → Option Int32) (w : Nat → Int64) (σ : gSt) (x4 : Int32) : Option Int32 :=
  gd (inb (x4 + (1 : Int32)) L) (bL (f_L_synopsis fu w σ (xs (x4 + (1 : Int32)).toNatClampNeg)) (fun v1 w1 σ1 => gd (inb (x4 + (1 : Int32)) L) (bd (f_X7_synopsis fu σ1 (xs (x4 + (1 : Int32)).toNatClampNeg)) (fun v2 σ2 => bd (f_X7_thrown fu σ2 ) (fun v3 σ3 => if v3 = v1 then (if v1 = 0 then (if (lg_cmp (w1 0) ((v2).toInt64)) = 0 then (f_L_law_b1595 fu xs L k23 w1 σ3 x4) else (some 0)) else (f_L_law_b1595 fu xs L k23 w1 σ3 x4)) else (some 0))))))
set_option maxRecDepth 100000 in
theorem t_L_law_b1542 {fu b L : Nat} {xs : Nat → Int32} {k23 : (Nat → Int64) → gSt → Int32 → Option Int32} (hC : gCx p s m #[Value.ref b] meth c cL_law 7 RL (some .boolean) E) (hN : gN s) (hB : gS s E b L xs) (hB2 : s.heap.size ≤ eB E) (hflag : l.stackTraces = false) {ce sl : Nat} (hce : ce + 4 ≤ room_1.cells) (hsl : sl + 24 ≤ room_1.slots) (hk23 : ∀ (w : Nat → Int64) (σ : gSt) (x4 : Int32), k23 w σ x4 = some 1 → G p l e room_1 s m #[Value.ref b] below meth c 7 (ce + 4) (sl + 24) (lw_Z below #[Value.ref b] s) E w σ 23 [(0, .ref b), (1, .ref (eB E + 0)), (2, .ref (eB E + 583)), (3, .ref (eB E + 605)), (4, .int x4)] []) {w : Nat → Int64} {σ : gSt} {x4 : Int32} (hf : f_L_law_b1542 fu xs L k23 w σ x4 = some 1) : G p l e room_1 s m #[Value.ref b] below meth c 7 ce sl (lw_Z below #[Value.ref b] s) E w σ 1542 [(0, .ref b), (1, .ref (eB E + 0)), (2, .ref (eB E + 583)), (3, .ref (eB E + 605)), (4, .int x4)] [] := by
  unfold f_L_law_b1542 at hf
  refine G_aload_n (q := 1543) hC dL_law_1542 rfl rfl ?_
  refine G_aload_n (q := 1544) hC dL_law_1543 rfl rfl ?_
  refine G_iload (q := 1546) hC dL_law_1544 rfl rfl ?_
  refine G_iconst (q := 1547) hC dL_law_1546 rfl ic_1 ?_
  refine G_iadd (q := 1548) hC dL_law_1547 rfl ?_
  obtain ⟨g1, hf⟩ := gd_ok hf
  refine G_sld (q := 1549) hC dL_law_1548 rfl hB g1 ?_
  refine G_aload_n (q := 1550) hC dL_law_1549 rfl rfl ?_
  obtain ⟨v1, w1, σ1, hm1, hf⟩ := bL_ok hf
  refine G_callL (q := 1553) (n := 3) (As := [.ref (eB E + 0), .int (xs (x4 + (1 : Int32)).toNatClampNeg), .ref (eB E + 605)]) (st := []) hC hN dL_law_1550 rfl (m_L_synopsis hflag hm1) (wall (by decide +kernel) rfl) (wall (by decide +kernel) rfl) (wall (by decide +kernel) rfl) (wall (by decide +kernel) rfl) rfl ⟨by decide +kernel, by decide +kernel, by decide +kernel⟩ ⟨Nat.le_of_ble_eq_true rfl, Nat.le_of_ble_eq_true rfl⟩ (Nat.le_of_ble_eq_true rfl) ⟨Nat.le_trans (Nat.add_le_add_left (Nat.le_of_ble_eq_true rfl) _) hce, Nat.le_trans (Nat.add_le_add_left (Nat.le_of_ble_eq_true rfl) _) hsl⟩ ?_
  refine G_widen (k := ce + 4) (n := sl + 24) (Nat.add_le_add_left (Nat.le_of_ble_eq_true rfl) _) (Nat.add_le_add_left (Nat.le_of_ble_eq_true rfl) _) ?_
  refine G_istore (q := 1555) (lv' := [(5, .int v1), (0, .ref b), (1, .ref (eB E + 0)), (2, .ref (eB E + 583)), (3, .ref (eB E + 605)), (4, .int x4)]) hC dL_law_1553 rfl (by decide) rfl ?_
  refine G_aload_n (q := 1556) hC dL_law_1555 rfl rfl ?_
  refine G_aload_n (q := 1557) hC dL_law_1556 rfl rfl ?_
  refine G_iload (q := 1559) hC dL_law_1557 rfl rfl ?_
  refine G_iconst (q := 1560) hC dL_law_1559 rfl ic_1 ?_
  refine G_iadd (q := 1561) hC dL_law_1560 rfl ?_
  obtain ⟨g2, hf⟩ := gd_ok hf
  refine G_sld (q := 1562) hC dL_law_1561 rfl hB g2 ?_
  obtain ⟨v2, σ2, hm2, hf⟩ := bd_ok hf
  refine cl_RL_183 (q := 1565) hC dL_law_1562 rfl (m_X7_synopsis hm2) ⟨Nat.le_of_ble_eq_true rfl, Nat.le_of_ble_eq_true rfl⟩ (Nat.le_of_ble_eq_true rfl) ⟨hce, hsl⟩ ?_
  refine G_istore (q := 1567) (lv' := [(6, .int v2), (5, .int v1), (0, .ref b), (1, .ref (eB E + 0)), (2, .ref (eB E + 583)), (3, .ref (eB E + 605)), (4, .int x4)]) hC dL_law_1565 rfl (by decide) rfl ?_
  refine G_aload_n (q := 1568) hC dL_law_1567 rfl rfl ?_
  obtain ⟨v3, σ3, hm3, hf⟩ := bd_ok hf
  refine cl_RL_93 (q := 1571) hC dL_law_1568 rfl (m_X7_thrown hm3) ⟨Nat.le_of_ble_eq_true rfl, Nat.le_of_ble_eq_true rfl⟩ (Nat.le_of_ble_eq_true rfl) ⟨hce, hsl⟩ ?_
  refine G_iload (q := 1573) hC dL_law_1571 rfl rfl ?_
  refine G_icmp_eq (tgt := 1578) (q := 1576) hC dL_law_1573 (by decide) rfl (fun c4 => ?_) (fun c4 => ?_)
  · have hf := (if_pos c4).symm.trans hf
    refine G_iload (q := 1580) hC dL_law_1578 rfl rfl ?_
    refine G_if_ne (tgt := 1595) (q := 1583) hC dL_law_1580 (by decide) rfl (fun c5 => ?_) (fun c5 => ?_)
    · have hf := (if_neg c5).symm.trans hf
      refine G_lv (lv' := [(0, .ref b), (1, .ref (eB E + 0)), (2, .ref (eB E + 583)), (3, .ref (eB E + 605)), (4, .int x4)]) [2, 3, 4, 5, 6] rfl ?_
      exact t_L_law_b1595 hC hN hB hB2 hflag hce hsl hk23 hf
    · have hf := (if_pos c5).symm.trans hf
      refine G_aload_n (q := 1584) hC dL_law_1583 rfl rfl ?_
      refine G_iconst (q := 1585) hC dL_law_1584 rfl ic_0 ?_
      refine G_lald (q := 1586) hC dL_law_1585 rfl ?_
      refine G_iload (q := 1588) hC dL_law_1586 rfl rfl ?_
      refine G_i2l (q := 1589) hC dL_law_1588 rfl ?_
      refine G_lcmp (q := 1590) hC dL_law_1589 rfl ?_
      refine G_if_eq (tgt := 1595) (q := 1593) hC dL_law_1590 (by decide) rfl (fun c6 => ?_) (fun c6 => ?_)
      · have hf := (if_pos c6).symm.trans hf
        refine G_lv (lv' := [(0, .ref b), (1, .ref (eB E + 0)), (2, .ref (eB E + 583)), (3, .ref (eB E + 605)), (4, .int x4)]) [2, 3, 4, 5, 6] rfl ?_
        exact t_L_law_b1595 hC hN hB hB2 hflag hce hsl hk23 hf
      · have hf := (if_neg c6).symm.trans hf
        refine G_iconst (q := 1594) hC dL_law_1593 rfl ic_0 ?_
        exact absurd hf (by decide)
  · have hf := (if_neg c4).symm.trans hf
    refine G_iconst (q := 1577) hC dL_law_1576 rfl ic_0 ?_
    exact absurd hf (by decide)

def f_L_law_b23_B (fu : Nat) (xs : Nat → Int32) (L : Nat) (k23 : (Nat → Int64) → gSt → Int32 → Option Int32) (w : Nat → Int64) (σ : gSt) (x4 : Int32) : Option Int32 :=
  if ((Int32.ofNat L) - (3 : Int32)) < x4 then (some 1) else (gd (inb x4 L) (gd (decide (0 ≤ ((xs x4.toNatClampNeg) &&& (31 : Int32)))) ((match (((xs x4.toNatClampNeg) &&& (31 : Int32))).toNatClampNeg with | 0 => f_L_law_b156 fu xs L k23 w σ x4 | 1 => f_L_law_b214 fu xs L k23 w σ x4 | 2 => f_L_law_b227 fu xs L k23 w σ x4 | 3 => f_L_law_b306 fu xs L k23 w σ x4 | 4 => f_L_law_b374 fu xs L k23 w σ x4 | 5 => f_L_law_b442 fu xs L k23 w σ x4 | 6 => f_L_law_b498 fu xs L k23 w σ x4 | 7 => f_L_law_b573 fu xs L k23 w σ x4 | 8 => f_L_law_b641 fu xs L k23 w σ x4 | 9 => f_L_law_b732 fu xs L k23 w σ x4 | 10 => f_L_law_b802 fu xs L k23 w σ x4 | 11 => f_L_law_b858 fu xs L k23 w σ x4 | 12 => f_L_law_b933 fu xs L k23 w σ x4 | 13 => f_L_law_b1001 fu xs L k23 w σ x4 | 14 => f_L_law_b1057 fu xs L k23 w σ x4 | 15 => f_L_law_b1113 fu xs L k23 w σ x4 | 16 => f_L_law_b1169 fu xs L k23 w σ x4 | 17 => f_L_law_b1213 fu xs L k23 w σ x4 | 18 => f_L_law_b1226 fu xs L k23 w σ x4 | 19 => f_L_law_b1282 fu xs L k23 w σ x4 | 20 => f_L_law_b1350 fu xs L k23 w σ x4 | 21 => f_L_law_b1363 fu xs L k23 w σ x4 | 22 => f_L_law_b1419 fu xs L k23 w σ x4 | 23 => f_L_law_b1460 fu xs L k23 w σ x4 | 24 => f_L_law_b1501 fu xs L k23 w σ x4 | 25 => f_L_law_b1542 fu xs L k23 w σ x4 | _ => f_L_law_b1598 fu xs L k23 w σ x4))))
set_option maxRecDepth 100000 in
theorem t_L_law_b23_B {fu b L : Nat} {xs : Nat → Int32} {k23 : (Nat → Int64) → gSt → Int32 → Option Int32} (hC : gCx p s m #[Value.ref b] meth c cL_law 7 RL (some .boolean) E) (hN : gN s) (hB : gS s E b L xs) (hB2 : s.heap.size ≤ eB E) (hflag : l.stackTraces = false) {ce sl : Nat} (hce : ce + 4 ≤ room_1.cells) (hsl : sl + 24 ≤ room_1.slots) (hk23 : ∀ (w : Nat → Int64) (σ : gSt) (x4 : Int32), k23 w σ x4 = some 1 → G p l e room_1 s m #[Value.ref b] below meth c 7 (ce + 4) (sl + 24) (lw_Z below #[Value.ref b] s) E w σ 23 [(0, .ref b), (1, .ref (eB E + 0)), (2, .ref (eB E + 583)), (3, .ref (eB E + 605)), (4, .int x4)] []) {w : Nat → Int64} {σ : gSt} {x4 : Int32} (hf : f_L_law_b23_B fu xs L k23 w σ x4 = some 1) : G p l e room_1 s m #[Value.ref b] below meth c 7 ce sl (lw_Z below #[Value.ref b] s) E w σ 23 [(0, .ref b), (1, .ref (eB E + 0)), (2, .ref (eB E + 583)), (3, .ref (eB E + 605)), (4, .int x4)] [] := by
  unfold f_L_law_b23_B at hf
  refine G_iload (q := 25) hC dL_law_23 rfl rfl ?_
  refine G_aload_n (q := 26) hC dL_law_25 rfl rfl ?_
  refine G_slen (q := 27) hC dL_law_26 rfl hB ?_
  refine G_iconst (q := 28) hC dL_law_27 rfl ic_3 ?_
  refine G_isub (q := 29) hC dL_law_28 rfl ?_
  refine G_icmp_gt (tgt := 1604) (q := 32) hC dL_law_29 (by decide) rfl (fun c1 => ?_) (fun c1 => ?_)
  · have hf := (if_pos c1).symm.trans hf
    refine G_iconst (q := 1605) hC dL_law_1604 rfl ic_1 ?_
    exact G_lret hC hC.2.2.2.2.2.2.1 hB2 dL_law_1605 ⟨(Nat.le_trans (Nat.le_add_right _ _) hce), (Nat.le_trans (Nat.le_add_right _ _) hsl)⟩
  · have hf := (if_neg c1).symm.trans hf
    refine G_aload_n (q := 33) hC dL_law_32 rfl rfl ?_
    refine G_iload (q := 35) hC dL_law_33 rfl rfl ?_
    obtain ⟨g1, hf⟩ := gd_ok hf
    refine G_sld (q := 36) hC dL_law_35 rfl hB g1 ?_
    refine G_bipush (v := 31) (q := 38) hC dL_law_36 rfl (by decide) ?_
    refine G_iand (q := 39) hC dL_law_38 rfl ?_
    obtain ⟨g2, hf⟩ := gd_ok hf
    obtain ⟨x9, ex9⟩ : ∃ y, y = ((xs x4.toNatClampNeg) &&& (31 : Int32)) := ⟨_, rfl⟩
    rw [← ex9] at g2 hf ⊢
    obtain ⟨j, hj, ej⟩ := nI_of (x := x9) (Int32.not_lt.mpr (by simpa using g2))
    rw [ej, nI_clamp hj] at hf
    rw [ej]
    clear g2 ex9 ej
    match j, hj, hf with
    | 0, _, hf =>
      refine G_tabIn (tgt := 156) (x := nI 0) hC dL_law_39 (by decide) (by decide) (off := 117) rfl (by decide) ?_
      exact t_L_law_b156 hC hN hB hB2 hflag hce hsl hk23 hf
    | 1, _, hf =>
      refine G_tabIn (tgt := 214) (x := nI 1) hC dL_law_39 (by decide) (by decide) (off := 175) rfl (by decide) ?_
      exact t_L_law_b214 hC hN hB hB2 hflag hce hsl hk23 hf
    | 2, _, hf =>
      refine G_tabIn (tgt := 227) (x := nI 2) hC dL_law_39 (by decide) (by decide) (off := 188) rfl (by decide) ?_
      exact t_L_law_b227 hC hN hB hB2 hflag hce hsl hk23 hf
    | 3, _, hf =>
      refine G_tabIn (tgt := 306) (x := nI 3) hC dL_law_39 (by decide) (by decide) (off := 267) rfl (by decide) ?_
      exact t_L_law_b306 hC hN hB hB2 hflag hce hsl hk23 hf
    | 4, _, hf =>
      refine G_tabIn (tgt := 374) (x := nI 4) hC dL_law_39 (by decide) (by decide) (off := 335) rfl (by decide) ?_
      exact t_L_law_b374 hC hN hB hB2 hflag hce hsl hk23 hf
    | 5, _, hf =>
      refine G_tabIn (tgt := 442) (x := nI 5) hC dL_law_39 (by decide) (by decide) (off := 403) rfl (by decide) ?_
      exact t_L_law_b442 hC hN hB hB2 hflag hce hsl hk23 hf
    | 6, _, hf =>
      refine G_tabIn (tgt := 498) (x := nI 6) hC dL_law_39 (by decide) (by decide) (off := 459) rfl (by decide) ?_
      exact t_L_law_b498 hC hN hB hB2 hflag hce hsl hk23 hf
    | 7, _, hf =>
      refine G_tabIn (tgt := 573) (x := nI 7) hC dL_law_39 (by decide) (by decide) (off := 534) rfl (by decide) ?_
      exact t_L_law_b573 hC hN hB hB2 hflag hce hsl hk23 hf
    | 8, _, hf =>
      refine G_tabIn (tgt := 641) (x := nI 8) hC dL_law_39 (by decide) (by decide) (off := 602) rfl (by decide) ?_
      exact t_L_law_b641 hC hN hB hB2 hflag hce hsl hk23 hf
    | 9, _, hf =>
      refine G_tabIn (tgt := 732) (x := nI 9) hC dL_law_39 (by decide) (by decide) (off := 693) rfl (by decide) ?_
      exact t_L_law_b732 hC hN hB hB2 hflag hce hsl hk23 hf
    | 10, _, hf =>
      refine G_tabIn (tgt := 802) (x := nI 10) hC dL_law_39 (by decide) (by decide) (off := 763) rfl (by decide) ?_
      exact t_L_law_b802 hC hN hB hB2 hflag hce hsl hk23 hf
    | 11, _, hf =>
      refine G_tabIn (tgt := 858) (x := nI 11) hC dL_law_39 (by decide) (by decide) (off := 819) rfl (by decide) ?_
      exact t_L_law_b858 hC hN hB hB2 hflag hce hsl hk23 hf
    | 12, _, hf =>
      refine G_tabIn (tgt := 933) (x := nI 12) hC dL_law_39 (by decide) (by decide) (off := 894) rfl (by decide) ?_
      exact t_L_law_b933 hC hN hB hB2 hflag hce hsl hk23 hf
    | 13, _, hf =>
      refine G_tabIn (tgt := 1001) (x := nI 13) hC dL_law_39 (by decide) (by decide) (off := 962) rfl (by decide) ?_
      exact t_L_law_b1001 hC hN hB hB2 hflag hce hsl hk23 hf
    | 14, _, hf =>
      refine G_tabIn (tgt := 1057) (x := nI 14) hC dL_law_39 (by decide) (by decide) (off := 1018) rfl (by decide) ?_
      exact t_L_law_b1057 hC hN hB hB2 hflag hce hsl hk23 hf
    | 15, _, hf =>
      refine G_tabIn (tgt := 1113) (x := nI 15) hC dL_law_39 (by decide) (by decide) (off := 1074) rfl (by decide) ?_
      exact t_L_law_b1113 hC hN hB hB2 hflag hce hsl hk23 hf
    | 16, _, hf =>
      refine G_tabIn (tgt := 1169) (x := nI 16) hC dL_law_39 (by decide) (by decide) (off := 1130) rfl (by decide) ?_
      exact t_L_law_b1169 hC hN hB hB2 hflag hce hsl hk23 hf
    | 17, _, hf =>
      refine G_tabIn (tgt := 1213) (x := nI 17) hC dL_law_39 (by decide) (by decide) (off := 1174) rfl (by decide) ?_
      exact t_L_law_b1213 hC hN hB hB2 hflag hce hsl hk23 hf
    | 18, _, hf =>
      refine G_tabIn (tgt := 1226) (x := nI 18) hC dL_law_39 (by decide) (by decide) (off := 1187) rfl (by decide) ?_
      exact t_L_law_b1226 hC hN hB hB2 hflag hce hsl hk23 hf
    | 19, _, hf =>
      refine G_tabIn (tgt := 1282) (x := nI 19) hC dL_law_39 (by decide) (by decide) (off := 1243) rfl (by decide) ?_
      exact t_L_law_b1282 hC hN hB hB2 hflag hce hsl hk23 hf
    | 20, _, hf =>
      refine G_tabIn (tgt := 1350) (x := nI 20) hC dL_law_39 (by decide) (by decide) (off := 1311) rfl (by decide) ?_
      exact t_L_law_b1350 hC hN hB hB2 hflag hce hsl hk23 hf
    | 21, _, hf =>
      refine G_tabIn (tgt := 1363) (x := nI 21) hC dL_law_39 (by decide) (by decide) (off := 1324) rfl (by decide) ?_
      exact t_L_law_b1363 hC hN hB hB2 hflag hce hsl hk23 hf
    | 22, _, hf =>
      refine G_tabIn (tgt := 1419) (x := nI 22) hC dL_law_39 (by decide) (by decide) (off := 1380) rfl (by decide) ?_
      exact t_L_law_b1419 hC hN hB hB2 hflag hce hsl hk23 hf
    | 23, _, hf =>
      refine G_tabIn (tgt := 1460) (x := nI 23) hC dL_law_39 (by decide) (by decide) (off := 1421) rfl (by decide) ?_
      exact t_L_law_b1460 hC hN hB hB2 hflag hce hsl hk23 hf
    | 24, _, hf =>
      refine G_tabIn (tgt := 1501) (x := nI 24) hC dL_law_39 (by decide) (by decide) (off := 1462) rfl (by decide) ?_
      exact t_L_law_b1501 hC hN hB hB2 hflag hce hsl hk23 hf
    | 25, _, hf =>
      refine G_tabIn (tgt := 1542) (x := nI 25) hC dL_law_39 (by decide) (by decide) (off := 1503) rfl (by decide) ?_
      exact t_L_law_b1542 hC hN hB hB2 hflag hce hsl hk23 hf
    | j + 26, hj, hf =>
      refine G_tabOut (tgt := 1598) hC dL_law_39 (Or.inr (by rw [nI_toInt hj]; omega)) (by decide) ?_
      refine G_widen (k := ce + 4) (n := sl + 24) (Nat.le_add_right _ _) (Nat.le_add_right _ _) ?_
      exact t_L_law_b1598 hC hN hB hB2 hflag hce hsl hk23 hf

def f_L_law_b23 (fu : Nat) (xs : Nat → Int32) (L : Nat) : Nat → (Nat → Int64) → gSt → Int32 → Option Int32
  | 0 => fun _ _ _ => none
  | n + 1 => f_L_law_b23_B fu xs L (f_L_law_b23 fu xs L n)
theorem t_L_law_b23 {fu b L : Nat} {xs : Nat → Int32} (hC : gCx p s m #[Value.ref b] meth c cL_law 7 RL (some .boolean) E) (hN : gN s) (hB : gS s E b L xs) (hB2 : s.heap.size ≤ eB E) (hflag : l.stackTraces = false) (n : Nat) : ∀ (ce sl : Nat) (w : Nat → Int64) (σ : gSt) (x4 : Int32), ce + 4 * n ≤ room_1.cells → sl + 24 * n ≤ room_1.slots → f_L_law_b23 fu xs L n w σ x4 = some 1 → G p l e room_1 s m #[Value.ref b] below meth c 7 ce sl (lw_Z below #[Value.ref b] s) E w σ 23 [(0, .ref b), (1, .ref (eB E + 0)), (2, .ref (eB E + 583)), (3, .ref (eB E + 605)), (4, .int x4)] [] := by
  induction n with
  | zero => intro ce sl w σ x4 _ _ hf; cases hf
  | succ n ih => intro ce sl w σ x4 h1 h2 hf; exact t_L_law_b23_B hC hN hB hB2 hflag (by omega) (by omega) (fun w σ x4 hf => ih (ce + 4) (sl + 24) w σ x4 (by omega) (by omega) hf) hf
def f_L_law_b20 (fu : Nat) (xs : Nat → Int32) (L : Nat) (w : Nat → Int64) (σ : gSt)  : Option Int32 :=
  f_L_law_b23 fu xs L fu w σ (0 : Int32)
theorem t_L_law_b20 {fu b L : Nat} {xs : Nat → Int32} (hC : gCx p s m #[Value.ref b] meth c cL_law 7 RL (some .boolean) E) (hN : gN s) (hB : gS s E b L xs) (hB2 : s.heap.size ≤ eB E) (hflag : l.stackTraces = false) {ce sl : Nat} (hce : ce + 4 * fu ≤ room_1.cells) (hsl : sl + 24 * fu ≤ room_1.slots) {w : Nat → Int64} {σ : gSt}  (hf : f_L_law_b20 fu xs L w σ  = some 1) : G p l e room_1 s m #[Value.ref b] below meth c 7 ce sl (lw_Z below #[Value.ref b] s) E w σ 20 [(0, .ref b), (1, .ref (eB E + 0)), (2, .ref (eB E + 583)), (3, .ref (eB E + 605))] [] := by
  unfold f_L_law_b20 at hf
  refine G_iconst (q := 21) hC dL_law_20 rfl ic_0 ?_
  refine G_istore (q := 23) (lv' := [(4, .int (0 : Int32)), (0, .ref b), (1, .ref (eB E + 0)), (2, .ref (eB E + 583)), (3, .ref (eB E + 605))]) hC dL_law_21 rfl (by decide) rfl ?_
  refine G_lv (lv' := [(0, .ref b), (1, .ref (eB E + 0)), (2, .ref (eB E + 583)), (3, .ref (eB E + 605)), (4, .int (0 : Int32))]) [1, 2, 3, 4, 0] rfl ?_
  exact t_L_law_b23 hC hN hB hB2 hflag fu _ _ _ _ _ hce hsl hf

end LLW

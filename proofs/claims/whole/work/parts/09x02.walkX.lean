def rmX_X9_strike : Room := { frames := 2, cells := 0, slots := 0, locals := 46 }
set_option maxHeartbeats 4000000 in
set_option maxRecDepth 100000 in
theorem bX_X9_strike {p : Program} {l : Launch} {e : Env} {s : State} {m : MethodId} {args : Array Value} {below : List Frame} {meth : Method} {c : Code} {D : va_G} {cI cS cW : ClassId} {q : Nat → Nat} {A : Nat → Prop} {res : Int32 × zSt} (C : zCX p s m args meth c cX9_strike 3 (some .int) zU RX9) (hE : zE D (zyX cI cS cW) znX A s) (x1 : Int32) (S : zSt) (H : Heap) (locs : List Loc) (ls : Array Slot) (hH : zH D (zwX cI cS cW q) A s S H locs) (hl : lv_has ls 3 [(0, .ref (q 3)), (1, .int x1)]) (h : fX_X9_strike  x1 S = some res) : W p l e rmX_X9_strike s m args below meth c H locs 0 0 (zQi below D (zwX cI cS cW q) (zyX cI cS cW) A args s res.1 res.2) (F0 m 0 ls []) := by
  have hx := C.1
  have hb := C.2.1
  unfold fX_X9_strike at h
  refine lv_aload_n hx hb dX9_strike_0 rfl (lv_at hl 0 rfl) ?_
  refine lv_iload_n hx hb dX9_strike_1 rfl (lv_at hl 1 rfl) ?_
  obtain ⟨u1, e2, h⟩ := zbd_s h
  refine z_calli (va_runV (As := [.int x1]) (rest := []) (z_fix C) (cX_X9_seek l D cI cS cW q H.size  x1 S e2) (cwV 1 C.2.2.2.2.1 (zGV zk15_20 zk15_21 zk15_22 zk2_2 zk15_23) rfl rfl rfl yd_X9_seek ⟨Nat.le_of_ble_eq_true rfl, Nat.le_of_ble_eq_true rfl⟩) (z_preV (zNmX hE) hE hH zX_o3 rfl) rfl rfl hl.1 rfl (lv_room (Nat.le_of_ble_eq_true rfl)) dX9_strike_2 ⟨Nat.le_refl 0, Nat.le_refl 0⟩) hE hH (fun H locs hH => ?_)
  refine lv_istore_n (lv' := [(2, .int u1.1), (0, .ref (q 3)), (1, .int x1)]) hx hb dX9_strike_5 rfl hl (by decide) rfl (fun ls hl => ?_)
  refine lv_aload_n hx hb dX9_strike_6 rfl (lv_at hl 1 rfl) ?_
  refine z_get C hE hH zX_o3 rfl zh_X9 0 (by decide) zk15_18 (u_same (C.2.2.2.2.1 _ zk15_19)) (v := .ref (q 38)) rfl dX9_strike_7 ?_
  refine lv_iload_n hx hb dX9_strike_10 rfl (lv_at hl 2 rfl) ?_
  obtain ⟨g3, h⟩ := zgd_s h
  refine z_iald C hE hH zX_a38 (t0 := 0) rfl g3 dX9_strike_11 ?_
  refine lv_if_ne (tgt := 17) hx hb dX9_strike_12 (by decide) (fun c4 => ?_) (fun c4 => ?_)
  · replace h := zif_f c4 h
    refine lv_aload_n hx hb dX9_strike_17 rfl (lv_at hl 1 rfl) ?_
    refine z_get C hE hH zX_o3 rfl zh_X9 0 (by decide) zk15_18 (u_same (C.2.2.2.2.1 _ zk15_19)) (v := .ref (q 38)) rfl dX9_strike_18 ?_
    refine lv_iload_n hx hb dX9_strike_21 rfl (lv_at hl 2 rfl) ?_
    refine lv_dup2_11 hx hb dX9_strike_22 rfl rfl ?_
    obtain ⟨g5, h⟩ := zgd_s h
    refine z_iald C hE hH zX_a38 (t0 := 0) rfl g5 dX9_strike_23 ?_
    refine lv_iconst (v := 1) hx hb dX9_strike_24 (by decide) ?_
    refine lv_isub hx hb dX9_strike_25 ?_
    obtain ⟨g6, h⟩ := zgd_s h
    refine z_iast C hE hH zX_a38 (t0 := 0) rfl g6 zX_r38 dX9_strike_26 (fun H locs hH => ?_)
    refine lv_aload_n hx hb dX9_strike_27 rfl (lv_at hl 1 rfl) ?_
    refine z_get C hE hH zX_o3 rfl zh_X9 0 (by decide) zk15_18 (u_same (C.2.2.2.2.1 _ zk15_19)) (v := .ref (q 38)) rfl dX9_strike_28 ?_
    refine lv_iload_n hx hb dX9_strike_31 rfl (lv_at hl 2 rfl) ?_
    obtain ⟨g7, h⟩ := zgd_s h
    refine z_iald C hE hH zX_a38 (t0 := 0) rfl g7 dX9_strike_32 ?_
    refine lv_if_le (tgt := 40) hx hb dX9_strike_33 (by decide) (fun c8 => ?_) (fun c8 => ?_)
    · replace h := zif_t c8 h
      refine lv_iload_n hx hb dX9_strike_40 rfl (lv_at hl 0 rfl) ?_
      refine lv_aload_n hx hb dX9_strike_41 rfl (lv_at hl 1 rfl) ?_
      refine lv_iload_n hx hb dX9_strike_42 rfl (lv_at hl 2 rfl) ?_
      obtain ⟨u9, e10, h⟩ := zbd_s h
      refine z_calli (va_runV (As := [.int x1]) (rest := [.int u1.1]) (z_fix C) (cX_X9_takeOut l D cI cS cW q H.size  x1 (zsR u1.2 38 x1.toNatClampNeg ((u1.2.2 38 x1.toNatClampNeg) - 1)) e10) (cwV 1 C.2.2.2.2.1 (zGV zk16_8 zk16_9 zk16_10 zk2_2 zk16_11) rfl rfl rfl yd_X9_takeOut ⟨Nat.le_of_ble_eq_true rfl, Nat.le_of_ble_eq_true rfl⟩) (z_preV (zNmX hE) hE hH zX_o3 rfl) rfl rfl hl.1 rfl (lv_room (Nat.le_of_ble_eq_true rfl)) dX9_strike_43 ⟨Nat.le_refl 0, Nat.le_refl 0⟩) hE hH (fun H locs hH => ?_)
      refine lv_iadd hx hb dX9_strike_46 ?_
      cases h
      exact z_iret C hE hH dX9_strike_47
    · replace h := zif_f c8 h
      refine lv_iload_n hx hb dX9_strike_36 rfl (lv_at hl 0 rfl) ?_
      refine lv_goto (tgt := 47) hx hb dX9_strike_37 (by decide) ?_
      cases h
      exact z_iret C hE hH dX9_strike_47
  · replace h := zif_t c4 h
    refine lv_iload_n hx hb dX9_strike_15 rfl (lv_at hl 0 rfl) ?_
    cases h
    exact z_iret C hE hH dX9_strike_16
set_option maxHeartbeats 4000000 in
set_option maxRecDepth 100000 in
theorem cX_X9_strike (l : Launch) (D : va_G) (cI cS cW : ClassId) (q : Nat → Nat) (sz : Nat) (x1 : Int32) (S : zSt) {res : Int32 × zSt} (h : fX_X9_strike x1 S = some res) : zMi l yX9_strike vsX9_strike rmX_X9_strike [.ref (q 3), .int x1] D (zwX cI cS cW q) (zyX cI cS cW) znX sz S res.1 res.2 := by
  refine Met.ofW (cc := cX9_strike) (maxL := 3) (ret := (some .int)) (by decide) rfl ?_
  intro p e s m args below meth c s₁ B hml hv
  obtain ⟨rfl, rfl, hP, hK, hD0, hN⟩ := hv
  have hl := lv_entry ([.ref (q 3), .int x1]) (n := 3) (Nat.le_of_ble_eq_true rfl)
  rw [lg_entry_eq]
  generalize (lg_sl ([.ref (q 3), .int x1]) ++ List.replicate (3 - (lg_sl ([.ref (q 3), .int x1])).length) Slot.unset).toArray = ls at hl ⊢
  exact bX_X9_strike ⟨B.exec, B.bytes, hml, findClass_of_methodNamed B.named, fun w h => atoms_spec (ws := vsX9_strike) B.pre w (List.mem_cons_of_mem _ h), B.returns, B.notSynchronized⟩ ⟨hK, fun q h => Or.inr h, hN⟩ x1 S s.heap [] ls ⟨hP, hD0.self, va_S.rf⟩ hl  h
def rmX_X9_seekLeast : Room := { frames := 1, cells := 0, slots := 0, locals := 20 }
set_option maxHeartbeats 4000000 in
set_option maxRecDepth 100000 in
theorem bX_X9_seekLeast_7 {p : Program} {l : Launch} {e : Env} {s : State} {m : MethodId} {args : Array Value} {below : List Frame} {meth : Method} {c : Code} {D : va_G} {cI cS cW : ClassId} {q : Nat → Nat} {A : Nat → Prop} {res : Int32} (C : zCX p s m args meth c cX9_seekLeast 3 (some .int) zU RX9) (hE : zE D (zyX cI cS cW) znX A s) : ∀ (n : Nat) (x1 x2 : Int32) (S : zSt) (H : Heap) (locs : List Loc) (ls : Array Slot), zH D (zwX cI cS cW q) A s S H locs → lv_has ls 3 [(0, .ref (q 3)), (1, .int x1), (2, .int x2)] → fX_X9_seekLeast_7  n x1 x2 S = some res → W p l e rmX_X9_seekLeast s m args below meth c H locs 0 0 (zQi below D (zwX cI cS cW q) (zyX cI cS cW) A args s res S) (F0 m 7 ls []) := by
  have hx := C.1
  have hb := C.2.1
  intro n
  induction n with
  | zero =>
    intro x1 x2 S H locs ls hH hl  h
    cases h
  | succ n hK7 =>
    intro x1 x2 S H locs ls hH hl  h
    rw [fX_X9_seekLeast_7] at h
    refine lv_iload_n hx hb dX9_seekLeast_7 rfl (lv_at hl 1 rfl) ?_
    obtain ⟨u1, e2, h⟩ := zbd_s h
    refine z_calli (va_runSN (As := [.int x1]) (rest := []) (z_fix C) (cX_X10_isKey l D cI cS cW q H.size  x1 S e2) ⟨va_cnB 1 C.2.2.2.2.1 (zGc zk6_15) rfl rfl rfl ((hE.2.2 _ znX_0).2) (C.2.2.2.2.1 _ zk1_2) yd_X10_isKey ⟨Nat.le_of_ble_eq_true rfl, Nat.le_of_ble_eq_true rfl⟩, C.2.2.2.2.1 _ zk6_14, trivial⟩ (z_preS (zNmX hE) hE hH) rfl rfl hl.1 rfl (lv_room (Nat.le_of_ble_eq_true rfl)) dX9_seekLeast_8 ⟨Nat.le_refl 0, Nat.le_refl 0⟩) hE hH (fun H locs hH => ?_)
    refine lv_if_eq (tgt := 33) hx hb dX9_seekLeast_11 (by decide) (fun c3 => ?_) (fun c3 => ?_)
    · replace h := zif_t c3 h
      refine lv_iload_n hx hb dX9_seekLeast_33 rfl (lv_at hl 2 rfl) ?_
      cases h
      exact z_iret C hE hH dX9_seekLeast_34
    · replace h := zif_f c3 h
      refine lv_iload_n hx hb dX9_seekLeast_14 rfl (lv_at hl 2 rfl) ?_
      refine lv_bipush (v := 64) hx hb dX9_seekLeast_15 (by decide) ?_
      refine lv_icmp_ge (tgt := 33) hx hb dX9_seekLeast_17 (by decide) (fun c4 => ?_) (fun c4 => ?_)
      · replace h := zif_t c4 h
        refine lv_iload_n hx hb dX9_seekLeast_33 rfl (lv_at hl 2 rfl) ?_
        cases h
        exact z_iret C hE hH dX9_seekLeast_34
      · replace h := zif_f c4 h
        refine lv_iinc (v := (x2 + 1)) (lv' := [(2, .int (x2 + 1)), (0, .ref (q 3)), (1, .int x1)]) hx hb dX9_seekLeast_20 hl (k := 2) rfl rfl (by decide) rfl (fun ls hl => ?_)
        refine lv_aload_n hx hb dX9_seekLeast_23 rfl (lv_at hl 1 rfl) ?_
        refine z_get C hE hH zX_o3 rfl zh_X9 4 (by decide) zk4_7 (fun _ h9 => h9) (v := .ref (q 40)) rfl dX9_seekLeast_24 ?_
        refine lv_iload_n hx hb dX9_seekLeast_27 rfl (lv_at hl 2 rfl) ?_
        obtain ⟨g5, h⟩ := zgd_s h
        refine z_iald C hE hH zX_a40 (t0 := 0) rfl g5 dX9_seekLeast_28 ?_
        refine lv_istore_n (lv' := [(1, .int (S.2 40 x1.toNatClampNeg)), (2, .int (x2 + 1)), (0, .ref (q 3))]) hx hb dX9_seekLeast_29 rfl hl (by decide) rfl (fun ls hl => ?_)
        refine lv_goto (tgt := 7) hx hb dX9_seekLeast_30 (by decide) ?_
        exact hK7 (S.2 40 x1.toNatClampNeg) (x2 + 1) S H locs ls hH (lv_sub hl [2, 0, 1] rfl) h
set_option maxHeartbeats 4000000 in
set_option maxRecDepth 100000 in
theorem bX_X9_seekLeast {p : Program} {l : Launch} {e : Env} {s : State} {m : MethodId} {args : Array Value} {below : List Frame} {meth : Method} {c : Code} {D : va_G} {cI cS cW : ClassId} {q : Nat → Nat} {A : Nat → Prop} {res : Int32} (C : zCX p s m args meth c cX9_seekLeast 3 (some .int) zU RX9) (hE : zE D (zyX cI cS cW) znX A s) (S : zSt) (H : Heap) (locs : List Loc) (ls : Array Slot) (hH : zH D (zwX cI cS cW q) A s S H locs) (hl : lv_has ls 3 [(0, .ref (q 3))]) (h : fX_X9_seekLeast   S = some res) : W p l e rmX_X9_seekLeast s m args below meth c H locs 0 0 (zQi below D (zwX cI cS cW q) (zyX cI cS cW) A args s res S) (F0 m 0 ls []) := by
  have hx := C.1
  have hb := C.2.1
  unfold fX_X9_seekLeast at h
  refine lv_aload_n hx hb dX9_seekLeast_0 rfl (lv_at hl 0 rfl) ?_
  refine z_get C hE hH zX_o3 rfl zh_X9 6 (by decide) zk4_9 (fun _ h9 => h9) (v := .int (S.1 31)) rfl dX9_seekLeast_1 ?_
  refine lv_istore_n (lv' := [(1, .int (S.1 31)), (0, .ref (q 3))]) hx hb dX9_seekLeast_4 rfl hl (by decide) rfl (fun ls hl => ?_)
  refine lv_iconst (v := 0) hx hb dX9_seekLeast_5 (by decide) ?_
  refine lv_istore_n (lv' := [(2, .int 0), (1, .int (S.1 31)), (0, .ref (q 3))]) hx hb dX9_seekLeast_6 rfl hl (by decide) rfl (fun ls hl => ?_)
  exact bX_X9_seekLeast_7 C hE   1000 (S.1 31) 0 S H locs ls hH (lv_sub hl [2, 1, 0] rfl) h
set_option maxHeartbeats 4000000 in
set_option maxRecDepth 100000 in
theorem cX_X9_seekLeast (l : Launch) (D : va_G) (cI cS cW : ClassId) (q : Nat → Nat) (sz : Nat) (S : zSt) {res : Int32} (h : fX_X9_seekLeast  S = some res) : zMi l yX9_seekLeast vsX9_seekLeast rmX_X9_seekLeast [.ref (q 3)] D (zwX cI cS cW q) (zyX cI cS cW) znX sz S res S := by
  refine Met.ofW (cc := cX9_seekLeast) (maxL := 3) (ret := (some .int)) (by decide) rfl ?_
  intro p e s m args below meth c s₁ B hml hv
  obtain ⟨rfl, rfl, hP, hK, hD0, hN⟩ := hv
  have hl := lv_entry ([.ref (q 3)]) (n := 3) (Nat.le_of_ble_eq_true rfl)
  rw [lg_entry_eq]
  generalize (lg_sl ([.ref (q 3)]) ++ List.replicate (3 - (lg_sl ([.ref (q 3)])).length) Slot.unset).toArray = ls at hl ⊢
  exact bX_X9_seekLeast ⟨B.exec, B.bytes, hml, findClass_of_methodNamed B.named, fun w h => atoms_spec (ws := vsX9_seekLeast) B.pre w (List.mem_cons_of_mem _ h), B.returns, B.notSynchronized⟩ ⟨hK, fun q h => Or.inr h, hN⟩  S s.heap [] ls ⟨hP, hD0.self, va_S.rf⟩ hl  h
def rmX_X9_step : Room := { frames := 3, cells := 0, slots := 0, locals := 68 }
set_option maxHeartbeats 4000000 in
set_option maxRecDepth 100000 in
theorem bX_X9_step {p : Program} {l : Launch} {e : Env} {s : State} {m : MethodId} {args : Array Value} {below : List Frame} {meth : Method} {c : Code} {D : va_G} {cI cS cW : ClassId} {q : Nat → Nat} {A : Nat → Prop} {res : Int32 × zSt} (C : zCX p s m args meth c cX9_step 3 (some .int) zU RX9) (hE : zE D (zyX cI cS cW) znX A s) (x1 x2 : Int32) (S : zSt) (H : Heap) (locs : List Loc) (ls : Array Slot) (hH : zH D (zwX cI cS cW q) A s S H locs) (hl : lv_has ls 3 [(0, .ref (q 3)), (1, .int x1), (2, .int x2)]) (h : fX_X9_step  x1 x2 S = some res) : W p l e rmX_X9_step s m args below meth c H locs 0 0 (zQi below D (zwX cI cS cW q) (zyX cI cS cW) A args s res.1 res.2) (F0 m 0 ls []) := by
  have hx := C.1
  have hb := C.2.1
  unfold fX_X9_step at h
  refine lv_iload_n hx hb dX9_step_0 rfl (lv_at hl 1 rfl) ?_
  by_cases c1_0 : x1 = 0
  · replace h := zif_t c1_0 h
    refine lv_tableIn (tgt := 48) hx hb dX9_step_1 (by rw [c1_0]; decide) (by rw [c1_0]; decide) (by rw [c1_0]; rfl) (by decide) ?_
    refine lv_aload_n hx hb dX9_step_48 rfl (lv_at hl 0 rfl) ?_
    refine lv_iload_n hx hb dX9_step_49 rfl (lv_at hl 2 rfl) ?_
    obtain ⟨u2, e3, h⟩ := zbd_s h
    refine z_calli (va_runV (As := [.int x2]) (rest := []) (z_fix C) (cX_X9_putNode l D cI cS cW q H.size  x2 S e3) (cwV 1 C.2.2.2.2.1 (zGV zk15_14 zk15_15 zk15_16 zk2_2 zk15_17) rfl rfl rfl yd_X9_putNode ⟨Nat.le_of_ble_eq_true rfl, Nat.le_of_ble_eq_true rfl⟩) (z_preV (zNmX hE) hE hH zX_o3 rfl) rfl rfl hl.1 rfl (lv_room (Nat.le_of_ble_eq_true rfl)) dX9_step_50 ⟨Nat.le_refl 0, Nat.le_refl 0⟩) hE hH (fun H locs hH => ?_)
    cases h
    exact z_iret C hE hH dX9_step_53
  · replace h := zif_f c1_0 h
    by_cases c1_1 : x1 = 1
    · replace h := zif_t c1_1 h
      refine lv_tableIn (tgt := 54) hx hb dX9_step_1 (by rw [c1_1]; decide) (by rw [c1_1]; decide) (by rw [c1_1]; rfl) (by decide) ?_
      refine lv_aload_n hx hb dX9_step_54 rfl (lv_at hl 0 rfl) ?_
      refine lv_iload_n hx hb dX9_step_55 rfl (lv_at hl 2 rfl) ?_
      obtain ⟨u4, e5, h⟩ := zbd_s h
      refine z_calli (va_runV (As := [.int x2]) (rest := []) (z_fix C) (cX_X9_seek l D cI cS cW q H.size  x2 S e5) (cwV 1 C.2.2.2.2.1 (zGV zk15_20 zk15_21 zk15_22 zk2_2 zk15_23) rfl rfl rfl yd_X9_seek ⟨Nat.le_of_ble_eq_true rfl, Nat.le_of_ble_eq_true rfl⟩) (z_preV (zNmX hE) hE hH zX_o3 rfl) rfl rfl hl.1 rfl (lv_room (Nat.le_of_ble_eq_true rfl)) dX9_step_56 ⟨Nat.le_refl 0, Nat.le_refl 0⟩) hE hH (fun H locs hH => ?_)
      cases h
      exact z_iret C hE hH dX9_step_59
    · replace h := zif_f c1_1 h
      by_cases c1_2 : x1 = 2
      · replace h := zif_t c1_2 h
        refine lv_tableIn (tgt := 60) hx hb dX9_step_1 (by rw [c1_2]; decide) (by rw [c1_2]; decide) (by rw [c1_2]; rfl) (by decide) ?_
        refine lv_aload_n hx hb dX9_step_60 rfl (lv_at hl 0 rfl) ?_
        refine lv_iload_n hx hb dX9_step_61 rfl (lv_at hl 2 rfl) ?_
        obtain ⟨u6, e7, h⟩ := zbd_s h
        refine z_calli (va_runV (As := [.int x2]) (rest := []) (z_fix C) (cX_X9_strike l D cI cS cW q H.size  x2 S e7) (cwV 1 C.2.2.2.2.1 (zGV zk16_4 zk16_5 zk16_6 zk2_2 zk16_7) rfl rfl rfl yd_X9_strike ⟨Nat.le_of_ble_eq_true rfl, Nat.le_of_ble_eq_true rfl⟩) (z_preV (zNmX hE) hE hH zX_o3 rfl) rfl rfl hl.1 rfl (lv_room (Nat.le_of_ble_eq_true rfl)) dX9_step_62 ⟨Nat.le_refl 0, Nat.le_refl 0⟩) hE hH (fun H locs hH => ?_)
        cases h
        exact z_iret C hE hH dX9_step_65
      · replace h := zif_f c1_2 h
        by_cases c1_3 : x1 = 3
        · replace h := zif_t c1_3 h
          refine lv_tableIn (tgt := 73) hx hb dX9_step_1 (by rw [c1_3]; decide) (by rw [c1_3]; decide) (by rw [c1_3]; rfl) (by decide) ?_
          refine lv_aload_n hx hb dX9_step_73 rfl (lv_at hl 0 rfl) ?_
          refine z_get C hE hH zX_o3 rfl zh_X9 7 (by decide) zk4_10 (fun _ h9 => h9) (v := .int (S.1 32)) rfl dX9_step_74 ?_
          cases h
          exact z_iret C hE hH dX9_step_77
        · replace h := zif_f c1_3 h
          by_cases c1_4 : x1 = 4
          · replace h := zif_t c1_4 h
            refine lv_tableIn (tgt := 66) hx hb dX9_step_1 (by rw [c1_4]; decide) (by rw [c1_4]; decide) (by rw [c1_4]; rfl) (by decide) ?_
            refine lv_aload_n hx hb dX9_step_66 rfl (lv_at hl 0 rfl) ?_
            obtain ⟨u8, e9, h⟩ := zbd_s h
            refine z_calli (va_runV (As := []) (rest := []) (z_fix C) (cX_X9_seekLeast l D cI cS cW q H.size   S e9) (cwV 0 C.2.2.2.2.1 (zGV zk16_12 zk16_13 zk16_14 zk2_2 zk16_15) rfl rfl rfl yd_X9_seekLeast ⟨Nat.le_of_ble_eq_true rfl, Nat.le_of_ble_eq_true rfl⟩) (z_preV (zNmX hE) hE hH zX_o3 rfl) rfl rfl hl.1 rfl (lv_room (Nat.le_of_ble_eq_true rfl)) dX9_step_67 ⟨Nat.le_refl 0, Nat.le_refl 0⟩) hE hH (fun H locs hH => ?_)
            cases h
            exact z_iret C hE hH dX9_step_70
          · replace h := zif_f c1_4 h
            by_cases c1_5 : x1 = 5
            · replace h := zif_t c1_5 h
              refine lv_tableIn (tgt := 54) hx hb dX9_step_1 (by rw [c1_5]; decide) (by rw [c1_5]; decide) (by rw [c1_5]; rfl) (by decide) ?_
              refine lv_aload_n hx hb dX9_step_54 rfl (lv_at hl 0 rfl) ?_
              refine lv_iload_n hx hb dX9_step_55 rfl (lv_at hl 2 rfl) ?_
              obtain ⟨u10, e11, h⟩ := zbd_s h
              refine z_calli (va_runV (As := [.int x2]) (rest := []) (z_fix C) (cX_X9_seek l D cI cS cW q H.size  x2 S e11) (cwV 1 C.2.2.2.2.1 (zGV zk15_20 zk15_21 zk15_22 zk2_2 zk15_23) rfl rfl rfl yd_X9_seek ⟨Nat.le_of_ble_eq_true rfl, Nat.le_of_ble_eq_true rfl⟩) (z_preV (zNmX hE) hE hH zX_o3 rfl) rfl rfl hl.1 rfl (lv_room (Nat.le_of_ble_eq_true rfl)) dX9_step_56 ⟨Nat.le_refl 0, Nat.le_refl 0⟩) hE hH (fun H locs hH => ?_)
              cases h
              exact z_iret C hE hH dX9_step_59
            · replace h := zif_f c1_5 h
              by_cases c1_6 : x1 = 6
              · replace h := zif_t c1_6 h
                refine lv_tableIn (tgt := 71) hx hb dX9_step_1 (by rw [c1_6]; decide) (by rw [c1_6]; decide) (by rw [c1_6]; rfl) (by decide) ?_
                refine lv_iconst (v := 0) hx hb dX9_step_71 (by decide) ?_
                cases h
                exact z_iret C hE hH dX9_step_72
              · replace h := zif_f c1_6 h
                by_cases c1_7 : x1 = 7
                · replace h := zif_t c1_7 h
                  refine lv_tableIn (tgt := 54) hx hb dX9_step_1 (by rw [c1_7]; decide) (by rw [c1_7]; decide) (by rw [c1_7]; rfl) (by decide) ?_
                  refine lv_aload_n hx hb dX9_step_54 rfl (lv_at hl 0 rfl) ?_
                  refine lv_iload_n hx hb dX9_step_55 rfl (lv_at hl 2 rfl) ?_
                  obtain ⟨u12, e13, h⟩ := zbd_s h
                  refine z_calli (va_runV (As := [.int x2]) (rest := []) (z_fix C) (cX_X9_seek l D cI cS cW q H.size  x2 S e13) (cwV 1 C.2.2.2.2.1 (zGV zk15_20 zk15_21 zk15_22 zk2_2 zk15_23) rfl rfl rfl yd_X9_seek ⟨Nat.le_of_ble_eq_true rfl, Nat.le_of_ble_eq_true rfl⟩) (z_preV (zNmX hE) hE hH zX_o3 rfl) rfl rfl hl.1 rfl (lv_room (Nat.le_of_ble_eq_true rfl)) dX9_step_56 ⟨Nat.le_refl 0, Nat.le_refl 0⟩) hE hH (fun H locs hH => ?_)
                  cases h
                  exact z_iret C hE hH dX9_step_59
                · replace h := zif_f c1_7 h
                  have ec1_0 : ¬ (x1).toInt = 0 := zsw_ne c1_0
                  have ec1_1 : ¬ (x1).toInt = 1 := zsw_ne c1_1
                  have ec1_2 : ¬ (x1).toInt = 2 := zsw_ne c1_2
                  have ec1_3 : ¬ (x1).toInt = 3 := zsw_ne c1_3
                  have ec1_4 : ¬ (x1).toInt = 4 := zsw_ne c1_4
                  have ec1_5 : ¬ (x1).toInt = 5 := zsw_ne c1_5
                  have ec1_6 : ¬ (x1).toInt = 6 := zsw_ne c1_6
                  have ec1_7 : ¬ (x1).toInt = 7 := zsw_ne c1_7
                  refine lv_tableOut (tgt := 73) hx hb dX9_step_1 (by omega) (by decide) ?_
                  refine lv_aload_n hx hb dX9_step_73 rfl (lv_at hl 0 rfl) ?_
                  refine z_get C hE hH zX_o3 rfl zh_X9 7 (by decide) zk4_10 (fun _ h9 => h9) (v := .int (S.1 32)) rfl dX9_step_74 ?_
                  cases h
                  exact z_iret C hE hH dX9_step_77
set_option maxHeartbeats 4000000 in
set_option maxRecDepth 100000 in
theorem cX_X9_step (l : Launch) (D : va_G) (cI cS cW : ClassId) (q : Nat → Nat) (sz : Nat) (x1 : Int32) (x2 : Int32) (S : zSt) {res : Int32 × zSt} (h : fX_X9_step x1 x2 S = some res) : zMi l yX9_step vsX9_step rmX_X9_step [.ref (q 3), .int x1, .int x2] D (zwX cI cS cW q) (zyX cI cS cW) znX sz S res.1 res.2 := by
  refine Met.ofW (cc := cX9_step) (maxL := 3) (ret := (some .int)) (by decide) rfl ?_
  intro p e s m args below meth c s₁ B hml hv
  obtain ⟨rfl, rfl, hP, hK, hD0, hN⟩ := hv
  have hl := lv_entry ([.ref (q 3), .int x1, .int x2]) (n := 3) (Nat.le_of_ble_eq_true rfl)
  rw [lg_entry_eq]
  generalize (lg_sl ([.ref (q 3), .int x1, .int x2]) ++ List.replicate (3 - (lg_sl ([.ref (q 3), .int x1, .int x2])).length) Slot.unset).toArray = ls at hl ⊢
  exact bX_X9_step ⟨B.exec, B.bytes, hml, findClass_of_methodNamed B.named, fun w h => atoms_spec (ws := vsX9_step) B.pre w (List.mem_cons_of_mem _ h), B.returns, B.notSynchronized⟩ ⟨hK, fun q h => Or.inr h, hN⟩ x1 x2 S s.heap [] ls ⟨hP, hD0.self, va_S.rf⟩ hl  h
def rmX_X9_room : Room := { frames := 0, cells := 0, slots := 0, locals := 0 }
set_option maxHeartbeats 4000000 in
set_option maxRecDepth 100000 in
theorem bX_X9_room {p : Program} {l : Launch} {e : Env} {s : State} {m : MethodId} {args : Array Value} {below : List Frame} {meth : Method} {c : Code} {D : va_G} {cI cS cW : ClassId} {q : Nat → Nat} {A : Nat → Prop} {res : Int32} (C : zCX p s m args meth c cX9_room 1 (some .int) zU RX9) (hE : zE D (zyX cI cS cW) znX A s) (S : zSt) (H : Heap) (locs : List Loc) (ls : Array Slot) (hH : zH D (zwX cI cS cW q) A s S H locs) (hl : lv_has ls 1 [(0, .ref (q 3))]) (h : fX_X9_room   S = some res) : W p l e rmX_X9_room s m args below meth c H locs 0 0 (zQi below D (zwX cI cS cW q) (zyX cI cS cW) A args s res S) (F0 m 0 ls []) := by
  have hx := C.1
  have hb := C.2.1
  unfold fX_X9_room at h
  refine lv_iconst (v := 4) hx hb dX9_room_0 (by decide) ?_
  refine lv_aload_n hx hb dX9_room_1 rfl (lv_at hl 0 rfl) ?_
  refine z_get C hE hH zX_o3 rfl zh_X9 7 (by decide) zk4_10 (fun _ h9 => h9) (v := .int (S.1 32)) rfl dX9_room_2 ?_
  refine lv_imul hx hb dX9_room_5 ?_
  cases h
  exact z_iret C hE hH dX9_room_6
set_option maxHeartbeats 4000000 in
set_option maxRecDepth 100000 in
theorem cX_X9_room (l : Launch) (D : va_G) (cI cS cW : ClassId) (q : Nat → Nat) (sz : Nat) (S : zSt) {res : Int32} (h : fX_X9_room  S = some res) : zMi l yX9_room vsX9_room rmX_X9_room [.ref (q 3)] D (zwX cI cS cW q) (zyX cI cS cW) znX sz S res S := by
  refine Met.ofW (cc := cX9_room) (maxL := 1) (ret := (some .int)) (by decide) rfl ?_
  intro p e s m args below meth c s₁ B hml hv
  obtain ⟨rfl, rfl, hP, hK, hD0, hN⟩ := hv
  have hl := lv_entry ([.ref (q 3)]) (n := 1) (Nat.le_of_ble_eq_true rfl)
  rw [lg_entry_eq]
  generalize (lg_sl ([.ref (q 3)]) ++ List.replicate (1 - (lg_sl ([.ref (q 3)])).length) Slot.unset).toArray = ls at hl ⊢
  exact bX_X9_room ⟨B.exec, B.bytes, hml, findClass_of_methodNamed B.named, fun w h => atoms_spec (ws := vsX9_room) B.pre w (List.mem_cons_of_mem _ h), B.returns, B.notSynchronized⟩ ⟨hK, fun q h => Or.inr h, hN⟩  S s.heap [] ls ⟨hP, hD0.self, va_S.rf⟩ hl  h
def rmX_X7_take_Tree : Room := { frames := 4, cells := 0, slots := 0, locals := 90 }
set_option maxHeartbeats 4000000 in
set_option maxRecDepth 100000 in
theorem bX_X7_take_Tree {p : Program} {l : Launch} {e : Env} {s : State} {m : MethodId} {args : Array Value} {below : List Frame} {meth : Method} {c : Code} {D : va_G} {cI cS cW : ClassId} {q : Nat → Nat} {A : Nat → Prop} {res : zSt} (C : zCX p s m args meth c cX7_take 3 none zU RX7) (hE : zE D (zyX cI cS cW) znX A s) (x1 x2 : Int32) (S : zSt) (H : Heap) (locs : List Loc) (ls : Array Slot) (hH : zH D (zwX cI cS cW q) A s S H locs) (hl : lv_has ls 3 [(0, .ref (q 3)), (1, .int x1), (2, .int x2)]) (h : fX_X7_take_Tree  x1 x2 S = some res) : W p l e rmX_X7_take_Tree s m args below meth c H locs 0 0 (zQv below D (zwX cI cS cW q) (zyX cI cS cW) A args s res) (F0 m 0 ls []) := by
  have hx := C.1
  have hb := C.2.1
  unfold fX_X7_take_Tree at h
  refine lv_aload_n hx hb dX7_take_0 rfl (lv_at hl 0 rfl) ?_
  refine z_get C hE hH zX_o3 rfl zh_X9 3 (by decide) zk3_18 (fun _ h9 => h9) (v := .int (S.1 15)) rfl dX7_take_1 ?_
  refine lv_sipush (v := 200) hx hb dX7_take_4 (by decide) ?_
  refine lv_icmp_ge (tgt := 48) hx hb dX7_take_7 (by decide) (fun c1 => ?_) (fun c1 => ?_)
  · replace h := zif_t c1 h
    cases h
    exact z_vret C hE hH dX7_take_48
  · replace h := zif_f c1 h
    refine lv_aload_n hx hb dX7_take_10 rfl (lv_at hl 0 rfl) ?_
    refine z_get C hE hH zX_o3 rfl zh_X9 1 (by decide) zk3_16 (fun _ h9 => h9) (v := .ref (q 13)) rfl dX7_take_11 ?_
    refine lv_aload_n hx hb dX7_take_14 rfl (lv_at hl 0 rfl) ?_
    refine z_get C hE hH zX_o3 rfl zh_X9 3 (by decide) zk3_18 (fun _ h9 => h9) (v := .int (S.1 15)) rfl dX7_take_15 ?_
    refine lv_aload_n hx hb dX7_take_18 rfl (lv_at hl 0 rfl) ?_
    refine lv_iload_n hx hb dX7_take_19 rfl (lv_at hl 1 rfl) ?_
    refine lv_iload_n hx hb dX7_take_20 rfl (lv_at hl 2 rfl) ?_
    obtain ⟨u2, e3, h⟩ := zbd_s h
    refine z_calli (va_runU (As := [.int x1, .int x2]) (rest := [.int (S.1 15), .ref (q 13)]) (z_fix C) (cX_X9_step l D cI cS cW q H.size  x1 x2 S e3) (va_cwA 2 C.2.2.2.2.1 (zGU (x := ⟨"WhichShelf$Shelf", "step", "(II)I"⟩) (owner := "WhichShelf$Shelf") zk8_4 zk8_5 zk15_11 zk15_12 zk2_2 zk15_13) rfl rfl rfl ((hE.2.2 _ znX_2).2) ydu_X7_step ⟨Nat.le_of_ble_eq_true rfl, Nat.le_of_ble_eq_true rfl⟩) (z_preV (zNmX hE) hE hH zX_o3 rfl) rfl rfl hl.1 rfl (lv_room (Nat.le_of_ble_eq_true rfl)) dX7_take_21 ⟨Nat.le_refl 0, Nat.le_refl 0⟩) hE hH (fun H locs hH => ?_)
    obtain ⟨g4, h⟩ := zgd_s h
    refine z_iast C hE hH zX_a13 (t0 := 0) rfl g4 zX_r13 dX7_take_24 (fun H locs hH => ?_)
    refine lv_aload_n hx hb dX7_take_25 rfl (lv_at hl 0 rfl) ?_
    refine z_get C hE hH zX_o3 rfl zh_X9 2 (by decide) zk3_17 (fun _ h9 => h9) (v := .ref (q 19)) rfl dX7_take_26 ?_
    refine lv_aload_n hx hb dX7_take_29 rfl (lv_at hl 0 rfl) ?_
    refine z_get C hE hH zX_o3 rfl zh_X9 3 (by decide) zk3_18 (fun _ h9 => h9) (v := .int (u2.2.1 15)) rfl dX7_take_30 ?_
    refine lv_aload_n hx hb dX7_take_33 rfl (lv_at hl 0 rfl) ?_
    obtain ⟨u5, e6, h⟩ := zbd_s h
    refine z_calli (va_runU (As := []) (rest := [.int (u2.2.1 15), .ref (q 19)]) (z_fix C) (cX_X9_room l D cI cS cW q H.size   (zsR u2.2 13 (S.1 15).toNatClampNeg u2.1) e6) (va_cwA 0 C.2.2.2.2.1 (zGU (x := ⟨"WhichShelf$Shelf", "room", "()I"⟩) (owner := "WhichShelf$Shelf") zk16_16 zk16_17 zk17_5 zk17_6 zk2_2 zk17_7) rfl rfl rfl ((hE.2.2 _ znX_3).2) ydu_X7_room ⟨Nat.le_of_ble_eq_true rfl, Nat.le_of_ble_eq_true rfl⟩) (z_preV (zNmX hE) hE hH zX_o3 rfl) rfl rfl hl.1 rfl (lv_room (Nat.le_of_ble_eq_true rfl)) dX7_take_34 ⟨Nat.le_refl 0, Nat.le_refl 0⟩) hE hH (fun H locs hH => ?_)
    obtain ⟨g7, h⟩ := zgd_s h
    refine z_iast C hE hH zX_a19 (t0 := 0) rfl g7 zX_r19 dX7_take_37 (fun H locs hH => ?_)
    refine lv_aload_n hx hb dX7_take_38 rfl (lv_at hl 0 rfl) ?_
    refine lv_dup hx hb dX7_take_39 rfl ?_
    refine z_get C hE hH zX_o3 rfl zh_X9 3 (by decide) zk3_18 (fun _ h9 => h9) (v := .int (u2.2.1 15)) rfl dX7_take_40 ?_
    refine lv_iconst (v := 1) hx hb dX7_take_43 (by decide) ?_
    refine lv_iadd hx hb dX7_take_44 ?_
    refine z_put C hE hH zX_o3 rfl zh_X9 tyX9_ok nmX9 3 (by decide) zk3_18 (fun _ h9 => h9) rfl (ty := .int) rfl rfl rfl (Nat.le_of_ble_eq_true rfl) zX_i15 dX7_take_45 (fun H locs hH => ?_)
    cases h
    exact z_vret C hE hH dX7_take_48
set_option maxHeartbeats 4000000 in
set_option maxRecDepth 100000 in
theorem cX_X7_take_Tree (l : Launch) (D : va_G) (cI cS cW : ClassId) (q : Nat → Nat) (sz : Nat) (x1 : Int32) (x2 : Int32) (S : zSt) {res : zSt} (h : fX_X7_take_Tree x1 x2 S = some res) : zMv l yX7_take vsX7_take rmX_X7_take_Tree [.ref (q 3), .int x1, .int x2] D (zwX cI cS cW q) (zyX cI cS cW) znX sz S res := by
  refine Met.ofW (cc := cX7_take) (maxL := 3) (ret := none) (by decide) rfl ?_
  intro p e s m args below meth c s₁ B hml hv
  obtain ⟨rfl, rfl, hP, hK, hD0, hN⟩ := hv
  have hl := lv_entry ([.ref (q 3), .int x1, .int x2]) (n := 3) (Nat.le_of_ble_eq_true rfl)
  rw [lg_entry_eq]
  generalize (lg_sl ([.ref (q 3), .int x1, .int x2]) ++ List.replicate (3 - (lg_sl ([.ref (q 3), .int x1, .int x2])).length) Slot.unset).toArray = ls at hl ⊢
  exact bX_X7_take_Tree ⟨B.exec, B.bytes, hml, findClass_of_methodNamed B.named, fun w h => atoms_spec (ws := vsX7_take) B.pre w (List.mem_cons_of_mem _ h), B.returns, B.notSynchronized⟩ ⟨hK, fun q h => Or.inr h, hN⟩ x1 x2 S s.heap [] ls ⟨hP, hD0.self, va_S.rf⟩ hl  h
def rmX_X4_growIfFull_Heap : Room := { frames := 0, cells := 0, slots := 0, locals := 0 }
set_option maxHeartbeats 4000000 in
set_option maxRecDepth 100000 in
theorem bX_X4_growIfFull_Heap {p : Program} {l : Launch} {e : Env} {s : State} {m : MethodId} {args : Array Value} {below : List Frame} {meth : Method} {c : Code} {D : va_G} {cI cS cW : ClassId} {q : Nat → Nat} {A : Nat → Prop} {res : Int32 × zSt} (C : zCX p s m args meth c cX4_growIfFull 1 (some .int) zU RX4) (hE : zE D (zyX cI cS cW) znX A s) (S : zSt) (H : Heap) (locs : List Loc) (ls : Array Slot) (hH : zH D (zwX cI cS cW q) A s S H locs) (hl : lv_has ls 1 [(0, .ref (q 4))]) (h : fX_X4_growIfFull_Heap   S = some res) : W p l e rmX_X4_growIfFull_Heap s m args below meth c H locs 0 0 (zQi below D (zwX cI cS cW q) (zyX cI cS cW) A args s res.1 res.2) (F0 m 0 ls []) := by
  have hx := C.1
  have hb := C.2.1
  unfold fX_X4_growIfFull_Heap at h
  refine lv_aload_n hx hb dX4_growIfFull_0 rfl (lv_at hl 0 rfl) ?_
  refine z_get C hE hH zX_o4 rfl zh_X3 3 (by decide) zk3_9 (fun _ h9 => h9) (v := .int (S.1 30)) rfl dX4_growIfFull_1 ?_
  refine lv_aload_n hx hb dX4_growIfFull_4 rfl (lv_at hl 0 rfl) ?_
  refine z_get C hE hH zX_o4 rfl zh_X3 2 (by decide) zk3_11 (fun _ h9 => h9) (v := .int (S.1 29)) rfl dX4_growIfFull_5 ?_
  refine lv_icmp_eq (tgt := 13) hx hb dX4_growIfFull_8 (by decide) (fun c1 => ?_) (fun c1 => ?_)
  · replace h := zif_t c1 h
    refine lv_aload_n hx hb dX4_growIfFull_13 rfl (lv_at hl 0 rfl) ?_
    refine lv_dup hx hb dX4_growIfFull_14 rfl ?_
    refine z_get C hE hH zX_o4 rfl zh_X3 2 (by decide) zk3_11 (fun _ h9 => h9) (v := .int (S.1 29)) rfl dX4_growIfFull_15 ?_
    refine lv_iconst (v := 2) hx hb dX4_growIfFull_18 (by decide) ?_
    refine lv_imul hx hb dX4_growIfFull_19 ?_
    refine z_put C hE hH zX_o4 rfl zh_X3 tyX3_ok nmX3 2 (by decide) zk3_11 (fun _ h9 => h9) rfl (ty := .int) rfl rfl rfl (Nat.le_of_ble_eq_true rfl) zX_i29 dX4_growIfFull_20 (fun H locs hH => ?_)
    refine lv_aload_n hx hb dX4_growIfFull_23 rfl (lv_at hl 0 rfl) ?_
    refine z_get C hE hH zX_o4 rfl zh_X3 3 (by decide) zk3_9 (fun _ h9 => h9) (v := .int (S.1 30)) rfl dX4_growIfFull_24 ?_
    cases h
    exact z_iret C hE hH dX4_growIfFull_27
  · replace h := zif_f c1 h
    refine lv_iconst (v := 0) hx hb dX4_growIfFull_11 (by decide) ?_
    cases h
    exact z_iret C hE hH dX4_growIfFull_12
set_option maxHeartbeats 4000000 in
set_option maxRecDepth 100000 in
theorem cX_X4_growIfFull_Heap (l : Launch) (D : va_G) (cI cS cW : ClassId) (q : Nat → Nat) (sz : Nat) (S : zSt) {res : Int32 × zSt} (h : fX_X4_growIfFull_Heap  S = some res) : zMi l yX4_growIfFull vsX4_growIfFull rmX_X4_growIfFull_Heap [.ref (q 4)] D (zwX cI cS cW q) (zyX cI cS cW) znX sz S res.1 res.2 := by
  refine Met.ofW (cc := cX4_growIfFull) (maxL := 1) (ret := (some .int)) (by decide) rfl ?_
  intro p e s m args below meth c s₁ B hml hv
  obtain ⟨rfl, rfl, hP, hK, hD0, hN⟩ := hv
  have hl := lv_entry ([.ref (q 4)]) (n := 1) (Nat.le_of_ble_eq_true rfl)
  rw [lg_entry_eq]
  generalize (lg_sl ([.ref (q 4)]) ++ List.replicate (1 - (lg_sl ([.ref (q 4)])).length) Slot.unset).toArray = ls at hl ⊢
  exact bX_X4_growIfFull_Heap ⟨B.exec, B.bytes, hml, findClass_of_methodNamed B.named, fun w h => atoms_spec (ws := vsX4_growIfFull) B.pre w (List.mem_cons_of_mem _ h), B.returns, B.notSynchronized⟩ ⟨hK, fun q h => Or.inr h, hN⟩  S s.heap [] ls ⟨hP, hD0.self, va_S.rf⟩ hl  h
def rmX_X4_insert_Heap : Room := { frames := 1, cells := 0, slots := 0, locals := 30 }
set_option maxHeartbeats 4000000 in
set_option maxRecDepth 100000 in
theorem bX_X4_insert_Heap {p : Program} {l : Launch} {e : Env} {s : State} {m : MethodId} {args : Array Value} {below : List Frame} {meth : Method} {c : Code} {D : va_G} {cI cS cW : ClassId} {q : Nat → Nat} {A : Nat → Prop} {res : zSt} (C : zCX p s m args meth c cX4_insert 3 none zU RX4) (hE : zE D (zyX cI cS cW) znX A s) (x1 x2 : Int32) (S : zSt) (H : Heap) (locs : List Loc) (ls : Array Slot) (hH : zH D (zwX cI cS cW q) A s S H locs) (hl : lv_has ls 3 [(0, .ref (q 4)), (1, .int x1), (2, .int x2)]) (h : fX_X4_insert_Heap  x1 x2 S = some res) : W p l e rmX_X4_insert_Heap s m args below meth c H locs 0 0 (zQv below D (zwX cI cS cW q) (zyX cI cS cW) A args s res) (F0 m 0 ls []) := by
  have hx := C.1
  have hb := C.2.1
  unfold fX_X4_insert_Heap at h
  refine lv_iload_n hx hb dX4_insert_0 rfl (lv_at hl 1 rfl) ?_
  refine lv_if_lt (tgt := 60) hx hb dX4_insert_1 (by decide) (fun c1 => ?_) (fun c1 => ?_)
  · replace h := zif_t c1 h
    cases h
    exact z_vret C hE hH dX4_insert_60
  · replace h := zif_f c1 h
    refine lv_iload_n hx hb dX4_insert_4 rfl (lv_at hl 1 rfl) ?_
    refine lv_aload_n hx hb dX4_insert_5 rfl (lv_at hl 0 rfl) ?_
    refine z_get C hE hH zX_o4 rfl zh_X3 3 (by decide) zk3_9 (fun _ h9 => h9) (v := .int (S.1 30)) rfl dX4_insert_6 ?_
    refine lv_icmp_gt (tgt := 60) hx hb dX4_insert_9 (by decide) (fun c2 => ?_) (fun c2 => ?_)
    · replace h := zif_t c2 h
      cases h
      exact z_vret C hE hH dX4_insert_60
    · replace h := zif_f c2 h
      refine lv_aload_n hx hb dX4_insert_12 rfl (lv_at hl 0 rfl) ?_
      refine z_get C hE hH zX_o4 rfl zh_X3 3 (by decide) zk3_9 (fun _ h9 => h9) (v := .int (S.1 30)) rfl dX4_insert_13 ?_
      refine lv_sipush (v := 200) hx hb dX4_insert_16 (by decide) ?_
      refine lv_icmp_ge (tgt := 60) hx hb dX4_insert_19 (by decide) (fun c3 => ?_) (fun c3 => ?_)
      · replace h := zif_t c3 h
        cases h
        exact z_vret C hE hH dX4_insert_60
      · replace h := zif_f c3 h
        refine lv_aload_n hx hb dX4_insert_22 rfl (lv_at hl 0 rfl) ?_
        refine z_get C hE hH zX_o4 rfl zh_X3 0 (by decide) zk3_8 (fun _ h9 => h9) (v := .ref (q 36)) rfl dX4_insert_23 ?_
        refine lv_iload_n hx hb dX4_insert_26 rfl (lv_at hl 1 rfl) ?_
        refine lv_aload_n hx hb dX4_insert_27 rfl (lv_at hl 0 rfl) ?_
        refine z_get C hE hH zX_o4 rfl zh_X3 0 (by decide) zk3_8 (fun _ h9 => h9) (v := .ref (q 36)) rfl dX4_insert_28 ?_
        refine lv_iload_n hx hb dX4_insert_31 rfl (lv_at hl 1 rfl) ?_
        refine lv_iconst (v := 1) hx hb dX4_insert_32 (by decide) ?_
        refine lv_iadd hx hb dX4_insert_33 ?_
        refine lv_aload_n hx hb dX4_insert_34 rfl (lv_at hl 0 rfl) ?_
        refine z_get C hE hH zX_o4 rfl zh_X3 3 (by decide) zk3_9 (fun _ h9 => h9) (v := .int (S.1 30)) rfl dX4_insert_35 ?_
        refine lv_iload_n hx hb dX4_insert_38 rfl (lv_at hl 1 rfl) ?_
        refine lv_isub hx hb dX4_insert_39 ?_
        obtain ⟨g4, h⟩ := zgd_s h
        refine z_copyi C hE hH hl.1 zk10_5 zk9_9 zk9_10 zk9_11 zX_a36 zX_a36 (t0 := 0) rfl g4 zX_c36 (Nat.le_of_ble_eq_true rfl) (by decide) dX4_insert_40 (fun H locs hH => ?_)
        refine lv_aload_n hx hb dX4_insert_43 rfl (lv_at hl 0 rfl) ?_
        refine z_get C hE hH zX_o4 rfl zh_X3 0 (by decide) zk3_8 (fun _ h9 => h9) (v := .ref (q 36)) rfl dX4_insert_44 ?_
        refine lv_iload_n hx hb dX4_insert_47 rfl (lv_at hl 1 rfl) ?_
        refine lv_iload_n hx hb dX4_insert_48 rfl (lv_at hl 2 rfl) ?_
        obtain ⟨g5, h⟩ := zgd_s h
        refine z_iast C hE hH zX_a36 (t0 := 0) rfl g5 zX_r36 dX4_insert_49 (fun H locs hH => ?_)
        refine lv_aload_n hx hb dX4_insert_50 rfl (lv_at hl 0 rfl) ?_
        refine lv_dup hx hb dX4_insert_51 rfl ?_
        refine z_get C hE hH zX_o4 rfl zh_X3 3 (by decide) zk3_9 (fun _ h9 => h9) (v := .int (S.1 30)) rfl dX4_insert_52 ?_
        refine lv_iconst (v := 1) hx hb dX4_insert_55 (by decide) ?_
        refine lv_iadd hx hb dX4_insert_56 ?_
        refine z_put C hE hH zX_o4 rfl zh_X3 tyX3_ok nmX3 3 (by decide) zk3_9 (fun _ h9 => h9) rfl (ty := .int) rfl rfl rfl (Nat.le_of_ble_eq_true rfl) zX_i30 dX4_insert_57 (fun H locs hH => ?_)
        cases h
        exact z_vret C hE hH dX4_insert_60
set_option maxHeartbeats 4000000 in
set_option maxRecDepth 100000 in
theorem cX_X4_insert_Heap (l : Launch) (D : va_G) (cI cS cW : ClassId) (q : Nat → Nat) (sz : Nat) (x1 : Int32) (x2 : Int32) (S : zSt) {res : zSt} (h : fX_X4_insert_Heap x1 x2 S = some res) : zMv l yX4_insert vsX4_insert rmX_X4_insert_Heap [.ref (q 4), .int x1, .int x2] D (zwX cI cS cW q) (zyX cI cS cW) znX sz S res := by
  refine Met.ofW (cc := cX4_insert) (maxL := 3) (ret := none) (by decide) rfl ?_
  intro p e s m args below meth c s₁ B hml hv
  obtain ⟨rfl, rfl, hP, hK, hD0, hN⟩ := hv
  have hl := lv_entry ([.ref (q 4), .int x1, .int x2]) (n := 3) (Nat.le_of_ble_eq_true rfl)
  rw [lg_entry_eq]
  generalize (lg_sl ([.ref (q 4), .int x1, .int x2]) ++ List.replicate (3 - (lg_sl ([.ref (q 4), .int x1, .int x2])).length) Slot.unset).toArray = ls at hl ⊢
  exact bX_X4_insert_Heap ⟨B.exec, B.bytes, hml, findClass_of_methodNamed B.named, fun w h => atoms_spec (ws := vsX4_insert) B.pre w (List.mem_cons_of_mem _ h), B.returns, B.notSynchronized⟩ ⟨hK, fun q h => Or.inr h, hN⟩ x1 x2 S s.heap [] ls ⟨hP, hD0.self, va_S.rf⟩ hl  h
def rmX_X4_append_Heap : Room := { frames := 2, cells := 0, slots := 0, locals := 52 }
set_option maxHeartbeats 4000000 in
set_option maxRecDepth 100000 in
theorem bX_X4_append_Heap {p : Program} {l : Launch} {e : Env} {s : State} {m : MethodId} {args : Array Value} {below : List Frame} {meth : Method} {c : Code} {D : va_G} {cI cS cW : ClassId} {q : Nat → Nat} {A : Nat → Prop} {res : Int32 × zSt} (C : zCX p s m args meth c cX4_append 3 (some .int) zU RX4) (hE : zE D (zyX cI cS cW) znX A s) (x1 : Int32) (S : zSt) (H : Heap) (locs : List Loc) (ls : Array Slot) (hH : zH D (zwX cI cS cW q) A s S H locs) (hl : lv_has ls 3 [(0, .ref (q 4)), (1, .int x1)]) (h : fX_X4_append_Heap  x1 S = some res) : W p l e rmX_X4_append_Heap s m args below meth c H locs 0 0 (zQi below D (zwX cI cS cW q) (zyX cI cS cW) A args s res.1 res.2) (F0 m 0 ls []) := by
  have hx := C.1
  have hb := C.2.1
  unfold fX_X4_append_Heap at h
  refine lv_aload_n hx hb dX4_append_0 rfl (lv_at hl 0 rfl) ?_
  obtain ⟨u1, e2, h⟩ := zbd_s h
  refine z_calli (va_runU (As := []) (rest := []) (z_fix C) (cX_X4_growIfFull_Heap l D cI cS cW q H.size   S e2) (va_cwU 0 C.2.2.2.2.1 (zGU (x := ⟨"WhichShelf$Lined", "growIfFull", "()I"⟩) (owner := "WhichShelf$Lined") zk11_8 zk11_9 zk11_13 zk11_11 zk3_6 zk11_12) rfl rfl rfl rfl ydu_X4_growIfFull ⟨Nat.le_of_ble_eq_true rfl, Nat.le_of_ble_eq_true rfl⟩) (z_preV (zNmX hE) hE hH zX_o4 rfl) rfl rfl hl.1 rfl (lv_room (Nat.le_of_ble_eq_true rfl)) dX4_append_1 ⟨Nat.le_refl 0, Nat.le_refl 0⟩) hE hH (fun H locs hH => ?_)
  refine lv_istore_n (lv' := [(2, .int u1.1), (0, .ref (q 4)), (1, .int x1)]) hx hb dX4_append_4 rfl hl (by decide) rfl (fun ls hl => ?_)
  refine lv_aload_n hx hb dX4_append_5 rfl (lv_at hl 1 rfl) ?_
  refine lv_aload_n hx hb dX4_append_6 rfl (lv_at hl 1 rfl) ?_
  refine z_get C hE hH zX_o4 rfl zh_X3 3 (by decide) zk3_9 (fun _ h9 => h9) (v := .int (u1.2.1 30)) rfl dX4_append_7 ?_
  refine lv_iload_n hx hb dX4_append_10 rfl (lv_at hl 2 rfl) ?_
  obtain ⟨u3, e4, h⟩ := zbd_s h
  refine z_callv (va_runU (As := [.int (u1.2.1 30), .int x1]) (rest := []) (z_fix C) (cX_X4_insert_Heap l D cI cS cW q H.size  (u1.2.1 30) x1 u1.2 e4) (va_cwU 2 C.2.2.2.2.1 (zGU (x := ⟨"WhichShelf$Lined", "insert", "(II)V"⟩) (owner := "WhichShelf$Lined") zk11_16 zk11_17 zk11_19 zk10_3 zk3_6 zk10_4) rfl rfl rfl rfl ydu_X4_insert ⟨Nat.le_of_ble_eq_true rfl, Nat.le_of_ble_eq_true rfl⟩) (z_preV (zNmX hE) hE hH zX_o4 rfl) rfl rfl hl.1 rfl (lv_room (Nat.le_of_ble_eq_true rfl)) dX4_append_11 ⟨Nat.le_refl 0, Nat.le_refl 0⟩) hE hH (fun H locs hH => ?_)
  refine lv_iload_n hx hb dX4_append_14 rfl (lv_at hl 0 rfl) ?_
  refine lv_iconst (v := 1) hx hb dX4_append_15 (by decide) ?_
  refine lv_iadd hx hb dX4_append_16 ?_
  cases h
  exact z_iret C hE hH dX4_append_17
set_option maxHeartbeats 4000000 in
set_option maxRecDepth 100000 in
theorem cX_X4_append_Heap (l : Launch) (D : va_G) (cI cS cW : ClassId) (q : Nat → Nat) (sz : Nat) (x1 : Int32) (S : zSt) {res : Int32 × zSt} (h : fX_X4_append_Heap x1 S = some res) : zMi l yX4_append vsX4_append rmX_X4_append_Heap [.ref (q 4), .int x1] D (zwX cI cS cW q) (zyX cI cS cW) znX sz S res.1 res.2 := by
  refine Met.ofW (cc := cX4_append) (maxL := 3) (ret := (some .int)) (by decide) rfl ?_
  intro p e s m args below meth c s₁ B hml hv
  obtain ⟨rfl, rfl, hP, hK, hD0, hN⟩ := hv
  have hl := lv_entry ([.ref (q 4), .int x1]) (n := 3) (Nat.le_of_ble_eq_true rfl)
  rw [lg_entry_eq]
  generalize (lg_sl ([.ref (q 4), .int x1]) ++ List.replicate (3 - (lg_sl ([.ref (q 4), .int x1])).length) Slot.unset).toArray = ls at hl ⊢
  exact bX_X4_append_Heap ⟨B.exec, B.bytes, hml, findClass_of_methodNamed B.named, fun w h => atoms_spec (ws := vsX4_append) B.pre w (List.mem_cons_of_mem _ h), B.returns, B.notSynchronized⟩ ⟨hK, fun q h => Or.inr h, hN⟩ x1 S s.heap [] ls ⟨hP, hD0.self, va_S.rf⟩ hl  h
def rmX_X3_swap : Room := { frames := 0, cells := 0, slots := 0, locals := 0 }
set_option maxHeartbeats 4000000 in
set_option maxRecDepth 100000 in
theorem bX_X3_swap {p : Program} {l : Launch} {e : Env} {s : State} {m : MethodId} {args : Array Value} {below : List Frame} {meth : Method} {c : Code} {D : va_G} {cI cS cW : ClassId} {q : Nat → Nat} {A : Nat → Prop} {res : zSt} (C : zCX p s m args meth c cX3_swap 4 none zU RX3) (hE : zE D (zyX cI cS cW) znX A s) (x1 x2 : Int32) (S : zSt) (H : Heap) (locs : List Loc) (ls : Array Slot) (hH : zH D (zwX cI cS cW q) A s S H locs) (hl : lv_has ls 4 [(0, .ref (q 4)), (1, .int x1), (2, .int x2)]) (h : fX_X3_swap  x1 x2 S = some res) : W p l e rmX_X3_swap s m args below meth c H locs 0 0 (zQv below D (zwX cI cS cW q) (zyX cI cS cW) A args s res) (F0 m 0 ls []) := by
  have hx := C.1
  have hb := C.2.1
  unfold fX_X3_swap at h
  refine lv_aload_n hx hb dX3_swap_0 rfl (lv_at hl 0 rfl) ?_
  refine z_get C hE hH zX_o4 rfl zh_X3 0 (by decide) zk12_2 (u_same (C.2.2.2.2.1 _ zk12_3)) (v := .ref (q 36)) rfl dX3_swap_1 ?_
  refine lv_iload_n hx hb dX3_swap_4 rfl (lv_at hl 1 rfl) ?_
  obtain ⟨g1, h⟩ := zgd_s h
  refine z_iald C hE hH zX_a36 (t0 := 0) rfl g1 dX3_swap_5 ?_
  refine lv_istore_n (lv' := [(3, .int (S.2 36 x1.toNatClampNeg)), (0, .ref (q 4)), (1, .int x1), (2, .int x2)]) hx hb dX3_swap_6 rfl hl (by decide) rfl (fun ls hl => ?_)
  refine lv_aload_n hx hb dX3_swap_7 rfl (lv_at hl 1 rfl) ?_
  refine z_get C hE hH zX_o4 rfl zh_X3 0 (by decide) zk12_2 (u_same (C.2.2.2.2.1 _ zk12_3)) (v := .ref (q 36)) rfl dX3_swap_8 ?_
  refine lv_iload_n hx hb dX3_swap_11 rfl (lv_at hl 2 rfl) ?_
  refine lv_aload_n hx hb dX3_swap_12 rfl (lv_at hl 1 rfl) ?_
  refine z_get C hE hH zX_o4 rfl zh_X3 0 (by decide) zk12_2 (u_same (C.2.2.2.2.1 _ zk12_3)) (v := .ref (q 36)) rfl dX3_swap_13 ?_
  refine lv_iload_n hx hb dX3_swap_16 rfl (lv_at hl 3 rfl) ?_
  obtain ⟨g2, h⟩ := zgd_s h
  refine z_iald C hE hH zX_a36 (t0 := 0) rfl g2 dX3_swap_17 ?_
  obtain ⟨g3, h⟩ := zgd_s h
  refine z_iast C hE hH zX_a36 (t0 := 0) rfl g3 zX_r36 dX3_swap_18 (fun H locs hH => ?_)
  refine lv_aload_n hx hb dX3_swap_19 rfl (lv_at hl 1 rfl) ?_
  refine z_get C hE hH zX_o4 rfl zh_X3 0 (by decide) zk12_2 (u_same (C.2.2.2.2.1 _ zk12_3)) (v := .ref (q 36)) rfl dX3_swap_20 ?_
  refine lv_iload_n hx hb dX3_swap_23 rfl (lv_at hl 3 rfl) ?_
  refine lv_iload_n hx hb dX3_swap_24 rfl (lv_at hl 0 rfl) ?_
  obtain ⟨g4, h⟩ := zgd_s h
  refine z_iast C hE hH zX_a36 (t0 := 0) rfl g4 zX_r36 dX3_swap_25 (fun H locs hH => ?_)
  cases h
  exact z_vret C hE hH dX3_swap_26
set_option maxHeartbeats 4000000 in
set_option maxRecDepth 100000 in
theorem cX_X3_swap (l : Launch) (D : va_G) (cI cS cW : ClassId) (q : Nat → Nat) (sz : Nat) (x1 : Int32) (x2 : Int32) (S : zSt) {res : zSt} (h : fX_X3_swap x1 x2 S = some res) : zMv l yX3_swap vsX3_swap rmX_X3_swap [.ref (q 4), .int x1, .int x2] D (zwX cI cS cW q) (zyX cI cS cW) znX sz S res := by
  refine Met.ofW (cc := cX3_swap) (maxL := 4) (ret := none) (by decide) rfl ?_
  intro p e s m args below meth c s₁ B hml hv
  obtain ⟨rfl, rfl, hP, hK, hD0, hN⟩ := hv
  have hl := lv_entry ([.ref (q 4), .int x1, .int x2]) (n := 4) (Nat.le_of_ble_eq_true rfl)
  rw [lg_entry_eq]
  generalize (lg_sl ([.ref (q 4), .int x1, .int x2]) ++ List.replicate (4 - (lg_sl ([.ref (q 4), .int x1, .int x2])).length) Slot.unset).toArray = ls at hl ⊢
  exact bX_X3_swap ⟨B.exec, B.bytes, hml, findClass_of_methodNamed B.named, fun w h => atoms_spec (ws := vsX3_swap) B.pre w (List.mem_cons_of_mem _ h), B.returns, B.notSynchronized⟩ ⟨hK, fun q h => Or.inr h, hN⟩ x1 x2 S s.heap [] ls ⟨hP, hD0.self, va_S.rf⟩ hl  h
def rmX_X3_rise : Room := { frames := 1, cells := 0, slots := 0, locals := 23 }
set_option maxHeartbeats 4000000 in
set_option maxRecDepth 100000 in
theorem bX_X3_rise_4 {p : Program} {l : Launch} {e : Env} {s : State} {m : MethodId} {args : Array Value} {below : List Frame} {meth : Method} {c : Code} {D : va_G} {cI cS cW : ClassId} {q : Nat → Nat} {A : Nat → Prop} {res : Int32 × zSt} (C : zCX p s m args meth c cX3_rise 5 (some .int) zU RX3) (hE : zE D (zyX cI cS cW) znX A s) : ∀ (n : Nat) (x2 x3 : Int32) (S : zSt) (H : Heap) (locs : List Loc) (ls : Array Slot), zH D (zwX cI cS cW q) A s S H locs → lv_has ls 5 [(0, .ref (q 4)), (2, .int x2), (3, .int x3)] → fX_X3_rise_4  n x2 x3 S = some res → W p l e rmX_X3_rise s m args below meth c H locs 0 0 (zQi below D (zwX cI cS cW q) (zyX cI cS cW) A args s res.1 res.2) (F0 m 4 ls []) := by
  have hx := C.1
  have hb := C.2.1
  intro n
  induction n with
  | zero =>
    intro x2 x3 S H locs ls hH hl  h
    cases h
  | succ n hK4 =>
    intro x2 x3 S H locs ls hH hl  h
    rw [fX_X3_rise_4] at h
    refine lv_iload_n hx hb dX3_rise_4 rfl (lv_at hl 1 rfl) ?_
    refine lv_if_le (tgt := 50) hx hb dX3_rise_5 (by decide) (fun c1 => ?_) (fun c1 => ?_)
    · replace h := zif_t c1 h
      refine lv_iload_n hx hb dX3_rise_50 rfl (lv_at hl 2 rfl) ?_
      cases h
      exact z_iret C hE hH dX3_rise_51
    · replace h := zif_f c1 h
      refine lv_aload_n hx hb dX3_rise_8 rfl (lv_at hl 0 rfl) ?_
      refine z_get C hE hH zX_o4 rfl zh_X3 0 (by decide) zk12_2 (u_same (C.2.2.2.2.1 _ zk12_3)) (v := .ref (q 36)) rfl dX3_rise_9 ?_
      refine lv_iload_n hx hb dX3_rise_12 rfl (lv_at hl 1 rfl) ?_
      refine lv_iconst (v := 1) hx hb dX3_rise_13 (by decide) ?_
      refine lv_isub hx hb dX3_rise_14 ?_
      refine lv_iconst (v := 2) hx hb dX3_rise_15 (by decide) ?_
      refine lv_idiv hx hb dX3_rise_16 (by decide) ?_
      obtain ⟨g2, h⟩ := zgd_s h
      refine z_iald C hE hH zX_a36 (t0 := 0) rfl g2 dX3_rise_17 ?_
      refine lv_aload_n hx hb dX3_rise_18 rfl (lv_at hl 0 rfl) ?_
      refine z_get C hE hH zX_o4 rfl zh_X3 0 (by decide) zk12_2 (u_same (C.2.2.2.2.1 _ zk12_3)) (v := .ref (q 36)) rfl dX3_rise_19 ?_
      refine lv_iload_n hx hb dX3_rise_22 rfl (lv_at hl 1 rfl) ?_
      obtain ⟨g3, h⟩ := zgd_s h
      refine z_iald C hE hH zX_a36 (t0 := 0) rfl g3 dX3_rise_23 ?_
      refine lv_icmp_le (tgt := 50) hx hb dX3_rise_24 (by decide) (fun c4 => ?_) (fun c4 => ?_)
      · replace h := zif_t c4 h
        refine lv_iload_n hx hb dX3_rise_50 rfl (lv_at hl 2 rfl) ?_
        cases h
        exact z_iret C hE hH dX3_rise_51
      · replace h := zif_f c4 h
        refine lv_iload_n hx hb dX3_rise_27 rfl (lv_at hl 1 rfl) ?_
        refine lv_iconst (v := 1) hx hb dX3_rise_28 (by decide) ?_
        refine lv_isub hx hb dX3_rise_29 ?_
        refine lv_iconst (v := 2) hx hb dX3_rise_30 (by decide) ?_
        refine lv_idiv hx hb dX3_rise_31 (by decide) ?_
        refine lv_istore (lv' := [(4, .int ((x2 - 1) / 2)), (0, .ref (q 4)), (2, .int x2), (3, .int x3)]) hx hb dX3_rise_32 hl (by decide) rfl (fun ls hl => ?_)
        refine lv_aload_n hx hb dX3_rise_34 rfl (lv_at hl 1 rfl) ?_
        refine lv_iload_n hx hb dX3_rise_35 rfl (lv_at hl 2 rfl) ?_
        refine lv_iload hx hb dX3_rise_36 (lv_at hl 0 rfl) ?_
        obtain ⟨u5, e6, h⟩ := zbd_s h
        refine z_callv (va_runV (As := [.int x2, .int ((x2 - 1) / 2)]) (rest := []) (z_fix C) (cX_X3_swap l D cI cS cW q H.size  x2 ((x2 - 1) / 2) S e6) (cwV 2 C.2.2.2.2.1 (zGV zk12_4 zk12_5 zk12_6 zk2_5 zk12_7) rfl rfl rfl yd_X3_swap ⟨Nat.le_of_ble_eq_true rfl, Nat.le_of_ble_eq_true rfl⟩) (z_preV (zNmX hE) hE hH zX_o4 rfl) rfl rfl hl.1 rfl (lv_room (Nat.le_of_ble_eq_true rfl)) dX3_rise_38 ⟨Nat.le_refl 0, Nat.le_refl 0⟩) hE hH (fun H locs hH => ?_)
        refine lv_iload hx hb dX3_rise_41 (lv_at hl 0 rfl) ?_
        refine lv_istore_n (lv' := [(2, .int ((x2 - 1) / 2)), (4, .int ((x2 - 1) / 2)), (0, .ref (q 4)), (3, .int x3)]) hx hb dX3_rise_43 rfl hl (by decide) rfl (fun ls hl => ?_)
        refine lv_iinc (v := (x3 + 1)) (lv' := [(3, .int (x3 + 1)), (2, .int ((x2 - 1) / 2)), (4, .int ((x2 - 1) / 2)), (0, .ref (q 4))]) hx hb dX3_rise_44 hl (k := 3) rfl rfl (by decide) rfl (fun ls hl => ?_)
        refine lv_goto (tgt := 4) hx hb dX3_rise_47 (by decide) ?_
        exact hK4 ((x2 - 1) / 2) (x3 + 1) u5 H locs ls hH (lv_sub hl [3, 1, 0] rfl) h
set_option maxHeartbeats 4000000 in
set_option maxRecDepth 100000 in
theorem bX_X3_rise {p : Program} {l : Launch} {e : Env} {s : State} {m : MethodId} {args : Array Value} {below : List Frame} {meth : Method} {c : Code} {D : va_G} {cI cS cW : ClassId} {q : Nat → Nat} {A : Nat → Prop} {res : Int32 × zSt} (C : zCX p s m args meth c cX3_rise 5 (some .int) zU RX3) (hE : zE D (zyX cI cS cW) znX A s) (x1 : Int32) (S : zSt) (H : Heap) (locs : List Loc) (ls : Array Slot) (hH : zH D (zwX cI cS cW q) A s S H locs) (hl : lv_has ls 5 [(0, .ref (q 4)), (1, .int x1)]) (h : fX_X3_rise  x1 S = some res) : W p l e rmX_X3_rise s m args below meth c H locs 0 0 (zQi below D (zwX cI cS cW q) (zyX cI cS cW) A args s res.1 res.2) (F0 m 0 ls []) := by
  have hx := C.1
  have hb := C.2.1
  unfold fX_X3_rise at h
  refine lv_iload_n hx hb dX3_rise_0 rfl (lv_at hl 1 rfl) ?_
  refine lv_istore_n (lv' := [(2, .int x1), (0, .ref (q 4)), (1, .int x1)]) hx hb dX3_rise_1 rfl hl (by decide) rfl (fun ls hl => ?_)
  refine lv_iconst (v := 0) hx hb dX3_rise_2 (by decide) ?_
  refine lv_istore_n (lv' := [(3, .int 0), (2, .int x1), (0, .ref (q 4)), (1, .int x1)]) hx hb dX3_rise_3 rfl hl (by decide) rfl (fun ls hl => ?_)
  exact bX_X3_rise_4 C hE   1000 x1 0 S H locs ls hH (lv_sub hl [2, 1, 0] rfl) h
set_option maxHeartbeats 4000000 in
set_option maxRecDepth 100000 in
theorem cX_X3_rise (l : Launch) (D : va_G) (cI cS cW : ClassId) (q : Nat → Nat) (sz : Nat) (x1 : Int32) (S : zSt) {res : Int32 × zSt} (h : fX_X3_rise x1 S = some res) : zMi l yX3_rise vsX3_rise rmX_X3_rise [.ref (q 4), .int x1] D (zwX cI cS cW q) (zyX cI cS cW) znX sz S res.1 res.2 := by
  refine Met.ofW (cc := cX3_rise) (maxL := 5) (ret := (some .int)) (by decide) rfl ?_
  intro p e s m args below meth c s₁ B hml hv
  obtain ⟨rfl, rfl, hP, hK, hD0, hN⟩ := hv
  have hl := lv_entry ([.ref (q 4), .int x1]) (n := 5) (Nat.le_of_ble_eq_true rfl)
  rw [lg_entry_eq]
  generalize (lg_sl ([.ref (q 4), .int x1]) ++ List.replicate (5 - (lg_sl ([.ref (q 4), .int x1])).length) Slot.unset).toArray = ls at hl ⊢
  exact bX_X3_rise ⟨B.exec, B.bytes, hml, findClass_of_methodNamed B.named, fun w h => atoms_spec (ws := vsX3_rise) B.pre w (List.mem_cons_of_mem _ h), B.returns, B.notSynchronized⟩ ⟨hK, fun q h => Or.inr h, hN⟩ x1 S s.heap [] ls ⟨hP, hD0.self, va_S.rf⟩ hl  h
def rmX_X4_placeOf_Heap : Room := { frames := 0, cells := 0, slots := 0, locals := 0 }
set_option maxHeartbeats 4000000 in
set_option maxRecDepth 100000 in
theorem bX_X4_placeOf_Heap_2 {p : Program} {l : Launch} {e : Env} {s : State} {m : MethodId} {args : Array Value} {below : List Frame} {meth : Method} {c : Code} {D : va_G} {cI cS cW : ClassId} {q : Nat → Nat} {A : Nat → Prop} {res : Int32} (C : zCX p s m args meth c cX4_placeOf 3 (some .int) zU RX4) (hE : zE D (zyX cI cS cW) znX A s) : ∀ (n : Nat) (x1 x2 : Int32) (S : zSt) (H : Heap) (locs : List Loc) (ls : Array Slot), zH D (zwX cI cS cW q) A s S H locs → lv_has ls 3 [(0, .ref (q 4)), (1, .int x1), (2, .int x2)] → fX_X4_placeOf_Heap_2  n x1 x2 S = some res → W p l e rmX_X4_placeOf_Heap s m args below meth c H locs 0 0 (zQi below D (zwX cI cS cW q) (zyX cI cS cW) A args s res S) (F0 m 2 ls []) := by
  have hx := C.1
  have hb := C.2.1
  intro n
  induction n with
  | zero =>
    intro x1 x2 S H locs ls hH hl  h
    cases h
  | succ n hK2 =>
    intro x1 x2 S H locs ls hH hl  h
    rw [fX_X4_placeOf_Heap_2] at h
    refine lv_iload_n hx hb dX4_placeOf_2 rfl (lv_at hl 2 rfl) ?_
    refine lv_aload_n hx hb dX4_placeOf_3 rfl (lv_at hl 0 rfl) ?_
    refine z_get C hE hH zX_o4 rfl zh_X3 3 (by decide) zk3_9 (fun _ h9 => h9) (v := .int (S.1 30)) rfl dX4_placeOf_4 ?_
    refine lv_icmp_ge (tgt := 28) hx hb dX4_placeOf_7 (by decide) (fun c1 => ?_) (fun c1 => ?_)
    · replace h := zif_t c1 h
      refine lv_iconst (v := (-1)) hx hb dX4_placeOf_28 (by decide) ?_
      cases h
      exact z_iret C hE hH dX4_placeOf_29
    · replace h := zif_f c1 h
      refine lv_aload_n hx hb dX4_placeOf_10 rfl (lv_at hl 0 rfl) ?_
      refine z_get C hE hH zX_o4 rfl zh_X3 0 (by decide) zk3_8 (fun _ h9 => h9) (v := .ref (q 36)) rfl dX4_placeOf_11 ?_
      refine lv_iload_n hx hb dX4_placeOf_14 rfl (lv_at hl 2 rfl) ?_
      obtain ⟨g2, h⟩ := zgd_s h
      refine z_iald C hE hH zX_a36 (t0 := 0) rfl g2 dX4_placeOf_15 ?_
      refine lv_iload_n hx hb dX4_placeOf_16 rfl (lv_at hl 1 rfl) ?_
      refine lv_icmp_ne (tgt := 22) hx hb dX4_placeOf_17 (by decide) (fun c3 => ?_) (fun c3 => ?_)
      · replace h := zif_f c3 h
        refine lv_iinc (v := (x2 + 1)) (lv' := [(2, .int (x2 + 1)), (0, .ref (q 4)), (1, .int x1)]) hx hb dX4_placeOf_22 hl (k := 2) rfl rfl (by decide) rfl (fun ls hl => ?_)
        refine lv_goto (tgt := 2) hx hb dX4_placeOf_25 (by decide) ?_
        exact hK2 x1 (x2 + 1) S H locs ls hH (lv_sub hl [1, 2, 0] rfl) h
      · replace h := zif_t c3 h
        refine lv_iload_n hx hb dX4_placeOf_20 rfl (lv_at hl 2 rfl) ?_
        cases h
        exact z_iret C hE hH dX4_placeOf_21
set_option maxHeartbeats 4000000 in
set_option maxRecDepth 100000 in
theorem bX_X4_placeOf_Heap {p : Program} {l : Launch} {e : Env} {s : State} {m : MethodId} {args : Array Value} {below : List Frame} {meth : Method} {c : Code} {D : va_G} {cI cS cW : ClassId} {q : Nat → Nat} {A : Nat → Prop} {res : Int32} (C : zCX p s m args meth c cX4_placeOf 3 (some .int) zU RX4) (hE : zE D (zyX cI cS cW) znX A s) (x1 : Int32) (S : zSt) (H : Heap) (locs : List Loc) (ls : Array Slot) (hH : zH D (zwX cI cS cW q) A s S H locs) (hl : lv_has ls 3 [(0, .ref (q 4)), (1, .int x1)]) (h : fX_X4_placeOf_Heap  x1 S = some res) : W p l e rmX_X4_placeOf_Heap s m args below meth c H locs 0 0 (zQi below D (zwX cI cS cW q) (zyX cI cS cW) A args s res S) (F0 m 0 ls []) := by
  have hx := C.1
  have hb := C.2.1
  unfold fX_X4_placeOf_Heap at h
  refine lv_iconst (v := 0) hx hb dX4_placeOf_0 (by decide) ?_
  refine lv_istore_n (lv' := [(2, .int 0), (0, .ref (q 4)), (1, .int x1)]) hx hb dX4_placeOf_1 rfl hl (by decide) rfl (fun ls hl => ?_)
  exact bX_X4_placeOf_Heap_2 C hE   1000 x1 0 S H locs ls hH (lv_sub hl [1, 2, 0] rfl) h
set_option maxHeartbeats 4000000 in
set_option maxRecDepth 100000 in
theorem cX_X4_placeOf_Heap (l : Launch) (D : va_G) (cI cS cW : ClassId) (q : Nat → Nat) (sz : Nat) (x1 : Int32) (S : zSt) {res : Int32} (h : fX_X4_placeOf_Heap x1 S = some res) : zMi l yX4_placeOf vsX4_placeOf rmX_X4_placeOf_Heap [.ref (q 4), .int x1] D (zwX cI cS cW q) (zyX cI cS cW) znX sz S res S := by
  refine Met.ofW (cc := cX4_placeOf) (maxL := 3) (ret := (some .int)) (by decide) rfl ?_
  intro p e s m args below meth c s₁ B hml hv
  obtain ⟨rfl, rfl, hP, hK, hD0, hN⟩ := hv
  have hl := lv_entry ([.ref (q 4), .int x1]) (n := 3) (Nat.le_of_ble_eq_true rfl)
  rw [lg_entry_eq]
  generalize (lg_sl ([.ref (q 4), .int x1]) ++ List.replicate (3 - (lg_sl ([.ref (q 4), .int x1])).length) Slot.unset).toArray = ls at hl ⊢
  exact bX_X4_placeOf_Heap ⟨B.exec, B.bytes, hml, findClass_of_methodNamed B.named, fun w h => atoms_spec (ws := vsX4_placeOf) B.pre w (List.mem_cons_of_mem _ h), B.returns, B.notSynchronized⟩ ⟨hK, fun q h => Or.inr h, hN⟩ x1 S s.heap [] ls ⟨hP, hD0.self, va_S.rf⟩ hl  h
def rmX_X4_stepsTo_Heap : Room := { frames := 0, cells := 0, slots := 0, locals := 0 }
set_option maxHeartbeats 4000000 in
set_option maxRecDepth 100000 in
theorem bX_X4_stepsTo_Heap {p : Program} {l : Launch} {e : Env} {s : State} {m : MethodId} {args : Array Value} {below : List Frame} {meth : Method} {c : Code} {D : va_G} {cI cS cW : ClassId} {q : Nat → Nat} {A : Nat → Prop} {res : Int32} (C : zCX p s m args meth c cX4_stepsTo 2 (some .int) zU RX4) (hE : zE D (zyX cI cS cW) znX A s) (x1 : Int32) (S : zSt) (H : Heap) (locs : List Loc) (ls : Array Slot) (hH : zH D (zwX cI cS cW q) A s S H locs) (hl : lv_has ls 2 [(0, .ref (q 4)), (1, .int x1)]) (h : fX_X4_stepsTo_Heap  x1 S = some res) : W p l e rmX_X4_stepsTo_Heap s m args below meth c H locs 0 0 (zQi below D (zwX cI cS cW q) (zyX cI cS cW) A args s res S) (F0 m 0 ls []) := by
  have hx := C.1
  have hb := C.2.1
  unfold fX_X4_stepsTo_Heap at h
  refine lv_iload_n hx hb dX4_stepsTo_0 rfl (lv_at hl 1 rfl) ?_
  refine lv_iconst (v := (-1)) hx hb dX4_stepsTo_1 (by decide) ?_
  refine lv_icmp_ne (tgt := 12) hx hb dX4_stepsTo_2 (by decide) (fun c1 => ?_) (fun c1 => ?_)
  · replace h := zif_f c1 h
    refine lv_iload_n hx hb dX4_stepsTo_12 rfl (lv_at hl 1 rfl) ?_
    refine lv_iconst (v := 1) hx hb dX4_stepsTo_13 (by decide) ?_
    refine lv_iadd hx hb dX4_stepsTo_14 ?_
    cases h
    exact z_iret C hE hH dX4_stepsTo_15
  · replace h := zif_t c1 h
    refine lv_aload_n hx hb dX4_stepsTo_5 rfl (lv_at hl 0 rfl) ?_
    refine z_get C hE hH zX_o4 rfl zh_X3 3 (by decide) zk3_9 (fun _ h9 => h9) (v := .int (S.1 30)) rfl dX4_stepsTo_6 ?_
    refine lv_goto (tgt := 15) hx hb dX4_stepsTo_9 (by decide) ?_
    cases h
    exact z_iret C hE hH dX4_stepsTo_15
set_option maxHeartbeats 4000000 in
set_option maxRecDepth 100000 in
theorem cX_X4_stepsTo_Heap (l : Launch) (D : va_G) (cI cS cW : ClassId) (q : Nat → Nat) (sz : Nat) (x1 : Int32) (S : zSt) {res : Int32} (h : fX_X4_stepsTo_Heap x1 S = some res) : zMi l yX4_stepsTo vsX4_stepsTo rmX_X4_stepsTo_Heap [.ref (q 4), .int x1] D (zwX cI cS cW q) (zyX cI cS cW) znX sz S res S := by
  refine Met.ofW (cc := cX4_stepsTo) (maxL := 2) (ret := (some .int)) (by decide) rfl ?_
  intro p e s m args below meth c s₁ B hml hv
  obtain ⟨rfl, rfl, hP, hK, hD0, hN⟩ := hv
  have hl := lv_entry ([.ref (q 4), .int x1]) (n := 2) (Nat.le_of_ble_eq_true rfl)
  rw [lg_entry_eq]
  generalize (lg_sl ([.ref (q 4), .int x1]) ++ List.replicate (2 - (lg_sl ([.ref (q 4), .int x1])).length) Slot.unset).toArray = ls at hl ⊢
  exact bX_X4_stepsTo_Heap ⟨B.exec, B.bytes, hml, findClass_of_methodNamed B.named, fun w h => atoms_spec (ws := vsX4_stepsTo) B.pre w (List.mem_cons_of_mem _ h), B.returns, B.notSynchronized⟩ ⟨hK, fun q h => Or.inr h, hN⟩ x1 S s.heap [] ls ⟨hP, hD0.self, va_S.rf⟩ hl  h
def rmX_X3_lesserChild : Room := { frames := 0, cells := 0, slots := 0, locals := 0 }
set_option maxHeartbeats 4000000 in
set_option maxRecDepth 100000 in
theorem bX_X3_lesserChild {p : Program} {l : Launch} {e : Env} {s : State} {m : MethodId} {args : Array Value} {below : List Frame} {meth : Method} {c : Code} {D : va_G} {cI cS cW : ClassId} {q : Nat → Nat} {A : Nat → Prop} {res : Int32} (C : zCX p s m args meth c cX3_lesserChild 4 (some .int) zU RX3) (hE : zE D (zyX cI cS cW) znX A s) (x1 : Int32) (S : zSt) (H : Heap) (locs : List Loc) (ls : Array Slot) (hH : zH D (zwX cI cS cW q) A s S H locs) (hl : lv_has ls 4 [(0, .ref (q 4)), (1, .int x1)]) (h : fX_X3_lesserChild  x1 S = some res) : W p l e rmX_X3_lesserChild s m args below meth c H locs 0 0 (zQi below D (zwX cI cS cW q) (zyX cI cS cW) A args s res S) (F0 m 0 ls []) := by
  have hx := C.1
  have hb := C.2.1
  unfold fX_X3_lesserChild at h
  refine lv_iconst (v := 2) hx hb dX3_lesserChild_0 (by decide) ?_
  refine lv_iload_n hx hb dX3_lesserChild_1 rfl (lv_at hl 1 rfl) ?_
  refine lv_imul hx hb dX3_lesserChild_2 ?_
  refine lv_iconst (v := 1) hx hb dX3_lesserChild_3 (by decide) ?_
  refine lv_iadd hx hb dX3_lesserChild_4 ?_
  refine lv_istore_n (lv' := [(2, .int ((2 * x1) + 1)), (0, .ref (q 4)), (1, .int x1)]) hx hb dX3_lesserChild_5 rfl hl (by decide) rfl (fun ls hl => ?_)
  refine lv_iload_n hx hb dX3_lesserChild_6 rfl (lv_at hl 0 rfl) ?_
  refine lv_iconst (v := 1) hx hb dX3_lesserChild_7 (by decide) ?_
  refine lv_iadd hx hb dX3_lesserChild_8 ?_
  refine lv_istore_n (lv' := [(3, .int (((2 * x1) + 1) + 1)), (2, .int ((2 * x1) + 1)), (0, .ref (q 4)), (1, .int x1)]) hx hb dX3_lesserChild_9 rfl hl (by decide) rfl (fun ls hl => ?_)
  refine lv_iload_n hx hb dX3_lesserChild_10 rfl (lv_at hl 1 rfl) ?_
  refine lv_aload_n hx hb dX3_lesserChild_11 rfl (lv_at hl 2 rfl) ?_
  refine z_get C hE hH zX_o4 rfl zh_X3 3 (by decide) zk11_1 (u_same (C.2.2.2.2.1 _ zk11_2)) (v := .int (S.1 30)) rfl dX3_lesserChild_12 ?_
  refine lv_icmp_lt (tgt := 20) hx hb dX3_lesserChild_15 (by decide) (fun c1 => ?_) (fun c1 => ?_)
  · replace h := zif_t c1 h
    refine lv_iload_n hx hb dX3_lesserChild_20 rfl (lv_at hl 0 rfl) ?_
    refine lv_aload_n hx hb dX3_lesserChild_21 rfl (lv_at hl 2 rfl) ?_
    refine z_get C hE hH zX_o4 rfl zh_X3 3 (by decide) zk11_1 (u_same (C.2.2.2.2.1 _ zk11_2)) (v := .int (S.1 30)) rfl dX3_lesserChild_22 ?_
    refine lv_icmp_ge (tgt := 47) hx hb dX3_lesserChild_25 (by decide) (fun c2 => ?_) (fun c2 => ?_)
    · replace h := zif_t c2 h
      refine lv_iload_n hx hb dX3_lesserChild_47 rfl (lv_at hl 1 rfl) ?_
      cases h
      exact z_iret C hE hH dX3_lesserChild_48
    · replace h := zif_f c2 h
      refine lv_aload_n hx hb dX3_lesserChild_28 rfl (lv_at hl 2 rfl) ?_
      refine z_get C hE hH zX_o4 rfl zh_X3 0 (by decide) zk12_2 (u_same (C.2.2.2.2.1 _ zk12_3)) (v := .ref (q 36)) rfl dX3_lesserChild_29 ?_
      refine lv_iload_n hx hb dX3_lesserChild_32 rfl (lv_at hl 0 rfl) ?_
      obtain ⟨g3, h⟩ := zgd_s h
      refine z_iald C hE hH zX_a36 (t0 := 0) rfl g3 dX3_lesserChild_33 ?_
      refine lv_aload_n hx hb dX3_lesserChild_34 rfl (lv_at hl 2 rfl) ?_
      refine z_get C hE hH zX_o4 rfl zh_X3 0 (by decide) zk12_2 (u_same (C.2.2.2.2.1 _ zk12_3)) (v := .ref (q 36)) rfl dX3_lesserChild_35 ?_
      refine lv_iload_n hx hb dX3_lesserChild_38 rfl (lv_at hl 1 rfl) ?_
      obtain ⟨g4, h⟩ := zgd_s h
      refine z_iald C hE hH zX_a36 (t0 := 0) rfl g4 dX3_lesserChild_39 ?_
      refine lv_icmp_ge (tgt := 47) hx hb dX3_lesserChild_40 (by decide) (fun c5 => ?_) (fun c5 => ?_)
      · replace h := zif_t c5 h
        refine lv_iload_n hx hb dX3_lesserChild_47 rfl (lv_at hl 1 rfl) ?_
        cases h
        exact z_iret C hE hH dX3_lesserChild_48
      · replace h := zif_f c5 h
        refine lv_iload_n hx hb dX3_lesserChild_43 rfl (lv_at hl 0 rfl) ?_
        refine lv_goto (tgt := 48) hx hb dX3_lesserChild_44 (by decide) ?_
        cases h
        exact z_iret C hE hH dX3_lesserChild_48
  · replace h := zif_f c1 h
    refine lv_iconst (v := (-1)) hx hb dX3_lesserChild_18 (by decide) ?_
    cases h
    exact z_iret C hE hH dX3_lesserChild_19
set_option maxHeartbeats 4000000 in
set_option maxRecDepth 100000 in
theorem cX_X3_lesserChild (l : Launch) (D : va_G) (cI cS cW : ClassId) (q : Nat → Nat) (sz : Nat) (x1 : Int32) (S : zSt) {res : Int32} (h : fX_X3_lesserChild x1 S = some res) : zMi l yX3_lesserChild vsX3_lesserChild rmX_X3_lesserChild [.ref (q 4), .int x1] D (zwX cI cS cW q) (zyX cI cS cW) znX sz S res S := by
  refine Met.ofW (cc := cX3_lesserChild) (maxL := 4) (ret := (some .int)) (by decide) rfl ?_
  intro p e s m args below meth c s₁ B hml hv
  obtain ⟨rfl, rfl, hP, hK, hD0, hN⟩ := hv
  have hl := lv_entry ([.ref (q 4), .int x1]) (n := 4) (Nat.le_of_ble_eq_true rfl)
  rw [lg_entry_eq]
  generalize (lg_sl ([.ref (q 4), .int x1]) ++ List.replicate (4 - (lg_sl ([.ref (q 4), .int x1])).length) Slot.unset).toArray = ls at hl ⊢
  exact bX_X3_lesserChild ⟨B.exec, B.bytes, hml, findClass_of_methodNamed B.named, fun w h => atoms_spec (ws := vsX3_lesserChild) B.pre w (List.mem_cons_of_mem _ h), B.returns, B.notSynchronized⟩ ⟨hK, fun q h => Or.inr h, hN⟩ x1 S s.heap [] ls ⟨hP, hD0.self, va_S.rf⟩ hl  h
def rmX_X3_sink : Room := { frames := 1, cells := 0, slots := 0, locals := 23 }
set_option maxHeartbeats 4000000 in
set_option maxRecDepth 100000 in
theorem bX_X3_sink_11 {p : Program} {l : Launch} {e : Env} {s : State} {m : MethodId} {args : Array Value} {below : List Frame} {meth : Method} {c : Code} {D : va_G} {cI cS cW : ClassId} {q : Nat → Nat} {A : Nat → Prop} {res : Int32 × zSt} (C : zCX p s m args meth c cX3_sink 5 (some .int) zU RX3) (hE : zE D (zyX cI cS cW) znX A s) : ∀ (n : Nat) (x2 x3 x4 : Int32) (S : zSt) (H : Heap) (locs : List Loc) (ls : Array Slot), zH D (zwX cI cS cW q) A s S H locs → lv_has ls 5 [(0, .ref (q 4)), (2, .int x2), (3, .int x3), (4, .int x4)] → fX_X3_sink_11  n x2 x3 x4 S = some res → W p l e rmX_X3_sink s m args below meth c H locs 0 0 (zQi below D (zwX cI cS cW q) (zyX cI cS cW) A args s res.1 res.2) (F0 m 11 ls []) := by
  have hx := C.1
  have hb := C.2.1
  intro n
  induction n with
  | zero =>
    intro x2 x3 x4 S H locs ls hH hl  h
    cases h
  | succ n hK11 =>
    intro x2 x3 x4 S H locs ls hH hl  h
    rw [fX_X3_sink_11] at h
    refine lv_iload hx hb dX3_sink_11 (lv_at hl 3 rfl) ?_
    refine lv_aload_n hx hb dX3_sink_13 rfl (lv_at hl 0 rfl) ?_
    refine z_get C hE hH zX_o4 rfl zh_X3 3 (by decide) zk11_1 (u_same (C.2.2.2.2.1 _ zk11_2)) (v := .int (S.1 30)) rfl dX3_sink_14 ?_
    refine lv_icmp_ge (tgt := 60) hx hb dX3_sink_17 (by decide) (fun c1 => ?_) (fun c1 => ?_)
    · replace h := zif_t c1 h
      refine lv_iload hx hb dX3_sink_60 (lv_at hl 3 rfl) ?_
      cases h
      exact z_iret C hE hH dX3_sink_62
    · replace h := zif_f c1 h
      refine lv_iload_n hx hb dX3_sink_20 rfl (lv_at hl 2 rfl) ?_
      refine lv_iconst (v := (-1)) hx hb dX3_sink_21 (by decide) ?_
      refine lv_icmp_eq (tgt := 60) hx hb dX3_sink_22 (by decide) (fun c2 => ?_) (fun c2 => ?_)
      · replace h := zif_t c2 h
        refine lv_iload hx hb dX3_sink_60 (lv_at hl 3 rfl) ?_
        cases h
        exact z_iret C hE hH dX3_sink_62
      · replace h := zif_f c2 h
        refine lv_aload_n hx hb dX3_sink_25 rfl (lv_at hl 0 rfl) ?_
        refine z_get C hE hH zX_o4 rfl zh_X3 0 (by decide) zk12_2 (u_same (C.2.2.2.2.1 _ zk12_3)) (v := .ref (q 36)) rfl dX3_sink_26 ?_
        refine lv_iload_n hx hb dX3_sink_29 rfl (lv_at hl 2 rfl) ?_
        obtain ⟨g3, h⟩ := zgd_s h
        refine z_iald C hE hH zX_a36 (t0 := 0) rfl g3 dX3_sink_30 ?_
        refine lv_aload_n hx hb dX3_sink_31 rfl (lv_at hl 0 rfl) ?_
        refine z_get C hE hH zX_o4 rfl zh_X3 0 (by decide) zk12_2 (u_same (C.2.2.2.2.1 _ zk12_3)) (v := .ref (q 36)) rfl dX3_sink_32 ?_
        refine lv_iload_n hx hb dX3_sink_35 rfl (lv_at hl 1 rfl) ?_
        obtain ⟨g4, h⟩ := zgd_s h
        refine z_iald C hE hH zX_a36 (t0 := 0) rfl g4 dX3_sink_36 ?_
        refine lv_icmp_ge (tgt := 60) hx hb dX3_sink_37 (by decide) (fun c5 => ?_) (fun c5 => ?_)
        · replace h := zif_t c5 h
          refine lv_iload hx hb dX3_sink_60 (lv_at hl 3 rfl) ?_
          cases h
          exact z_iret C hE hH dX3_sink_62
        · replace h := zif_f c5 h
          refine lv_aload_n hx hb dX3_sink_40 rfl (lv_at hl 0 rfl) ?_
          refine lv_iload_n hx hb dX3_sink_41 rfl (lv_at hl 1 rfl) ?_
          refine lv_iload_n hx hb dX3_sink_42 rfl (lv_at hl 2 rfl) ?_
          obtain ⟨u6, e7, h⟩ := zbd_s h
          refine z_callv (va_runV (As := [.int x2, .int x3]) (rest := []) (z_fix C) (cX_X3_swap l D cI cS cW q H.size  x2 x3 S e7) (cwV 2 C.2.2.2.2.1 (zGV zk12_4 zk12_5 zk12_6 zk2_5 zk12_7) rfl rfl rfl yd_X3_swap ⟨Nat.le_of_ble_eq_true rfl, Nat.le_of_ble_eq_true rfl⟩) (z_preV (zNmX hE) hE hH zX_o4 rfl) rfl rfl hl.1 rfl (lv_room (Nat.le_of_ble_eq_true rfl)) dX3_sink_43 ⟨Nat.le_refl 0, Nat.le_refl 0⟩) hE hH (fun H locs hH => ?_)
          refine lv_iload_n hx hb dX3_sink_46 rfl (lv_at hl 2 rfl) ?_
          refine lv_istore_n (lv' := [(2, .int x3), (0, .ref (q 4)), (3, .int x3), (4, .int x4)]) hx hb dX3_sink_47 rfl hl (by decide) rfl (fun ls hl => ?_)
          refine lv_aload_n hx hb dX3_sink_48 rfl (lv_at hl 1 rfl) ?_
          refine lv_iload_n hx hb dX3_sink_49 rfl (lv_at hl 0 rfl) ?_
          obtain ⟨u8, e9, h⟩ := zbd_s h
          refine z_calli (va_runV (As := [.int x3]) (rest := []) (z_fix C) (cX_X3_lesserChild l D cI cS cW q H.size  x3 u6 e9) (cwV 1 C.2.2.2.2.1 (zGV zk13_0 zk13_1 zk13_2 zk2_5 zk13_3) rfl rfl rfl yd_X3_lesserChild ⟨Nat.le_of_ble_eq_true rfl, Nat.le_of_ble_eq_true rfl⟩) (z_preV (zNmX hE) hE hH zX_o4 rfl) rfl rfl hl.1 rfl (lv_room (Nat.le_of_ble_eq_true rfl)) dX3_sink_50 ⟨Nat.le_refl 0, Nat.le_refl 0⟩) hE hH (fun H locs hH => ?_)
          refine lv_istore_n (lv' := [(3, .int u8), (2, .int x3), (0, .ref (q 4)), (4, .int x4)]) hx hb dX3_sink_53 rfl hl (by decide) rfl (fun ls hl => ?_)
          refine lv_iinc (v := (x4 + 1)) (lv' := [(4, .int (x4 + 1)), (3, .int u8), (2, .int x3), (0, .ref (q 4))]) hx hb dX3_sink_54 hl (k := 3) rfl rfl (by decide) rfl (fun ls hl => ?_)
          refine lv_goto (tgt := 11) hx hb dX3_sink_57 (by decide) ?_
          exact hK11 x3 u8 (x4 + 1) u6 H locs ls hH (lv_sub hl [3, 2, 1, 0] rfl) h
set_option maxHeartbeats 4000000 in
set_option maxRecDepth 100000 in
theorem bX_X3_sink {p : Program} {l : Launch} {e : Env} {s : State} {m : MethodId} {args : Array Value} {below : List Frame} {meth : Method} {c : Code} {D : va_G} {cI cS cW : ClassId} {q : Nat → Nat} {A : Nat → Prop} {res : Int32 × zSt} (C : zCX p s m args meth c cX3_sink 5 (some .int) zU RX3) (hE : zE D (zyX cI cS cW) znX A s) (x1 : Int32) (S : zSt) (H : Heap) (locs : List Loc) (ls : Array Slot) (hH : zH D (zwX cI cS cW q) A s S H locs) (hl : lv_has ls 5 [(0, .ref (q 4)), (1, .int x1)]) (h : fX_X3_sink  x1 S = some res) : W p l e rmX_X3_sink s m args below meth c H locs 0 0 (zQi below D (zwX cI cS cW q) (zyX cI cS cW) A args s res.1 res.2) (F0 m 0 ls []) := by
  have hx := C.1
  have hb := C.2.1
  unfold fX_X3_sink at h
  refine lv_iload_n hx hb dX3_sink_0 rfl (lv_at hl 1 rfl) ?_
  refine lv_istore_n (lv' := [(2, .int x1), (0, .ref (q 4)), (1, .int x1)]) hx hb dX3_sink_1 rfl hl (by decide) rfl (fun ls hl => ?_)
  refine lv_aload_n hx hb dX3_sink_2 rfl (lv_at hl 1 rfl) ?_
  refine lv_iload_n hx hb dX3_sink_3 rfl (lv_at hl 0 rfl) ?_
  obtain ⟨u1, e2, h⟩ := zbd_s h
  refine z_calli (va_runV (As := [.int x1]) (rest := []) (z_fix C) (cX_X3_lesserChild l D cI cS cW q H.size  x1 S e2) (cwV 1 C.2.2.2.2.1 (zGV zk13_0 zk13_1 zk13_2 zk2_5 zk13_3) rfl rfl rfl yd_X3_lesserChild ⟨Nat.le_of_ble_eq_true rfl, Nat.le_of_ble_eq_true rfl⟩) (z_preV (zNmX hE) hE hH zX_o4 rfl) rfl rfl hl.1 rfl (lv_room (Nat.le_of_ble_eq_true rfl)) dX3_sink_4 ⟨Nat.le_refl 0, Nat.le_refl 0⟩) hE hH (fun H locs hH => ?_)
  refine lv_istore_n (lv' := [(3, .int u1), (2, .int x1), (0, .ref (q 4)), (1, .int x1)]) hx hb dX3_sink_7 rfl hl (by decide) rfl (fun ls hl => ?_)
  refine lv_iconst (v := 0) hx hb dX3_sink_8 (by decide) ?_
  refine lv_istore (lv' := [(4, .int 0), (3, .int u1), (2, .int x1), (0, .ref (q 4)), (1, .int x1)]) hx hb dX3_sink_9 hl (by decide) rfl (fun ls hl => ?_)
  exact bX_X3_sink_11 C hE   1000 x1 u1 0 S H locs ls hH (lv_sub hl [3, 2, 1, 0] rfl) h
set_option maxHeartbeats 4000000 in
set_option maxRecDepth 100000 in
theorem cX_X3_sink (l : Launch) (D : va_G) (cI cS cW : ClassId) (q : Nat → Nat) (sz : Nat) (x1 : Int32) (S : zSt) {res : Int32 × zSt} (h : fX_X3_sink x1 S = some res) : zMi l yX3_sink vsX3_sink rmX_X3_sink [.ref (q 4), .int x1] D (zwX cI cS cW q) (zyX cI cS cW) znX sz S res.1 res.2 := by
  refine Met.ofW (cc := cX3_sink) (maxL := 5) (ret := (some .int)) (by decide) rfl ?_
  intro p e s m args below meth c s₁ B hml hv
  obtain ⟨rfl, rfl, hP, hK, hD0, hN⟩ := hv
  have hl := lv_entry ([.ref (q 4), .int x1]) (n := 5) (Nat.le_of_ble_eq_true rfl)
  rw [lg_entry_eq]
  generalize (lg_sl ([.ref (q 4), .int x1]) ++ List.replicate (5 - (lg_sl ([.ref (q 4), .int x1])).length) Slot.unset).toArray = ls at hl ⊢
  exact bX_X3_sink ⟨B.exec, B.bytes, hml, findClass_of_methodNamed B.named, fun w h => atoms_spec (ws := vsX3_sink) B.pre w (List.mem_cons_of_mem _ h), B.returns, B.notSynchronized⟩ ⟨hK, fun q h => Or.inr h, hN⟩ x1 S s.heap [] ls ⟨hP, hD0.self, va_S.rf⟩ hl  h
def rmX_X3_strike : Room := { frames := 2, cells := 0, slots := 0, locals := 47 }
set_option maxHeartbeats 4000000 in
set_option maxRecDepth 100000 in
theorem bX_X3_strike_77 {p : Program} {l : Launch} {e : Env} {s : State} {m : MethodId} {args : Array Value} {below : List Frame} {meth : Method} {c : Code} {D : va_G} {cI cS cW : ClassId} {q : Nat → Nat} {A : Nat → Prop} {res : Int32 × zSt} (C : zCX p s m args meth c cX3_strike 5 (some .int) zU RX3) (hE : zE D (zyX cI cS cW) znX A s) (t0 t1 : Int32) (S : zSt) (H : Heap) (locs : List Loc) (ls : Array Slot) (hH : zH D (zwX cI cS cW q) A s S H locs) (hl : lv_has ls 5 []) (h : fX_X3_strike_77  t0 t1 S = some res) : W p l e rmX_X3_strike s m args below meth c H locs 0 0 (zQi below D (zwX cI cS cW q) (zyX cI cS cW) A args s res.1 res.2) (F0 m 77 ls [.int t1, .int t0]) := by
  have hx := C.1
  have hb := C.2.1
  unfold fX_X3_strike_77 at h
  refine lv_iadd hx hb dX3_strike_77 ?_
  cases h
  exact z_iret C hE hH dX3_strike_78
set_option maxHeartbeats 4000000 in
set_option maxRecDepth 100000 in
theorem bX_X3_strike {p : Program} {l : Launch} {e : Env} {s : State} {m : MethodId} {args : Array Value} {below : List Frame} {meth : Method} {c : Code} {D : va_G} {cI cS cW : ClassId} {q : Nat → Nat} {A : Nat → Prop} {res : Int32 × zSt} (C : zCX p s m args meth c cX3_strike 5 (some .int) zU RX3) (hE : zE D (zyX cI cS cW) znX A s) (x1 : Int32) (S : zSt) (H : Heap) (locs : List Loc) (ls : Array Slot) (hH : zH D (zwX cI cS cW q) A s S H locs) (hl : lv_has ls 5 [(0, .ref (q 4)), (1, .int x1)]) (h : fX_X3_strike  x1 S = some res) : W p l e rmX_X3_strike s m args below meth c H locs 0 0 (zQi below D (zwX cI cS cW q) (zyX cI cS cW) A args s res.1 res.2) (F0 m 0 ls []) := by
  have hx := C.1
  have hb := C.2.1
  unfold fX_X3_strike at h
  refine lv_aload_n hx hb dX3_strike_0 rfl (lv_at hl 0 rfl) ?_
  refine lv_iload_n hx hb dX3_strike_1 rfl (lv_at hl 1 rfl) ?_
  obtain ⟨u1, e2, h⟩ := zbd_s h
  refine z_calli (va_runU (As := [.int x1]) (rest := []) (z_fix C) (cX_X4_placeOf_Heap l D cI cS cW q H.size  x1 S e2) (va_cwU 1 C.2.2.2.2.1 (zGU (x := ⟨"WhichShelf$Heap", "placeOf", "(I)I"⟩) (owner := "WhichShelf$Lined") zk12_8 zk12_9 zk12_10 zk7_6 zk3_6 zk7_7) rfl rfl rfl rfl ydu_X4_placeOf ⟨Nat.le_of_ble_eq_true rfl, Nat.le_of_ble_eq_true rfl⟩) (z_preV (zNmX hE) hE hH zX_o4 rfl) rfl rfl hl.1 rfl (lv_room (Nat.le_of_ble_eq_true rfl)) dX3_strike_2 ⟨Nat.le_refl 0, Nat.le_refl 0⟩) hE hH (fun H locs hH => ?_)
  refine lv_istore_n (lv' := [(2, .int u1), (0, .ref (q 4)), (1, .int x1)]) hx hb dX3_strike_5 rfl hl (by decide) rfl (fun ls hl => ?_)
  refine lv_aload_n hx hb dX3_strike_6 rfl (lv_at hl 1 rfl) ?_
  refine lv_iload_n hx hb dX3_strike_7 rfl (lv_at hl 0 rfl) ?_
  obtain ⟨u3, e4, h⟩ := zbd_s h
  refine z_calli (va_runU (As := [.int u1]) (rest := []) (z_fix C) (cX_X4_stepsTo_Heap l D cI cS cW q H.size  u1 S e4) (va_cwU 1 C.2.2.2.2.1 (zGU (x := ⟨"WhichShelf$Heap", "stepsTo", "(I)I"⟩) (owner := "WhichShelf$Lined") zk12_11 zk12_12 zk12_13 zk12_14 zk3_6 zk12_15) rfl rfl rfl rfl ydu_X4_stepsTo ⟨Nat.le_of_ble_eq_true rfl, Nat.le_of_ble_eq_true rfl⟩) (z_preV (zNmX hE) hE hH zX_o4 rfl) rfl rfl hl.1 rfl (lv_room (Nat.le_of_ble_eq_true rfl)) dX3_strike_8 ⟨Nat.le_refl 0, Nat.le_refl 0⟩) hE hH (fun H locs hH => ?_)
  refine lv_istore_n (lv' := [(3, .int u3), (2, .int u1), (0, .ref (q 4)), (1, .int x1)]) hx hb dX3_strike_11 rfl hl (by decide) rfl (fun ls hl => ?_)
  refine lv_iload_n hx hb dX3_strike_12 rfl (lv_at hl 1 rfl) ?_
  refine lv_iconst (v := (-1)) hx hb dX3_strike_13 (by decide) ?_
  refine lv_icmp_ne (tgt := 19) hx hb dX3_strike_14 (by decide) (fun c5 => ?_) (fun c5 => ?_)
  · replace h := zif_f c5 h
    refine lv_aload_n hx hb dX3_strike_19 rfl (lv_at hl 2 rfl) ?_
    refine lv_dup hx hb dX3_strike_20 rfl ?_
    refine z_get C hE hH zX_o4 rfl zh_X3 3 (by decide) zk11_1 (u_same (C.2.2.2.2.1 _ zk11_2)) (v := .int (S.1 30)) rfl dX3_strike_21 ?_
    refine lv_iconst (v := 1) hx hb dX3_strike_24 (by decide) ?_
    refine lv_isub hx hb dX3_strike_25 ?_
    refine z_put C hE hH zX_o4 rfl zh_X3 tyX3_ok nmX3 3 (by decide) zk11_1 (u_same (C.2.2.2.2.1 _ zk11_2)) rfl (ty := .int) rfl rfl rfl (Nat.le_of_ble_eq_true rfl) zX_i30 dX3_strike_26 (fun H locs hH => ?_)
    refine lv_iload_n hx hb dX3_strike_29 rfl (lv_at hl 1 rfl) ?_
    refine lv_aload_n hx hb dX3_strike_30 rfl (lv_at hl 2 rfl) ?_
    refine z_get C hE hH zX_o4 rfl zh_X3 3 (by decide) zk11_1 (u_same (C.2.2.2.2.1 _ zk11_2)) (v := .int ((S.1 30) - 1)) rfl dX3_strike_31 ?_
    refine lv_icmp_ne (tgt := 39) hx hb dX3_strike_34 (by decide) (fun c6 => ?_) (fun c6 => ?_)
    · replace h := zif_f c6 h
      refine lv_aload_n hx hb dX3_strike_39 rfl (lv_at hl 2 rfl) ?_
      refine z_get C hE hH zX_o4 rfl zh_X3 0 (by decide) zk12_2 (u_same (C.2.2.2.2.1 _ zk12_3)) (v := .ref (q 36)) rfl dX3_strike_40 ?_
      refine lv_iload_n hx hb dX3_strike_43 rfl (lv_at hl 1 rfl) ?_
      refine lv_aload_n hx hb dX3_strike_44 rfl (lv_at hl 2 rfl) ?_
      refine z_get C hE hH zX_o4 rfl zh_X3 0 (by decide) zk12_2 (u_same (C.2.2.2.2.1 _ zk12_3)) (v := .ref (q 36)) rfl dX3_strike_45 ?_
      refine lv_aload_n hx hb dX3_strike_48 rfl (lv_at hl 2 rfl) ?_
      refine z_get C hE hH zX_o4 rfl zh_X3 3 (by decide) zk11_1 (u_same (C.2.2.2.2.1 _ zk11_2)) (v := .int ((S.1 30) - 1)) rfl dX3_strike_49 ?_
      obtain ⟨g7, h⟩ := zgd_s h
      refine z_iald C hE hH zX_a36 (t0 := 0) rfl g7 dX3_strike_52 ?_
      obtain ⟨g8, h⟩ := zgd_s h
      refine z_iast C hE hH zX_a36 (t0 := 0) rfl g8 zX_r36 dX3_strike_53 (fun H locs hH => ?_)
      refine lv_aload_n hx hb dX3_strike_54 rfl (lv_at hl 2 rfl) ?_
      refine lv_iload_n hx hb dX3_strike_55 rfl (lv_at hl 1 rfl) ?_
      obtain ⟨u9, e10, h⟩ := zbd_s h
      refine z_calli (va_runV (As := [.int u1]) (rest := []) (z_fix C) (cX_X3_rise l D cI cS cW q H.size  u1 (zsR (zsI S 30 ((S.1 30) - 1)) 36 u1.toNatClampNeg (S.2 36 ((S.1 30) - 1).toNatClampNeg)) e10) (cwV 1 C.2.2.2.2.1 (zGV zk11_22 zk11_23 zk12_0 zk2_5 zk12_1) rfl rfl rfl yd_X3_rise ⟨Nat.le_of_ble_eq_true rfl, Nat.le_of_ble_eq_true rfl⟩) (z_preV (zNmX hE) hE hH zX_o4 rfl) rfl rfl hl.1 rfl (lv_room (Nat.le_of_ble_eq_true rfl)) dX3_strike_56 ⟨Nat.le_refl 0, Nat.le_refl 0⟩) hE hH (fun H locs hH => ?_)
      refine lv_istore (lv' := [(4, .int u9.1), (3, .int u3), (2, .int u1), (0, .ref (q 4)), (1, .int x1)]) hx hb dX3_strike_59 hl (by decide) rfl (fun ls hl => ?_)
      refine lv_iload_n hx hb dX3_strike_61 rfl (lv_at hl 1 rfl) ?_
      refine lv_iload hx hb dX3_strike_62 (lv_at hl 0 rfl) ?_
      refine lv_if_le (tgt := 72) hx hb dX3_strike_64 (by decide) (fun c11 => ?_) (fun c11 => ?_)
      · replace h := zif_t c11 h
        refine lv_aload_n hx hb dX3_strike_72 rfl (lv_at hl 3 rfl) ?_
        refine lv_iload_n hx hb dX3_strike_73 rfl (lv_at hl 2 rfl) ?_
        obtain ⟨u12, e13, h⟩ := zbd_s h
        refine z_calli (va_runV (As := [.int u1]) (rest := [.int u3]) (z_fix C) (cX_X3_sink l D cI cS cW q H.size  u1 u9.2 e13) (cwV 1 C.2.2.2.2.1 (zGV zk12_20 zk12_21 zk12_22 zk2_5 zk12_23) rfl rfl rfl yd_X3_sink ⟨Nat.le_of_ble_eq_true rfl, Nat.le_of_ble_eq_true rfl⟩) (z_preV (zNmX hE) hE hH zX_o4 rfl) rfl rfl hl.1 rfl (lv_room (Nat.le_of_ble_eq_true rfl)) dX3_strike_74 ⟨Nat.le_refl 0, Nat.le_refl 0⟩) hE hH (fun H locs hH => ?_)
        exact bX_X3_strike_77 C hE   u3 u12.1 u12.2 H locs ls hH (lv_sub hl [] rfl) h
      · replace h := zif_f c11 h
        refine lv_iload hx hb dX3_strike_67 (lv_at hl 0 rfl) ?_
        refine lv_goto (tgt := 77) hx hb dX3_strike_69 (by decide) ?_
        exact bX_X3_strike_77 C hE   u3 u9.1 u9.2 H locs ls hH (lv_sub hl [] rfl) h
    · replace h := zif_t c6 h
      refine lv_iload_n hx hb dX3_strike_37 rfl (lv_at hl 0 rfl) ?_
      cases h
      exact z_iret C hE hH dX3_strike_38
  · replace h := zif_t c5 h
    refine lv_iload_n hx hb dX3_strike_17 rfl (lv_at hl 0 rfl) ?_
    cases h
    exact z_iret C hE hH dX3_strike_18
set_option maxHeartbeats 4000000 in
set_option maxRecDepth 100000 in
theorem cX_X3_strike (l : Launch) (D : va_G) (cI cS cW : ClassId) (q : Nat → Nat) (sz : Nat) (x1 : Int32) (S : zSt) {res : Int32 × zSt} (h : fX_X3_strike x1 S = some res) : zMi l yX3_strike vsX3_strike rmX_X3_strike [.ref (q 4), .int x1] D (zwX cI cS cW q) (zyX cI cS cW) znX sz S res.1 res.2 := by
  refine Met.ofW (cc := cX3_strike) (maxL := 5) (ret := (some .int)) (by decide) rfl ?_
  intro p e s m args below meth c s₁ B hml hv
  obtain ⟨rfl, rfl, hP, hK, hD0, hN⟩ := hv
  have hl := lv_entry ([.ref (q 4), .int x1]) (n := 5) (Nat.le_of_ble_eq_true rfl)
  rw [lg_entry_eq]
  generalize (lg_sl ([.ref (q 4), .int x1]) ++ List.replicate (5 - (lg_sl ([.ref (q 4), .int x1])).length) Slot.unset).toArray = ls at hl ⊢
  exact bX_X3_strike ⟨B.exec, B.bytes, hml, findClass_of_methodNamed B.named, fun w h => atoms_spec (ws := vsX3_strike) B.pre w (List.mem_cons_of_mem _ h), B.returns, B.notSynchronized⟩ ⟨hK, fun q h => Or.inr h, hN⟩ x1 S s.heap [] ls ⟨hP, hD0.self, va_S.rf⟩ hl  h
def rmX_X3_step : Room := { frames := 3, cells := 0, slots := 0, locals := 74 }
set_option maxHeartbeats 4000000 in
set_option maxRecDepth 100000 in
theorem bX_X3_step {p : Program} {l : Launch} {e : Env} {s : State} {m : MethodId} {args : Array Value} {below : List Frame} {meth : Method} {c : Code} {D : va_G} {cI cS cW : ClassId} {q : Nat → Nat} {A : Nat → Prop} {res : Int32 × zSt} (C : zCX p s m args meth c cX3_step 3 (some .int) zU RX3) (hE : zE D (zyX cI cS cW) znX A s) (x1 x2 : Int32) (S : zSt) (H : Heap) (locs : List Loc) (ls : Array Slot) (hH : zH D (zwX cI cS cW q) A s S H locs) (hl : lv_has ls 3 [(0, .ref (q 4)), (1, .int x1), (2, .int x2)]) (h : fX_X3_step  x1 x2 S = some res) : W p l e rmX_X3_step s m args below meth c H locs 0 0 (zQi below D (zwX cI cS cW q) (zyX cI cS cW) A args s res.1 res.2) (F0 m 0 ls []) := by
  have hx := C.1
  have hb := C.2.1
  unfold fX_X3_step at h
  refine lv_iload_n hx hb dX3_step_0 rfl (lv_at hl 1 rfl) ?_
  by_cases c1_0 : x1 = 0
  · replace h := zif_t c1_0 h
    refine lv_tableIn (tgt := 44) hx hb dX3_step_1 (by rw [c1_0]; decide) (by rw [c1_0]; decide) (by rw [c1_0]; rfl) (by decide) ?_
    refine lv_aload_n hx hb dX3_step_44 rfl (lv_at hl 0 rfl) ?_
    refine lv_iload_n hx hb dX3_step_45 rfl (lv_at hl 2 rfl) ?_
    obtain ⟨u2, e3, h⟩ := zbd_s h
    refine z_calli (va_runU (As := [.int x2]) (rest := []) (z_fix C) (cX_X4_append_Heap l D cI cS cW q H.size  x2 S e3) (va_cwU 1 C.2.2.2.2.1 (zGU (x := ⟨"WhichShelf$Heap", "append", "(I)I"⟩) (owner := "WhichShelf$Lined") zk11_3 zk11_4 zk11_5 zk11_6 zk3_6 zk11_7) rfl rfl rfl rfl ydu_X4_append ⟨Nat.le_of_ble_eq_true rfl, Nat.le_of_ble_eq_true rfl⟩) (z_preV (zNmX hE) hE hH zX_o4 rfl) rfl rfl hl.1 rfl (lv_room (Nat.le_of_ble_eq_true rfl)) dX3_step_46 ⟨Nat.le_refl 0, Nat.le_refl 0⟩) hE hH (fun H locs hH => ?_)
    refine lv_aload_n hx hb dX3_step_49 rfl (lv_at hl 0 rfl) ?_
    refine lv_aload_n hx hb dX3_step_50 rfl (lv_at hl 0 rfl) ?_
    refine z_get C hE hH zX_o4 rfl zh_X3 3 (by decide) zk11_1 (u_same (C.2.2.2.2.1 _ zk11_2)) (v := .int (u2.2.1 30)) rfl dX3_step_51 ?_
    refine lv_iconst (v := 1) hx hb dX3_step_54 (by decide) ?_
    refine lv_isub hx hb dX3_step_55 ?_
    obtain ⟨u4, e5, h⟩ := zbd_s h
    refine z_calli (va_runV (As := [.int ((u2.2.1 30) - 1)]) (rest := [.int u2.1]) (z_fix C) (cX_X3_rise l D cI cS cW q H.size  ((u2.2.1 30) - 1) u2.2 e5) (cwV 1 C.2.2.2.2.1 (zGV zk11_22 zk11_23 zk12_0 zk2_5 zk12_1) rfl rfl rfl yd_X3_rise ⟨Nat.le_of_ble_eq_true rfl, Nat.le_of_ble_eq_true rfl⟩) (z_preV (zNmX hE) hE hH zX_o4 rfl) rfl rfl hl.1 rfl (lv_room (Nat.le_of_ble_eq_true rfl)) dX3_step_56 ⟨Nat.le_refl 0, Nat.le_refl 0⟩) hE hH (fun H locs hH => ?_)
    refine lv_iadd hx hb dX3_step_59 ?_
    cases h
    exact z_iret C hE hH dX3_step_60
  · replace h := zif_f c1_0 h
    by_cases c1_1 : x1 = 1
    · replace h := zif_t c1_1 h
      refine lv_tableIn (tgt := 61) hx hb dX3_step_1 (by rw [c1_1]; decide) (by rw [c1_1]; decide) (by rw [c1_1]; rfl) (by decide) ?_
      refine lv_aload_n hx hb dX3_step_61 rfl (lv_at hl 0 rfl) ?_
      refine lv_aload_n hx hb dX3_step_62 rfl (lv_at hl 0 rfl) ?_
      refine lv_iload_n hx hb dX3_step_63 rfl (lv_at hl 2 rfl) ?_
      obtain ⟨u6, e7, h⟩ := zbd_s h
      refine z_calli (va_runU (As := [.int x2]) (rest := [.ref (q 4)]) (z_fix C) (cX_X4_placeOf_Heap l D cI cS cW q H.size  x2 S e7) (va_cwU 1 C.2.2.2.2.1 (zGU (x := ⟨"WhichShelf$Heap", "placeOf", "(I)I"⟩) (owner := "WhichShelf$Lined") zk12_8 zk12_9 zk12_10 zk7_6 zk3_6 zk7_7) rfl rfl rfl rfl ydu_X4_placeOf ⟨Nat.le_of_ble_eq_true rfl, Nat.le_of_ble_eq_true rfl⟩) (z_preV (zNmX hE) hE hH zX_o4 rfl) rfl rfl hl.1 rfl (lv_room (Nat.le_of_ble_eq_true rfl)) dX3_step_64 ⟨Nat.le_refl 0, Nat.le_refl 0⟩) hE hH (fun H locs hH => ?_)
      obtain ⟨u8, e9, h⟩ := zbd_s h
      refine z_calli (va_runU (As := [.int u6]) (rest := []) (z_fix C) (cX_X4_stepsTo_Heap l D cI cS cW q H.size  u6 S e9) (va_cwU 1 C.2.2.2.2.1 (zGU (x := ⟨"WhichShelf$Heap", "stepsTo", "(I)I"⟩) (owner := "WhichShelf$Lined") zk12_11 zk12_12 zk12_13 zk12_14 zk3_6 zk12_15) rfl rfl rfl rfl ydu_X4_stepsTo ⟨Nat.le_of_ble_eq_true rfl, Nat.le_of_ble_eq_true rfl⟩) (z_preV (zNmX hE) hE hH zX_o4 rfl) rfl rfl hl.1 rfl (lv_room (Nat.le_of_ble_eq_true rfl)) dX3_step_67 ⟨Nat.le_refl 0, Nat.le_refl 0⟩) hE hH (fun H locs hH => ?_)
      cases h
      exact z_iret C hE hH dX3_step_70
    · replace h := zif_f c1_1 h
      by_cases c1_2 : x1 = 2
      · replace h := zif_t c1_2 h
        refine lv_tableIn (tgt := 71) hx hb dX3_step_1 (by rw [c1_2]; decide) (by rw [c1_2]; decide) (by rw [c1_2]; rfl) (by decide) ?_
        refine lv_aload_n hx hb dX3_step_71 rfl (lv_at hl 0 rfl) ?_
        refine lv_iload_n hx hb dX3_step_72 rfl (lv_at hl 2 rfl) ?_
        obtain ⟨u10, e11, h⟩ := zbd_s h
        refine z_calli (va_runV (As := [.int x2]) (rest := []) (z_fix C) (cX_X3_strike l D cI cS cW q H.size  x2 S e11) (cwV 1 C.2.2.2.2.1 (zGV zk12_16 zk12_17 zk12_18 zk2_5 zk12_19) rfl rfl rfl yd_X3_strike ⟨Nat.le_of_ble_eq_true rfl, Nat.le_of_ble_eq_true rfl⟩) (z_preV (zNmX hE) hE hH zX_o4 rfl) rfl rfl hl.1 rfl (lv_room (Nat.le_of_ble_eq_true rfl)) dX3_step_73 ⟨Nat.le_refl 0, Nat.le_refl 0⟩) hE hH (fun H locs hH => ?_)
        cases h
        exact z_iret C hE hH dX3_step_76
      · replace h := zif_f c1_2 h
        by_cases c1_3 : x1 = 3
        · replace h := zif_t c1_3 h
          refine lv_tableIn (tgt := 81) hx hb dX3_step_1 (by rw [c1_3]; decide) (by rw [c1_3]; decide) (by rw [c1_3]; rfl) (by decide) ?_
          refine lv_aload_n hx hb dX3_step_81 rfl (lv_at hl 0 rfl) ?_
          refine z_get C hE hH zX_o4 rfl zh_X3 3 (by decide) zk11_1 (u_same (C.2.2.2.2.1 _ zk11_2)) (v := .int (S.1 30)) rfl dX3_step_82 ?_
          cases h
          exact z_iret C hE hH dX3_step_85
        · replace h := zif_f c1_3 h
          by_cases c1_4 : x1 = 4
          · replace h := zif_t c1_4 h
            refine lv_tableIn (tgt := 77) hx hb dX3_step_1 (by rw [c1_4]; decide) (by rw [c1_4]; decide) (by rw [c1_4]; rfl) (by decide) ?_
            refine lv_iconst (v := 1) hx hb dX3_step_77 (by decide) ?_
            cases h
            exact z_iret C hE hH dX3_step_78
          · replace h := zif_f c1_4 h
            by_cases c1_5 : x1 = 5
            · replace h := zif_t c1_5 h
              refine lv_tableIn (tgt := 81) hx hb dX3_step_1 (by rw [c1_5]; decide) (by rw [c1_5]; decide) (by rw [c1_5]; rfl) (by decide) ?_
              refine lv_aload_n hx hb dX3_step_81 rfl (lv_at hl 0 rfl) ?_
              refine z_get C hE hH zX_o4 rfl zh_X3 3 (by decide) zk11_1 (u_same (C.2.2.2.2.1 _ zk11_2)) (v := .int (S.1 30)) rfl dX3_step_82 ?_
              cases h
              exact z_iret C hE hH dX3_step_85
            · replace h := zif_f c1_5 h
              by_cases c1_6 : x1 = 6
              · replace h := zif_t c1_6 h
                refine lv_tableIn (tgt := 79) hx hb dX3_step_1 (by rw [c1_6]; decide) (by rw [c1_6]; decide) (by rw [c1_6]; rfl) (by decide) ?_
                refine lv_iconst (v := 0) hx hb dX3_step_79 (by decide) ?_
                cases h
                exact z_iret C hE hH dX3_step_80
              · replace h := zif_f c1_6 h
                have ec1_0 : ¬ (x1).toInt = 0 := zsw_ne c1_0
                have ec1_1 : ¬ (x1).toInt = 1 := zsw_ne c1_1
                have ec1_2 : ¬ (x1).toInt = 2 := zsw_ne c1_2
                have ec1_3 : ¬ (x1).toInt = 3 := zsw_ne c1_3
                have ec1_4 : ¬ (x1).toInt = 4 := zsw_ne c1_4
                have ec1_5 : ¬ (x1).toInt = 5 := zsw_ne c1_5
                have ec1_6 : ¬ (x1).toInt = 6 := zsw_ne c1_6
                refine lv_tableOut (tgt := 81) hx hb dX3_step_1 (by omega) (by decide) ?_
                refine lv_aload_n hx hb dX3_step_81 rfl (lv_at hl 0 rfl) ?_
                refine z_get C hE hH zX_o4 rfl zh_X3 3 (by decide) zk11_1 (u_same (C.2.2.2.2.1 _ zk11_2)) (v := .int (S.1 30)) rfl dX3_step_82 ?_
                cases h
                exact z_iret C hE hH dX3_step_85
set_option maxHeartbeats 4000000 in
set_option maxRecDepth 100000 in
theorem cX_X3_step (l : Launch) (D : va_G) (cI cS cW : ClassId) (q : Nat → Nat) (sz : Nat) (x1 : Int32) (x2 : Int32) (S : zSt) {res : Int32 × zSt} (h : fX_X3_step x1 x2 S = some res) : zMi l yX3_step vsX3_step rmX_X3_step [.ref (q 4), .int x1, .int x2] D (zwX cI cS cW q) (zyX cI cS cW) znX sz S res.1 res.2 := by
  refine Met.ofW (cc := cX3_step) (maxL := 3) (ret := (some .int)) (by decide) rfl ?_
  intro p e s m args below meth c s₁ B hml hv
  obtain ⟨rfl, rfl, hP, hK, hD0, hN⟩ := hv
  have hl := lv_entry ([.ref (q 4), .int x1, .int x2]) (n := 3) (Nat.le_of_ble_eq_true rfl)
  rw [lg_entry_eq]
  generalize (lg_sl ([.ref (q 4), .int x1, .int x2]) ++ List.replicate (3 - (lg_sl ([.ref (q 4), .int x1, .int x2])).length) Slot.unset).toArray = ls at hl ⊢
  exact bX_X3_step ⟨B.exec, B.bytes, hml, findClass_of_methodNamed B.named, fun w h => atoms_spec (ws := vsX3_step) B.pre w (List.mem_cons_of_mem _ h), B.returns, B.notSynchronized⟩ ⟨hK, fun q h => Or.inr h, hN⟩ x1 x2 S s.heap [] ls ⟨hP, hD0.self, va_S.rf⟩ hl  h
def rmX_X4_room_Heap : Room := { frames := 0, cells := 0, slots := 0, locals := 0 }
set_option maxHeartbeats 4000000 in
set_option maxRecDepth 100000 in
theorem bX_X4_room_Heap {p : Program} {l : Launch} {e : Env} {s : State} {m : MethodId} {args : Array Value} {below : List Frame} {meth : Method} {c : Code} {D : va_G} {cI cS cW : ClassId} {q : Nat → Nat} {A : Nat → Prop} {res : Int32} (C : zCX p s m args meth c cX4_room 1 (some .int) zU RX4) (hE : zE D (zyX cI cS cW) znX A s) (S : zSt) (H : Heap) (locs : List Loc) (ls : Array Slot) (hH : zH D (zwX cI cS cW q) A s S H locs) (hl : lv_has ls 1 [(0, .ref (q 4))]) (h : fX_X4_room_Heap   S = some res) : W p l e rmX_X4_room_Heap s m args below meth c H locs 0 0 (zQi below D (zwX cI cS cW q) (zyX cI cS cW) A args s res S) (F0 m 0 ls []) := by
  have hx := C.1
  have hb := C.2.1
  unfold fX_X4_room_Heap at h
  refine lv_aload_n hx hb dX4_room_0 rfl (lv_at hl 0 rfl) ?_
  refine z_get C hE hH zX_o4 rfl zh_X3 2 (by decide) zk3_11 (fun _ h9 => h9) (v := .int (S.1 29)) rfl dX4_room_1 ?_
  cases h
  exact z_iret C hE hH dX4_room_4
set_option maxHeartbeats 4000000 in
set_option maxRecDepth 100000 in
theorem cX_X4_room_Heap (l : Launch) (D : va_G) (cI cS cW : ClassId) (q : Nat → Nat) (sz : Nat) (S : zSt) {res : Int32} (h : fX_X4_room_Heap  S = some res) : zMi l yX4_room vsX4_room rmX_X4_room_Heap [.ref (q 4)] D (zwX cI cS cW q) (zyX cI cS cW) znX sz S res S := by
  refine Met.ofW (cc := cX4_room) (maxL := 1) (ret := (some .int)) (by decide) rfl ?_
  intro p e s m args below meth c s₁ B hml hv
  obtain ⟨rfl, rfl, hP, hK, hD0, hN⟩ := hv
  have hl := lv_entry ([.ref (q 4)]) (n := 1) (Nat.le_of_ble_eq_true rfl)
  rw [lg_entry_eq]
  generalize (lg_sl ([.ref (q 4)]) ++ List.replicate (1 - (lg_sl ([.ref (q 4)])).length) Slot.unset).toArray = ls at hl ⊢
  exact bX_X4_room_Heap ⟨B.exec, B.bytes, hml, findClass_of_methodNamed B.named, fun w h => atoms_spec (ws := vsX4_room) B.pre w (List.mem_cons_of_mem _ h), B.returns, B.notSynchronized⟩ ⟨hK, fun q h => Or.inr h, hN⟩  S s.heap [] ls ⟨hP, hD0.self, va_S.rf⟩ hl  h
def rmX_X7_take_Heap : Room := { frames := 4, cells := 0, slots := 0, locals := 96 }
set_option maxHeartbeats 4000000 in
set_option maxRecDepth 100000 in
theorem bX_X7_take_Heap {p : Program} {l : Launch} {e : Env} {s : State} {m : MethodId} {args : Array Value} {below : List Frame} {meth : Method} {c : Code} {D : va_G} {cI cS cW : ClassId} {q : Nat → Nat} {A : Nat → Prop} {res : zSt} (C : zCX p s m args meth c cX7_take 3 none zU RX7) (hE : zE D (zyX cI cS cW) znX A s) (x1 x2 : Int32) (S : zSt) (H : Heap) (locs : List Loc) (ls : Array Slot) (hH : zH D (zwX cI cS cW q) A s S H locs) (hl : lv_has ls 3 [(0, .ref (q 4)), (1, .int x1), (2, .int x2)]) (h : fX_X7_take_Heap  x1 x2 S = some res) : W p l e rmX_X7_take_Heap s m args below meth c H locs 0 0 (zQv below D (zwX cI cS cW q) (zyX cI cS cW) A args s res) (F0 m 0 ls []) := by
  have hx := C.1
  have hb := C.2.1
  unfold fX_X7_take_Heap at h
  refine lv_aload_n hx hb dX7_take_0 rfl (lv_at hl 0 rfl) ?_
  refine z_get C hE hH zX_o4 rfl zh_X3 6 (by decide) zk3_18 (fun _ h9 => h9) (v := .int (S.1 16)) rfl dX7_take_1 ?_
  refine lv_sipush (v := 200) hx hb dX7_take_4 (by decide) ?_
  refine lv_icmp_ge (tgt := 48) hx hb dX7_take_7 (by decide) (fun c1 => ?_) (fun c1 => ?_)
  · replace h := zif_t c1 h
    cases h
    exact z_vret C hE hH dX7_take_48
  · replace h := zif_f c1 h
    refine lv_aload_n hx hb dX7_take_10 rfl (lv_at hl 0 rfl) ?_
    refine z_get C hE hH zX_o4 rfl zh_X3 4 (by decide) zk3_16 (fun _ h9 => h9) (v := .ref (q 14)) rfl dX7_take_11 ?_
    refine lv_aload_n hx hb dX7_take_14 rfl (lv_at hl 0 rfl) ?_
    refine z_get C hE hH zX_o4 rfl zh_X3 6 (by decide) zk3_18 (fun _ h9 => h9) (v := .int (S.1 16)) rfl dX7_take_15 ?_
    refine lv_aload_n hx hb dX7_take_18 rfl (lv_at hl 0 rfl) ?_
    refine lv_iload_n hx hb dX7_take_19 rfl (lv_at hl 1 rfl) ?_
    refine lv_iload_n hx hb dX7_take_20 rfl (lv_at hl 2 rfl) ?_
    obtain ⟨u2, e3, h⟩ := zbd_s h
    refine z_calli (va_runU (As := [.int x1, .int x2]) (rest := [.int (S.1 16), .ref (q 14)]) (z_fix C) (cX_X3_step l D cI cS cW q H.size  x1 x2 S e3) (va_cwA 2 C.2.2.2.2.1 (zGU (x := ⟨"WhichShelf$Shelf", "step", "(II)I"⟩) (owner := "WhichShelf$Shelf") zk8_4 zk8_5 zk10_22 zk10_23 zk2_5 zk11_0) rfl rfl rfl ((hE.2.2 _ znX_2).2) ydu_X7_step ⟨Nat.le_of_ble_eq_true rfl, Nat.le_of_ble_eq_true rfl⟩) (z_preV (zNmX hE) hE hH zX_o4 rfl) rfl rfl hl.1 rfl (lv_room (Nat.le_of_ble_eq_true rfl)) dX7_take_21 ⟨Nat.le_refl 0, Nat.le_refl 0⟩) hE hH (fun H locs hH => ?_)
    obtain ⟨g4, h⟩ := zgd_s h
    refine z_iast C hE hH zX_a14 (t0 := 0) rfl g4 zX_r14 dX7_take_24 (fun H locs hH => ?_)
    refine lv_aload_n hx hb dX7_take_25 rfl (lv_at hl 0 rfl) ?_
    refine z_get C hE hH zX_o4 rfl zh_X3 5 (by decide) zk3_17 (fun _ h9 => h9) (v := .ref (q 20)) rfl dX7_take_26 ?_
    refine lv_aload_n hx hb dX7_take_29 rfl (lv_at hl 0 rfl) ?_
    refine z_get C hE hH zX_o4 rfl zh_X3 6 (by decide) zk3_18 (fun _ h9 => h9) (v := .int (u2.2.1 16)) rfl dX7_take_30 ?_
    refine lv_aload_n hx hb dX7_take_33 rfl (lv_at hl 0 rfl) ?_
    obtain ⟨u5, e6, h⟩ := zbd_s h
    refine z_calli (va_runU (As := []) (rest := [.int (u2.2.1 16), .ref (q 20)]) (z_fix C) (cX_X4_room_Heap l D cI cS cW q H.size   (zsR u2.2 14 (S.1 16).toNatClampNeg u2.1) e6) (va_cwA 0 C.2.2.2.2.1 (zGU (x := ⟨"WhichShelf$Shelf", "room", "()I"⟩) (owner := "WhichShelf$Shelf") zk16_16 zk16_17 zk17_0 zk17_1 zk3_6 zk17_2) rfl rfl rfl ((hE.2.2 _ znX_3).2) ydu_X7_room ⟨Nat.le_of_ble_eq_true rfl, Nat.le_of_ble_eq_true rfl⟩) (z_preV (zNmX hE) hE hH zX_o4 rfl) rfl rfl hl.1 rfl (lv_room (Nat.le_of_ble_eq_true rfl)) dX7_take_34 ⟨Nat.le_refl 0, Nat.le_refl 0⟩) hE hH (fun H locs hH => ?_)
    obtain ⟨g7, h⟩ := zgd_s h
    refine z_iast C hE hH zX_a20 (t0 := 0) rfl g7 zX_r20 dX7_take_37 (fun H locs hH => ?_)
    refine lv_aload_n hx hb dX7_take_38 rfl (lv_at hl 0 rfl) ?_
    refine lv_dup hx hb dX7_take_39 rfl ?_
    refine z_get C hE hH zX_o4 rfl zh_X3 6 (by decide) zk3_18 (fun _ h9 => h9) (v := .int (u2.2.1 16)) rfl dX7_take_40 ?_
    refine lv_iconst (v := 1) hx hb dX7_take_43 (by decide) ?_
    refine lv_iadd hx hb dX7_take_44 ?_
    refine z_put C hE hH zX_o4 rfl zh_X3 tyX3_ok nmX3 6 (by decide) zk3_18 (fun _ h9 => h9) rfl (ty := .int) rfl rfl rfl (Nat.le_of_ble_eq_true rfl) zX_i16 dX7_take_45 (fun H locs hH => ?_)
    cases h
    exact z_vret C hE hH dX7_take_48
set_option maxHeartbeats 4000000 in
set_option maxRecDepth 100000 in
theorem cX_X7_take_Heap (l : Launch) (D : va_G) (cI cS cW : ClassId) (q : Nat → Nat) (sz : Nat) (x1 : Int32) (x2 : Int32) (S : zSt) {res : zSt} (h : fX_X7_take_Heap x1 x2 S = some res) : zMv l yX7_take vsX7_take rmX_X7_take_Heap [.ref (q 4), .int x1, .int x2] D (zwX cI cS cW q) (zyX cI cS cW) znX sz S res := by
  refine Met.ofW (cc := cX7_take) (maxL := 3) (ret := none) (by decide) rfl ?_
  intro p e s m args below meth c s₁ B hml hv
  obtain ⟨rfl, rfl, hP, hK, hD0, hN⟩ := hv
  have hl := lv_entry ([.ref (q 4), .int x1, .int x2]) (n := 3) (Nat.le_of_ble_eq_true rfl)
  rw [lg_entry_eq]
  generalize (lg_sl ([.ref (q 4), .int x1, .int x2]) ++ List.replicate (3 - (lg_sl ([.ref (q 4), .int x1, .int x2])).length) Slot.unset).toArray = ls at hl ⊢
  exact bX_X7_take_Heap ⟨B.exec, B.bytes, hml, findClass_of_methodNamed B.named, fun w h => atoms_spec (ws := vsX7_take) B.pre w (List.mem_cons_of_mem _ h), B.returns, B.notSynchronized⟩ ⟨hK, fun q h => Or.inr h, hN⟩ x1 x2 S s.heap [] ls ⟨hP, hD0.self, va_S.rf⟩ hl  h
def rmX_X0_lookFrom : Room := { frames := 0, cells := 0, slots := 0, locals := 0 }
set_option maxHeartbeats 4000000 in
set_option maxRecDepth 100000 in
theorem bX_X0_lookFrom_23 {p : Program} {l : Launch} {e : Env} {s : State} {m : MethodId} {args : Array Value} {below : List Frame} {meth : Method} {c : Code} {D : va_G} {cI cS cW : ClassId} {q : Nat → Nat} {A : Nat → Prop} {res : Int32} (C : zCX p s m args meth c cX0_lookFrom 3 (some .int) zU RX0) (hE : zE D (zyX cI cS cW) znX A s) (x1 x2 : Int32) (S : zSt) (H : Heap) (locs : List Loc) (ls : Array Slot) (hH : zH D (zwX cI cS cW q) A s S H locs) (hl : lv_has ls 3 [(1, .int x1), (2, .int x2)]) (h : fX_X0_lookFrom_23  x1 x2 S = some res) : W p l e rmX_X0_lookFrom s m args below meth c H locs 0 0 (zQi below D (zwX cI cS cW q) (zyX cI cS cW) A args s res S) (F0 m 23 ls []) := by
  have hx := C.1
  have hb := C.2.1
  unfold fX_X0_lookFrom_23 at h
  refine lv_iload_n hx hb dX0_lookFrom_23 rfl (lv_at hl 1 rfl) ?_
  refine lv_iload_n hx hb dX0_lookFrom_24 rfl (lv_at hl 0 rfl) ?_
  refine lv_isub hx hb dX0_lookFrom_25 ?_
  refine lv_iconst (v := 1) hx hb dX0_lookFrom_26 (by decide) ?_
  refine lv_iadd hx hb dX0_lookFrom_27 ?_
  cases h
  exact z_iret C hE hH dX0_lookFrom_28
set_option maxHeartbeats 4000000 in
set_option maxRecDepth 100000 in
theorem bX_X0_lookFrom_2 {p : Program} {l : Launch} {e : Env} {s : State} {m : MethodId} {args : Array Value} {below : List Frame} {meth : Method} {c : Code} {D : va_G} {cI cS cW : ClassId} {q : Nat → Nat} {A : Nat → Prop} {res : Int32} (C : zCX p s m args meth c cX0_lookFrom 3 (some .int) zU RX0) (hE : zE D (zyX cI cS cW) znX A s) : ∀ (n : Nat) (x1 x2 : Int32) (S : zSt) (H : Heap) (locs : List Loc) (ls : Array Slot), zH D (zwX cI cS cW q) A s S H locs → lv_has ls 3 [(0, .ref (q 5)), (1, .int x1), (2, .int x2)] → fX_X0_lookFrom_2  n x1 x2 S = some res → W p l e rmX_X0_lookFrom s m args below meth c H locs 0 0 (zQi below D (zwX cI cS cW q) (zyX cI cS cW) A args s res S) (F0 m 2 ls []) := by
  have hx := C.1
  have hb := C.2.1
  intro n
  induction n with
  | zero =>
    intro x1 x2 S H locs ls hH hl  h
    cases h
  | succ n hK2 =>
    intro x1 x2 S H locs ls hH hl  h
    rw [fX_X0_lookFrom_2] at h
    refine lv_iload_n hx hb dX0_lookFrom_2 rfl (lv_at hl 2 rfl) ?_
    refine lv_bipush (v := 63) hx hb dX0_lookFrom_3 (by decide) ?_
    refine lv_icmp_ge (tgt := 23) hx hb dX0_lookFrom_5 (by decide) (fun c1 => ?_) (fun c1 => ?_)
    · replace h := zif_t c1 h
      exact bX_X0_lookFrom_23 C hE   x1 x2 S H locs ls hH (lv_sub hl [1, 2] rfl) h
    · replace h := zif_f c1 h
      refine lv_aload_n hx hb dX0_lookFrom_8 rfl (lv_at hl 0 rfl) ?_
      refine z_get C hE hH zX_o5 rfl zh_X0 0 (by decide) zk8_9 (u_same (C.2.2.2.2.1 _ zk8_10)) (v := .ref (q 39)) rfl dX0_lookFrom_9 ?_
      refine lv_iload_n hx hb dX0_lookFrom_12 rfl (lv_at hl 2 rfl) ?_
      obtain ⟨g2, h⟩ := zgd_s h
      refine z_iald C hE hH zX_a39 (t0 := 0) rfl g2 dX0_lookFrom_13 ?_
      refine lv_if_ne (tgt := 23) hx hb dX0_lookFrom_14 (by decide) (fun c3 => ?_) (fun c3 => ?_)
      · replace h := zif_f c3 h
        exact bX_X0_lookFrom_23 C hE   x1 x2 S H locs ls hH (lv_sub hl [1, 2] rfl) h
      · replace h := zif_t c3 h
        refine lv_iinc (v := (x2 + 1)) (lv' := [(2, .int (x2 + 1)), (0, .ref (q 5)), (1, .int x1)]) hx hb dX0_lookFrom_17 hl (k := 2) rfl rfl (by decide) rfl (fun ls hl => ?_)
        refine lv_goto (tgt := 2) hx hb dX0_lookFrom_20 (by decide) ?_
        exact hK2 x1 (x2 + 1) S H locs ls hH (lv_sub hl [1, 2, 0] rfl) h
set_option maxHeartbeats 4000000 in
set_option maxRecDepth 100000 in
theorem bX_X0_lookFrom {p : Program} {l : Launch} {e : Env} {s : State} {m : MethodId} {args : Array Value} {below : List Frame} {meth : Method} {c : Code} {D : va_G} {cI cS cW : ClassId} {q : Nat → Nat} {A : Nat → Prop} {res : Int32} (C : zCX p s m args meth c cX0_lookFrom 3 (some .int) zU RX0) (hE : zE D (zyX cI cS cW) znX A s) (x1 : Int32) (S : zSt) (H : Heap) (locs : List Loc) (ls : Array Slot) (hH : zH D (zwX cI cS cW q) A s S H locs) (hl : lv_has ls 3 [(0, .ref (q 5)), (1, .int x1)]) (h : fX_X0_lookFrom  x1 S = some res) : W p l e rmX_X0_lookFrom s m args below meth c H locs 0 0 (zQi below D (zwX cI cS cW q) (zyX cI cS cW) A args s res S) (F0 m 0 ls []) := by
  have hx := C.1
  have hb := C.2.1
  unfold fX_X0_lookFrom at h
  refine lv_iload_n hx hb dX0_lookFrom_0 rfl (lv_at hl 1 rfl) ?_
  refine lv_istore_n (lv' := [(2, .int x1), (0, .ref (q 5)), (1, .int x1)]) hx hb dX0_lookFrom_1 rfl hl (by decide) rfl (fun ls hl => ?_)
  exact bX_X0_lookFrom_2 C hE   1000 x1 x1 S H locs ls hH (lv_sub hl [1, 2, 0] rfl) h
set_option maxHeartbeats 4000000 in
set_option maxRecDepth 100000 in
theorem cX_X0_lookFrom (l : Launch) (D : va_G) (cI cS cW : ClassId) (q : Nat → Nat) (sz : Nat) (x1 : Int32) (S : zSt) {res : Int32} (h : fX_X0_lookFrom x1 S = some res) : zMi l yX0_lookFrom vsX0_lookFrom rmX_X0_lookFrom [.ref (q 5), .int x1] D (zwX cI cS cW q) (zyX cI cS cW) znX sz S res S := by
  refine Met.ofW (cc := cX0_lookFrom) (maxL := 3) (ret := (some .int)) (by decide) rfl ?_
  intro p e s m args below meth c s₁ B hml hv
  obtain ⟨rfl, rfl, hP, hK, hD0, hN⟩ := hv
  have hl := lv_entry ([.ref (q 5), .int x1]) (n := 3) (Nat.le_of_ble_eq_true rfl)
  rw [lg_entry_eq]
  generalize (lg_sl ([.ref (q 5), .int x1]) ++ List.replicate (3 - (lg_sl ([.ref (q 5), .int x1])).length) Slot.unset).toArray = ls at hl ⊢
  exact bX_X0_lookFrom ⟨B.exec, B.bytes, hml, findClass_of_methodNamed B.named, fun w h => atoms_spec (ws := vsX0_lookFrom) B.pre w (List.mem_cons_of_mem _ h), B.returns, B.notSynchronized⟩ ⟨hK, fun q h => Or.inr h, hN⟩ x1 S s.heap [] ls ⟨hP, hD0.self, va_S.rf⟩ hl  h
def rmX_X0_step : Room := { frames := 1, cells := 0, slots := 0, locals := 22 }
set_option maxHeartbeats 4000000 in
set_option maxRecDepth 100000 in
theorem bX_X0_step {p : Program} {l : Launch} {e : Env} {s : State} {m : MethodId} {args : Array Value} {below : List Frame} {meth : Method} {c : Code} {D : va_G} {cI cS cW : ClassId} {q : Nat → Nat} {A : Nat → Prop} {res : Int32 × zSt} (C : zCX p s m args meth c cX0_step 3 (some .int) zU RX0) (hE : zE D (zyX cI cS cW) znX A s) (x1 x2 : Int32) (S : zSt) (H : Heap) (locs : List Loc) (ls : Array Slot) (hH : zH D (zwX cI cS cW q) A s S H locs) (hl : lv_has ls 3 [(0, .ref (q 5)), (1, .int x1), (2, .int x2)]) (h : fX_X0_step  x1 x2 S = some res) : W p l e rmX_X0_step s m args below meth c H locs 0 0 (zQi below D (zwX cI cS cW q) (zyX cI cS cW) A args s res.1 res.2) (F0 m 0 ls []) := by
  have hx := C.1
  have hb := C.2.1
  unfold fX_X0_step at h
  refine lv_iload_n hx hb dX0_step_0 rfl (lv_at hl 1 rfl) ?_
  by_cases c1_0 : x1 = 0
  · replace h := zif_t c1_0 h
    refine lv_tableIn (tgt := 44) hx hb dX0_step_1 (by rw [c1_0]; decide) (by rw [c1_0]; decide) (by rw [c1_0]; rfl) (by decide) ?_
    refine lv_aload_n hx hb dX0_step_44 rfl (lv_at hl 0 rfl) ?_
    refine z_get C hE hH zX_o5 rfl zh_X0 0 (by decide) zk8_9 (u_same (C.2.2.2.2.1 _ zk8_10)) (v := .ref (q 39)) rfl dX0_step_45 ?_
    refine lv_iload_n hx hb dX0_step_48 rfl (lv_at hl 2 rfl) ?_
    refine lv_dup2_11 hx hb dX0_step_49 rfl rfl ?_
    obtain ⟨g2, h⟩ := zgd_s h
    refine z_iald C hE hH zX_a39 (t0 := 0) rfl g2 dX0_step_50 ?_
    refine lv_iconst (v := 1) hx hb dX0_step_51 (by decide) ?_
    refine lv_iadd hx hb dX0_step_52 ?_
    obtain ⟨g3, h⟩ := zgd_s h
    refine z_iast C hE hH zX_a39 (t0 := 0) rfl g3 zX_r39 dX0_step_53 (fun H locs hH => ?_)
    refine lv_iconst (v := 1) hx hb dX0_step_54 (by decide) ?_
    cases h
    exact z_iret C hE hH dX0_step_55
  · replace h := zif_f c1_0 h
    by_cases c1_1 : x1 = 1
    · replace h := zif_t c1_1 h
      refine lv_tableIn (tgt := 93) hx hb dX0_step_1 (by rw [c1_1]; decide) (by rw [c1_1]; decide) (by rw [c1_1]; rfl) (by decide) ?_
      refine lv_iconst (v := 1) hx hb dX0_step_93 (by decide) ?_
      cases h
      exact z_iret C hE hH dX0_step_94
    · replace h := zif_f c1_1 h
      by_cases c1_2 : x1 = 2
      · replace h := zif_t c1_2 h
        refine lv_tableIn (tgt := 56) hx hb dX0_step_1 (by rw [c1_2]; decide) (by rw [c1_2]; decide) (by rw [c1_2]; rfl) (by decide) ?_
        refine lv_aload_n hx hb dX0_step_56 rfl (lv_at hl 0 rfl) ?_
        refine z_get C hE hH zX_o5 rfl zh_X0 0 (by decide) zk8_9 (u_same (C.2.2.2.2.1 _ zk8_10)) (v := .ref (q 39)) rfl dX0_step_57 ?_
        refine lv_iload_n hx hb dX0_step_60 rfl (lv_at hl 2 rfl) ?_
        refine lv_aload_n hx hb dX0_step_61 rfl (lv_at hl 0 rfl) ?_
        refine z_get C hE hH zX_o5 rfl zh_X0 0 (by decide) zk8_9 (u_same (C.2.2.2.2.1 _ zk8_10)) (v := .ref (q 39)) rfl dX0_step_62 ?_
        refine lv_iload_n hx hb dX0_step_65 rfl (lv_at hl 2 rfl) ?_
        obtain ⟨g4, h⟩ := zgd_s h
        refine z_iald C hE hH zX_a39 (t0 := 0) rfl g4 dX0_step_66 ?_
        refine lv_iconst (v := 1) hx hb dX0_step_67 (by decide) ?_
        refine lv_isub hx hb dX0_step_68 ?_
        refine lv_iconst (v := 0) hx hb dX0_step_69 (by decide) ?_
        refine z_mmax C hl.1 zk8_11 zk8_12 zk8_13 zk8_14 (Nat.le_of_ble_eq_true rfl) (Nat.le_of_ble_eq_true rfl) dX0_step_70 ?_
        obtain ⟨g5, h⟩ := zgd_s h
        refine z_iast C hE hH zX_a39 (t0 := 0) rfl g5 zX_r39 dX0_step_73 (fun H locs hH => ?_)
        refine lv_iconst (v := 1) hx hb dX0_step_74 (by decide) ?_
        cases h
        exact z_iret C hE hH dX0_step_75
      · replace h := zif_f c1_2 h
        by_cases c1_3 : x1 = 3
        · replace h := zif_t c1_3 h
          refine lv_tableIn (tgt := 76) hx hb dX0_step_1 (by rw [c1_3]; decide) (by rw [c1_3]; decide) (by rw [c1_3]; rfl) (by decide) ?_
          refine lv_bipush (v := 64) hx hb dX0_step_76 (by decide) ?_
          cases h
          exact z_iret C hE hH dX0_step_78
        · replace h := zif_f c1_3 h
          by_cases c1_4 : x1 = 4
          · replace h := zif_t c1_4 h
            refine lv_tableIn (tgt := 79) hx hb dX0_step_1 (by rw [c1_4]; decide) (by rw [c1_4]; decide) (by rw [c1_4]; rfl) (by decide) ?_
            refine lv_aload_n hx hb dX0_step_79 rfl (lv_at hl 0 rfl) ?_
            refine lv_iconst (v := 0) hx hb dX0_step_80 (by decide) ?_
            obtain ⟨u6, e7, h⟩ := zbd_s h
            refine z_calli (va_runV (As := [.int 0]) (rest := []) (z_fix C) (cX_X0_lookFrom l D cI cS cW q H.size  0 S e7) (cwV 1 C.2.2.2.2.1 (zGV zk8_15 zk8_16 zk8_17 zk2_8 zk8_18) rfl rfl rfl yd_X0_lookFrom ⟨Nat.le_of_ble_eq_true rfl, Nat.le_of_ble_eq_true rfl⟩) (z_preV (zNmX hE) hE hH zX_o5 rfl) rfl rfl hl.1 rfl (lv_room (Nat.le_of_ble_eq_true rfl)) dX0_step_81 ⟨Nat.le_refl 0, Nat.le_refl 0⟩) hE hH (fun H locs hH => ?_)
            cases h
            exact z_iret C hE hH dX0_step_84
          · replace h := zif_f c1_4 h
            by_cases c1_5 : x1 = 5
            · replace h := zif_t c1_5 h
              refine lv_tableIn (tgt := 85) hx hb dX0_step_1 (by rw [c1_5]; decide) (by rw [c1_5]; decide) (by rw [c1_5]; rfl) (by decide) ?_
              refine lv_aload_n hx hb dX0_step_85 rfl (lv_at hl 0 rfl) ?_
              refine lv_iload_n hx hb dX0_step_86 rfl (lv_at hl 2 rfl) ?_
              obtain ⟨u8, e9, h⟩ := zbd_s h
              refine z_calli (va_runV (As := [.int x2]) (rest := []) (z_fix C) (cX_X0_lookFrom l D cI cS cW q H.size  x2 S e9) (cwV 1 C.2.2.2.2.1 (zGV zk8_15 zk8_16 zk8_17 zk2_8 zk8_18) rfl rfl rfl yd_X0_lookFrom ⟨Nat.le_of_ble_eq_true rfl, Nat.le_of_ble_eq_true rfl⟩) (z_preV (zNmX hE) hE hH zX_o5 rfl) rfl rfl hl.1 rfl (lv_room (Nat.le_of_ble_eq_true rfl)) dX0_step_87 ⟨Nat.le_refl 0, Nat.le_refl 0⟩) hE hH (fun H locs hH => ?_)
              cases h
              exact z_iret C hE hH dX0_step_90
            · replace h := zif_f c1_5 h
              by_cases c1_6 : x1 = 6
              · replace h := zif_t c1_6 h
                refine lv_tableIn (tgt := 91) hx hb dX0_step_1 (by rw [c1_6]; decide) (by rw [c1_6]; decide) (by rw [c1_6]; rfl) (by decide) ?_
                refine lv_iconst (v := 0) hx hb dX0_step_91 (by decide) ?_
                cases h
                exact z_iret C hE hH dX0_step_92
              · replace h := zif_f c1_6 h
                have ec1_0 : ¬ (x1).toInt = 0 := zsw_ne c1_0
                have ec1_1 : ¬ (x1).toInt = 1 := zsw_ne c1_1
                have ec1_2 : ¬ (x1).toInt = 2 := zsw_ne c1_2
                have ec1_3 : ¬ (x1).toInt = 3 := zsw_ne c1_3
                have ec1_4 : ¬ (x1).toInt = 4 := zsw_ne c1_4
                have ec1_5 : ¬ (x1).toInt = 5 := zsw_ne c1_5
                have ec1_6 : ¬ (x1).toInt = 6 := zsw_ne c1_6
                refine lv_tableOut (tgt := 93) hx hb dX0_step_1 (by omega) (by decide) ?_
                refine lv_iconst (v := 1) hx hb dX0_step_93 (by decide) ?_
                cases h
                exact z_iret C hE hH dX0_step_94
set_option maxHeartbeats 4000000 in
set_option maxRecDepth 100000 in
theorem cX_X0_step (l : Launch) (D : va_G) (cI cS cW : ClassId) (q : Nat → Nat) (sz : Nat) (x1 : Int32) (x2 : Int32) (S : zSt) {res : Int32 × zSt} (h : fX_X0_step x1 x2 S = some res) : zMi l yX0_step vsX0_step rmX_X0_step [.ref (q 5), .int x1, .int x2] D (zwX cI cS cW q) (zyX cI cS cW) znX sz S res.1 res.2 := by
  refine Met.ofW (cc := cX0_step) (maxL := 3) (ret := (some .int)) (by decide) rfl ?_
  intro p e s m args below meth c s₁ B hml hv
  obtain ⟨rfl, rfl, hP, hK, hD0, hN⟩ := hv
  have hl := lv_entry ([.ref (q 5), .int x1, .int x2]) (n := 3) (Nat.le_of_ble_eq_true rfl)
  rw [lg_entry_eq]
  generalize (lg_sl ([.ref (q 5), .int x1, .int x2]) ++ List.replicate (3 - (lg_sl ([.ref (q 5), .int x1, .int x2])).length) Slot.unset).toArray = ls at hl ⊢
  exact bX_X0_step ⟨B.exec, B.bytes, hml, findClass_of_methodNamed B.named, fun w h => atoms_spec (ws := vsX0_step) B.pre w (List.mem_cons_of_mem _ h), B.returns, B.notSynchronized⟩ ⟨hK, fun q h => Or.inr h, hN⟩ x1 x2 S s.heap [] ls ⟨hP, hD0.self, va_S.rf⟩ hl  h
def rmX_X0_room : Room := { frames := 0, cells := 0, slots := 0, locals := 0 }
set_option maxHeartbeats 4000000 in
set_option maxRecDepth 100000 in
theorem bX_X0_room {p : Program} {l : Launch} {e : Env} {s : State} {m : MethodId} {args : Array Value} {below : List Frame} {meth : Method} {c : Code} {D : va_G} {cI cS cW : ClassId} {q : Nat → Nat} {A : Nat → Prop} {res : Int32} (C : zCX p s m args meth c cX0_room 1 (some .int) zU RX0) (hE : zE D (zyX cI cS cW) znX A s) (S : zSt) (H : Heap) (locs : List Loc) (ls : Array Slot) (hH : zH D (zwX cI cS cW q) A s S H locs) (hl : lv_has ls 1 [(0, .ref (q 5))]) (h : fX_X0_room   S = some res) : W p l e rmX_X0_room s m args below meth c H locs 0 0 (zQi below D (zwX cI cS cW q) (zyX cI cS cW) A args s res S) (F0 m 0 ls []) := by
  have hx := C.1
  have hb := C.2.1
  unfold fX_X0_room at h
  refine lv_bipush (v := 64) hx hb dX0_room_0 (by decide) ?_
  cases h
  exact z_iret C hE hH dX0_room_2
set_option maxHeartbeats 4000000 in
set_option maxRecDepth 100000 in
theorem cX_X0_room (l : Launch) (D : va_G) (cI cS cW : ClassId) (q : Nat → Nat) (sz : Nat) (S : zSt) {res : Int32} (h : fX_X0_room  S = some res) : zMi l yX0_room vsX0_room rmX_X0_room [.ref (q 5)] D (zwX cI cS cW q) (zyX cI cS cW) znX sz S res S := by
  refine Met.ofW (cc := cX0_room) (maxL := 1) (ret := (some .int)) (by decide) rfl ?_
  intro p e s m args below meth c s₁ B hml hv
  obtain ⟨rfl, rfl, hP, hK, hD0, hN⟩ := hv
  have hl := lv_entry ([.ref (q 5)]) (n := 1) (Nat.le_of_ble_eq_true rfl)
  rw [lg_entry_eq]
  generalize (lg_sl ([.ref (q 5)]) ++ List.replicate (1 - (lg_sl ([.ref (q 5)])).length) Slot.unset).toArray = ls at hl ⊢
  exact bX_X0_room ⟨B.exec, B.bytes, hml, findClass_of_methodNamed B.named, fun w h => atoms_spec (ws := vsX0_room) B.pre w (List.mem_cons_of_mem _ h), B.returns, B.notSynchronized⟩ ⟨hK, fun q h => Or.inr h, hN⟩  S s.heap [] ls ⟨hP, hD0.self, va_S.rf⟩ hl  h
def rmX_X7_take_Bits : Room := { frames := 2, cells := 0, slots := 0, locals := 44 }
set_option maxHeartbeats 4000000 in
set_option maxRecDepth 100000 in
theorem bX_X7_take_Bits {p : Program} {l : Launch} {e : Env} {s : State} {m : MethodId} {args : Array Value} {below : List Frame} {meth : Method} {c : Code} {D : va_G} {cI cS cW : ClassId} {q : Nat → Nat} {A : Nat → Prop} {res : zSt} (C : zCX p s m args meth c cX7_take 3 none zU RX7) (hE : zE D (zyX cI cS cW) znX A s) (x1 x2 : Int32) (S : zSt) (H : Heap) (locs : List Loc) (ls : Array Slot) (hH : zH D (zwX cI cS cW q) A s S H locs) (hl : lv_has ls 3 [(0, .ref (q 5)), (1, .int x1), (2, .int x2)]) (h : fX_X7_take_Bits  x1 x2 S = some res) : W p l e rmX_X7_take_Bits s m args below meth c H locs 0 0 (zQv below D (zwX cI cS cW q) (zyX cI cS cW) A args s res) (F0 m 0 ls []) := by
  have hx := C.1
  have hb := C.2.1
  unfold fX_X7_take_Bits at h
  refine lv_aload_n hx hb dX7_take_0 rfl (lv_at hl 0 rfl) ?_
  refine z_get C hE hH zX_o5 rfl zh_X0 3 (by decide) zk3_18 (fun _ h9 => h9) (v := .int (S.1 17)) rfl dX7_take_1 ?_
  refine lv_sipush (v := 200) hx hb dX7_take_4 (by decide) ?_
  refine lv_icmp_ge (tgt := 48) hx hb dX7_take_7 (by decide) (fun c1 => ?_) (fun c1 => ?_)
  · replace h := zif_t c1 h
    cases h
    exact z_vret C hE hH dX7_take_48
  · replace h := zif_f c1 h
    refine lv_aload_n hx hb dX7_take_10 rfl (lv_at hl 0 rfl) ?_
    refine z_get C hE hH zX_o5 rfl zh_X0 1 (by decide) zk3_16 (fun _ h9 => h9) (v := .ref (q 15)) rfl dX7_take_11 ?_
    refine lv_aload_n hx hb dX7_take_14 rfl (lv_at hl 0 rfl) ?_
    refine z_get C hE hH zX_o5 rfl zh_X0 3 (by decide) zk3_18 (fun _ h9 => h9) (v := .int (S.1 17)) rfl dX7_take_15 ?_
    refine lv_aload_n hx hb dX7_take_18 rfl (lv_at hl 0 rfl) ?_
    refine lv_iload_n hx hb dX7_take_19 rfl (lv_at hl 1 rfl) ?_
    refine lv_iload_n hx hb dX7_take_20 rfl (lv_at hl 2 rfl) ?_
    obtain ⟨u2, e3, h⟩ := zbd_s h
    refine z_calli (va_runU (As := [.int x1, .int x2]) (rest := [.int (S.1 17), .ref (q 15)]) (z_fix C) (cX_X0_step l D cI cS cW q H.size  x1 x2 S e3) (va_cwA 2 C.2.2.2.2.1 (zGU (x := ⟨"WhichShelf$Shelf", "step", "(II)I"⟩) (owner := "WhichShelf$Shelf") zk8_4 zk8_5 zk8_6 zk8_7 zk2_8 zk8_8) rfl rfl rfl ((hE.2.2 _ znX_2).2) ydu_X7_step ⟨Nat.le_of_ble_eq_true rfl, Nat.le_of_ble_eq_true rfl⟩) (z_preV (zNmX hE) hE hH zX_o5 rfl) rfl rfl hl.1 rfl (lv_room (Nat.le_of_ble_eq_true rfl)) dX7_take_21 ⟨Nat.le_refl 0, Nat.le_refl 0⟩) hE hH (fun H locs hH => ?_)
    obtain ⟨g4, h⟩ := zgd_s h
    refine z_iast C hE hH zX_a15 (t0 := 0) rfl g4 zX_r15 dX7_take_24 (fun H locs hH => ?_)
    refine lv_aload_n hx hb dX7_take_25 rfl (lv_at hl 0 rfl) ?_
    refine z_get C hE hH zX_o5 rfl zh_X0 2 (by decide) zk3_17 (fun _ h9 => h9) (v := .ref (q 21)) rfl dX7_take_26 ?_
    refine lv_aload_n hx hb dX7_take_29 rfl (lv_at hl 0 rfl) ?_
    refine z_get C hE hH zX_o5 rfl zh_X0 3 (by decide) zk3_18 (fun _ h9 => h9) (v := .int (u2.2.1 17)) rfl dX7_take_30 ?_
    refine lv_aload_n hx hb dX7_take_33 rfl (lv_at hl 0 rfl) ?_
    obtain ⟨u5, e6, h⟩ := zbd_s h
    refine z_calli (va_runU (As := []) (rest := [.int (u2.2.1 17), .ref (q 21)]) (z_fix C) (cX_X0_room l D cI cS cW q H.size   (zsR u2.2 15 (S.1 17).toNatClampNeg u2.1) e6) (va_cwA 0 C.2.2.2.2.1 (zGU (x := ⟨"WhichShelf$Shelf", "room", "()I"⟩) (owner := "WhichShelf$Shelf") zk16_16 zk16_17 zk16_18 zk16_19 zk2_8 zk16_20) rfl rfl rfl ((hE.2.2 _ znX_3).2) ydu_X7_room ⟨Nat.le_of_ble_eq_true rfl, Nat.le_of_ble_eq_true rfl⟩) (z_preV (zNmX hE) hE hH zX_o5 rfl) rfl rfl hl.1 rfl (lv_room (Nat.le_of_ble_eq_true rfl)) dX7_take_34 ⟨Nat.le_refl 0, Nat.le_refl 0⟩) hE hH (fun H locs hH => ?_)
    obtain ⟨g7, h⟩ := zgd_s h
    refine z_iast C hE hH zX_a21 (t0 := 0) rfl g7 zX_r21 dX7_take_37 (fun H locs hH => ?_)
    refine lv_aload_n hx hb dX7_take_38 rfl (lv_at hl 0 rfl) ?_
    refine lv_dup hx hb dX7_take_39 rfl ?_
    refine z_get C hE hH zX_o5 rfl zh_X0 3 (by decide) zk3_18 (fun _ h9 => h9) (v := .int (u2.2.1 17)) rfl dX7_take_40 ?_
    refine lv_iconst (v := 1) hx hb dX7_take_43 (by decide) ?_
    refine lv_iadd hx hb dX7_take_44 ?_
    refine z_put C hE hH zX_o5 rfl zh_X0 tyX0_ok nmX0 3 (by decide) zk3_18 (fun _ h9 => h9) rfl (ty := .int) rfl rfl rfl (Nat.le_of_ble_eq_true rfl) zX_i17 dX7_take_45 (fun H locs hH => ?_)
    cases h
    exact z_vret C hE hH dX7_take_48
set_option maxHeartbeats 4000000 in
set_option maxRecDepth 100000 in
theorem cX_X7_take_Bits (l : Launch) (D : va_G) (cI cS cW : ClassId) (q : Nat → Nat) (sz : Nat) (x1 : Int32) (x2 : Int32) (S : zSt) {res : zSt} (h : fX_X7_take_Bits x1 x2 S = some res) : zMv l yX7_take vsX7_take rmX_X7_take_Bits [.ref (q 5), .int x1, .int x2] D (zwX cI cS cW q) (zyX cI cS cW) znX sz S res := by
  refine Met.ofW (cc := cX7_take) (maxL := 3) (ret := none) (by decide) rfl ?_
  intro p e s m args below meth c s₁ B hml hv
  obtain ⟨rfl, rfl, hP, hK, hD0, hN⟩ := hv
  have hl := lv_entry ([.ref (q 5), .int x1, .int x2]) (n := 3) (Nat.le_of_ble_eq_true rfl)
  rw [lg_entry_eq]
  generalize (lg_sl ([.ref (q 5), .int x1, .int x2]) ++ List.replicate (3 - (lg_sl ([.ref (q 5), .int x1, .int x2])).length) Slot.unset).toArray = ls at hl ⊢
  exact bX_X7_take_Bits ⟨B.exec, B.bytes, hml, findClass_of_methodNamed B.named, fun w h => atoms_spec (ws := vsX7_take) B.pre w (List.mem_cons_of_mem _ h), B.returns, B.notSynchronized⟩ ⟨hK, fun q h => Or.inr h, hN⟩ x1 x2 S s.heap [] ls ⟨hP, hD0.self, va_S.rf⟩ hl  h

def rmX_X10_makePlan : Room := { frames := 3, cells := 0, slots := 0, locals := 77 }
set_option maxHeartbeats 4000000 in
set_option maxRecDepth 100000 in
theorem bX_X10_makePlan {p : Program} {l : Launch} {e : Env} {s : State} {m : MethodId} {args : Array Value} {below : List Frame} {meth : Method} {c : Code} {D : va_G} {cI cS cW : ClassId} {q : Nat → Nat} {A : Nat → Prop} {res : zSt} (C : zCX p s m args meth c cX10_makePlan 1 none zU RX10) (hE : zE D (zyX cI cS cW) znX A s) (S : zSt) (H : Heap) (locs : List Loc) (ls : Array Slot) (hH : zH D (zwX cI cS cW q) A s S H locs) (hl : lv_has ls 1 [(0, .ref (q 6))]) (h : fX_X10_makePlan   S = some res) : W p l e rmX_X10_makePlan s m args below meth c H locs 0 0 (zQv below D (zwX cI cS cW q) (zyX cI cS cW) A args s res) (F0 m 0 ls []) := by
  have hx := C.1
  have hb := C.2.1
  unfold fX_X10_makePlan at h
  refine lv_aload_n hx hb dX10_makePlan_0 rfl (lv_at hl 0 rfl) ?_
  refine z_get C hE hH zX_o6 rfl zh_X10 12 (by decide) zk3_0 (fun _ h9 => h9) (v := .int (S.1 5)) rfl dX10_makePlan_1 ?_
  refine lv_if_ne (tgt := 61) hx hb dX10_makePlan_4 (by decide) (fun c1 => ?_) (fun c1 => ?_)
  · replace h := zif_f c1 h
    cases h
    exact z_vret C hE hH dX10_makePlan_61
  · replace h := zif_t c1 h
    refine lv_aload_n hx hb dX10_makePlan_7 rfl (lv_at hl 0 rfl) ?_
    refine z_get C hE hH zX_o6 rfl zh_X10 11 (by decide) zk2_23 (fun _ h9 => h9) (v := .ref (q 7)) rfl dX10_makePlan_8 ?_
    refine lv_aload_n hx hb dX10_makePlan_11 rfl (lv_at hl 0 rfl) ?_
    obtain ⟨u2, e3, h⟩ := zbd_s h
    refine z_calli (va_runV (As := []) (rest := [.ref (q 7)]) (z_fix C) (cX_X10_offered l D cI cS cW q H.size   S e3) (cwV 0 C.2.2.2.2.1 (zGV zk30_20 zk30_21 zk30_22 zk1_2 zk30_23) rfl rfl rfl yd_X10_offered ⟨Nat.le_of_ble_eq_true rfl, Nat.le_of_ble_eq_true rfl⟩) (z_preV (zNmX hE) hE hH zX_o6 rfl) rfl rfl hl.1 rfl (lv_room (Nat.le_of_ble_eq_true rfl)) dX10_makePlan_12 ⟨Nat.le_refl 0, Nat.le_refl 0⟩) hE hH (fun H locs hH => ?_)
    refine lv_aload_n hx hb dX10_makePlan_15 rfl (lv_at hl 0 rfl) ?_
    refine z_get C hE hH zX_o6 rfl zh_X10 6 (by decide) zk2_15 (fun _ h9 => h9) (v := .int (S.1 0)) rfl dX10_makePlan_16 ?_
    refine lv_aload_n hx hb dX10_makePlan_19 rfl (lv_at hl 0 rfl) ?_
    refine z_get C hE hH zX_o6 rfl zh_X10 9 (by decide) zk2_18 (fun _ h9 => h9) (v := .int (S.1 3)) rfl dX10_makePlan_20 ?_
    refine lv_aload_n hx hb dX10_makePlan_23 rfl (lv_at hl 0 rfl) ?_
    refine z_get C hE hH zX_o6 rfl zh_X10 10 (by decide) zk2_19 (fun _ h9 => h9) (v := .int (S.1 4)) rfl dX10_makePlan_24 ?_
    obtain ⟨u4, e5, h⟩ := zbd_s h
    refine z_callv (va_runV (As := [.int u2, .int (S.1 0), .int (S.1 3), .int (S.1 4)]) (rest := []) (z_fix C) (cX_X5_open l D cI cS cW q H.size  u2 (S.1 0) (S.1 3) (S.1 4) S e5) (cwV 4 C.2.2.2.2.1 (zGV zk33_20 zk33_21 zk33_22 zk2_22 zk33_23) rfl rfl rfl yd_X5_open ⟨Nat.le_of_ble_eq_true rfl, Nat.le_of_ble_eq_true rfl⟩) (z_preV (zNmX hE) hE hH zX_o7 rfl) rfl rfl hl.1 rfl (lv_room (Nat.le_of_ble_eq_true rfl)) dX10_makePlan_27 ⟨Nat.le_refl 0, Nat.le_refl 0⟩) hE hH (fun H locs hH => ?_)
    refine lv_aload_n hx hb dX10_makePlan_30 rfl (lv_at hl 0 rfl) ?_
    refine z_get C hE hH zX_o6 rfl zh_X10 11 (by decide) zk2_23 (fun _ h9 => h9) (v := .ref (q 7)) rfl dX10_makePlan_31 ?_
    refine lv_aload_n hx hb dX10_makePlan_34 rfl (lv_at hl 0 rfl) ?_
    refine z_get C hE hH zX_o6 rfl zh_X10 1 (by decide) zk2_9 (fun _ h9 => h9) (v := .ref (q 8)) rfl dX10_makePlan_35 ?_
    refine lv_aload_n hx hb dX10_makePlan_38 rfl (lv_at hl 0 rfl) ?_
    refine z_get C hE hH zX_o6 rfl zh_X10 5 (by decide) zk2_14 (fun _ h9 => h9) (v := .ref (q 31)) rfl dX10_makePlan_39 ?_
    obtain ⟨u6, e7, h⟩ := zbd_s h
    refine z_callv (va_runV (As := [.ref (q 8), .ref (q 31)]) (rest := []) (z_fix C) (cX_X5_weigh l D cI cS cW q H.size   u4 e7) (cwV 2 C.2.2.2.2.1 (zGV zk34_0 zk34_1 zk34_2 zk2_22 zk34_3) rfl rfl rfl yd_X5_weigh ⟨Nat.le_of_ble_eq_true rfl, Nat.le_of_ble_eq_true rfl⟩) (z_preV (zNmX hE) hE hH zX_o7 rfl) rfl rfl hl.1 rfl (lv_room (Nat.le_of_ble_eq_true rfl)) dX10_makePlan_42 ⟨Nat.le_refl 0, Nat.le_refl 0⟩) hE hH (fun H locs hH => ?_)
    refine lv_aload_n hx hb dX10_makePlan_45 rfl (lv_at hl 0 rfl) ?_
    refine z_get C hE hH zX_o6 rfl zh_X10 11 (by decide) zk2_23 (fun _ h9 => h9) (v := .ref (q 7)) rfl dX10_makePlan_46 ?_
    refine lv_aload_n hx hb dX10_makePlan_49 rfl (lv_at hl 0 rfl) ?_
    refine z_get C hE hH zX_o6 rfl zh_X10 5 (by decide) zk2_14 (fun _ h9 => h9) (v := .ref (q 31)) rfl dX10_makePlan_50 ?_
    obtain ⟨u8, e9, h⟩ := zbd_s h
    refine z_callv (va_runV (As := [.ref (q 31)]) (rest := []) (z_fix C) (cX_X5_choose l D cI cS cW q H.size   u6 e9) (cwV 1 C.2.2.2.2.1 (zGV zk34_13 zk34_14 zk34_15 zk2_22 zk34_16) rfl rfl rfl yd_X5_choose ⟨Nat.le_of_ble_eq_true rfl, Nat.le_of_ble_eq_true rfl⟩) (z_preV (zNmX hE) hE hH zX_o7 rfl) rfl rfl hl.1 rfl (lv_room (Nat.le_of_ble_eq_true rfl)) dX10_makePlan_53 ⟨Nat.le_refl 0, Nat.le_refl 0⟩) hE hH (fun H locs hH => ?_)
    refine lv_aload_n hx hb dX10_makePlan_56 rfl (lv_at hl 0 rfl) ?_
    refine lv_iconst (v := 1) hx hb dX10_makePlan_57 (by decide) ?_
    refine z_put C hE hH zX_o6 rfl zh_X10 tyX10_ok nmX10 12 (by decide) zk3_0 (fun _ h9 => h9) rfl (ty := .boolean) rfl rfl rfl (Nat.le_of_ble_eq_true rfl) zX_i5 dX10_makePlan_58 (fun H locs hH => ?_)
    cases h
    exact z_vret C hE hH dX10_makePlan_61
set_option maxHeartbeats 4000000 in
set_option maxRecDepth 100000 in
theorem cX_X10_makePlan (l : Launch) (D : va_G) (cI cS cW : ClassId) (q : Nat → Nat) (sz : Nat) (S : zSt) {res : zSt} (h : fX_X10_makePlan  S = some res) : zMv l yX10_makePlan vsX10_makePlan rmX_X10_makePlan [.ref (q 6)] D (zwX cI cS cW q) (zyX cI cS cW) znX sz S res := by
  refine Met.ofW (cc := cX10_makePlan) (maxL := 1) (ret := none) (by decide) rfl ?_
  intro p e s m args below meth c s₁ B hml hv
  obtain ⟨rfl, rfl, hP, hK, hD0, hN⟩ := hv
  have hl := lv_entry ([.ref (q 6)]) (n := 1) (Nat.le_of_ble_eq_true rfl)
  rw [lg_entry_eq]
  generalize (lg_sl ([.ref (q 6)]) ++ List.replicate (1 - (lg_sl ([.ref (q 6)])).length) Slot.unset).toArray = ls at hl ⊢
  exact bX_X10_makePlan ⟨B.exec, B.bytes, hml, findClass_of_methodNamed B.named, fun w h => atoms_spec (ws := vsX10_makePlan) B.pre w (List.mem_cons_of_mem _ h), B.returns, B.notSynchronized⟩ ⟨hK, fun q h => Or.inr h, hN⟩  S s.heap [] ls ⟨hP, hD0.self, va_S.rf⟩ hl  h
def rmX_X5_leastSum : Room := { frames := 0, cells := 0, slots := 0, locals := 0 }
set_option maxHeartbeats 4000000 in
set_option maxRecDepth 100000 in
theorem bX_X5_leastSum {p : Program} {l : Launch} {e : Env} {s : State} {m : MethodId} {args : Array Value} {below : List Frame} {meth : Method} {c : Code} {D : va_G} {cI cS cW : ClassId} {q : Nat → Nat} {A : Nat → Prop} {res : Int32} (C : zCX p s m args meth c cX5_leastSum 1 (some .int) zU RX5) (hE : zE D (zyX cI cS cW) znX A s) (S : zSt) (H : Heap) (locs : List Loc) (ls : Array Slot) (hH : zH D (zwX cI cS cW q) A s S H locs) (hl : lv_has ls 1 [(0, .ref (q 7))]) (h : fX_X5_leastSum   S = some res) : W p l e rmX_X5_leastSum s m args below meth c H locs 0 0 (zQi below D (zwX cI cS cW q) (zyX cI cS cW) A args s res S) (F0 m 0 ls []) := by
  have hx := C.1
  have hb := C.2.1
  unfold fX_X5_leastSum at h
  refine lv_aload_n hx hb dX5_leastSum_0 rfl (lv_at hl 0 rfl) ?_
  refine z_get C hE hH zX_o7 rfl zh_X5 6 (by decide) zk5_8 (fun _ h9 => h9) (v := .int (S.1 10)) rfl dX5_leastSum_1 ?_
  refine lv_sipush (v := 256) hx hb dX5_leastSum_4 (by decide) ?_
  refine lv_idiv hx hb dX5_leastSum_7 (by decide) ?_
  cases h
  exact z_iret C hE hH dX5_leastSum_8
set_option maxHeartbeats 4000000 in
set_option maxRecDepth 100000 in
theorem cX_X5_leastSum (l : Launch) (D : va_G) (cI cS cW : ClassId) (q : Nat → Nat) (sz : Nat) (S : zSt) {res : Int32} (h : fX_X5_leastSum  S = some res) : zMi l yX5_leastSum vsX5_leastSum rmX_X5_leastSum [.ref (q 7)] D (zwX cI cS cW q) (zyX cI cS cW) znX sz S res S := by
  refine Met.ofW (cc := cX5_leastSum) (maxL := 1) (ret := (some .int)) (by decide) rfl ?_
  intro p e s m args below meth c s₁ B hml hv
  obtain ⟨rfl, rfl, hP, hK, hD0, hN⟩ := hv
  have hl := lv_entry ([.ref (q 7)]) (n := 1) (Nat.le_of_ble_eq_true rfl)
  rw [lg_entry_eq]
  generalize (lg_sl ([.ref (q 7)]) ++ List.replicate (1 - (lg_sl ([.ref (q 7)])).length) Slot.unset).toArray = ls at hl ⊢
  exact bX_X5_leastSum ⟨B.exec, B.bytes, hml, findClass_of_methodNamed B.named, fun w h => atoms_spec (ws := vsX5_leastSum) B.pre w (List.mem_cons_of_mem _ h), B.returns, B.notSynchronized⟩ ⟨hK, fun q h => Or.inr h, hN⟩  S s.heap [] ls ⟨hP, hD0.self, va_S.rf⟩ hl  h
def rmX_X10_stages : Room := { frames := 4, cells := 0, slots := 0, locals := 97 }
set_option maxHeartbeats 4000000 in
set_option maxRecDepth 100000 in
theorem bX_X10_stages {p : Program} {l : Launch} {e : Env} {s : State} {m : MethodId} {args : Array Value} {below : List Frame} {meth : Method} {c : Code} {D : va_G} {cI cS cW : ClassId} {q : Nat → Nat} {A : Nat → Prop} {res : Int32 × zSt} (C : zCX p s m args meth c cX10_stages 1 (some .int) zU RX10) (hE : zE D (zyX cI cS cW) znX A s) (S : zSt) (H : Heap) (locs : List Loc) (ls : Array Slot) (hH : zH D (zwX cI cS cW q) A s S H locs) (hl : lv_has ls 1 [(0, .ref (q 6))]) (h : fX_X10_stages   S = some res) : W p l e rmX_X10_stages s m args below meth c H locs 0 0 (zQi below D (zwX cI cS cW q) (zyX cI cS cW) A args s res.1 res.2) (F0 m 0 ls []) := by
  have hx := C.1
  have hb := C.2.1
  unfold fX_X10_stages at h
  refine lv_aload_n hx hb dX10_stages_0 rfl (lv_at hl 0 rfl) ?_
  obtain ⟨u1, e2, h⟩ := zbd_s h
  refine z_calli (va_runV (As := []) (rest := []) (z_fix C) (cX_X10_offered l D cI cS cW q H.size   S e2) (cwV 0 C.2.2.2.2.1 (zGV zk30_20 zk30_21 zk30_22 zk1_2 zk30_23) rfl rfl rfl yd_X10_offered ⟨Nat.le_of_ble_eq_true rfl, Nat.le_of_ble_eq_true rfl⟩) (z_preV (zNmX hE) hE hH zX_o6 rfl) rfl rfl hl.1 rfl (lv_room (Nat.le_of_ble_eq_true rfl)) dX10_stages_1 ⟨Nat.le_refl 0, Nat.le_refl 0⟩) hE hH (fun H locs hH => ?_)
  refine lv_if_ne (tgt := 9) hx hb dX10_stages_4 (by decide) (fun c3 => ?_) (fun c3 => ?_)
  · replace h := zif_f c3 h
    refine lv_aload_n hx hb dX10_stages_9 rfl (lv_at hl 0 rfl) ?_
    obtain ⟨u4, e5, h⟩ := zbd_s h
    refine z_callv (va_runV (As := []) (rest := []) (z_fix C) (cX_X10_makePlan l D cI cS cW q H.size   S e5) (cwV 0 C.2.2.2.2.1 (zGV zk33_16 zk33_17 zk33_18 zk1_2 zk33_19) rfl rfl rfl yd_X10_makePlan ⟨Nat.le_of_ble_eq_true rfl, Nat.le_of_ble_eq_true rfl⟩) (z_preV (zNmX hE) hE hH zX_o6 rfl) rfl rfl hl.1 rfl (lv_room (Nat.le_of_ble_eq_true rfl)) dX10_stages_10 ⟨Nat.le_refl 0, Nat.le_refl 0⟩) hE hH (fun H locs hH => ?_)
    refine lv_aload_n hx hb dX10_stages_13 rfl (lv_at hl 0 rfl) ?_
    refine z_get C hE hH zX_o6 rfl zh_X10 11 (by decide) zk2_23 (fun _ h9 => h9) (v := .ref (q 7)) rfl dX10_stages_14 ?_
    obtain ⟨u6, e7, h⟩ := zbd_s h
    refine z_calli (va_runV (As := []) (rest := []) (z_fix C) (cX_X5_leastSum l D cI cS cW q H.size   u4 e7) (cwV 0 C.2.2.2.2.1 (zGV zk34_21 zk34_22 zk34_23 zk2_22 zk35_0) rfl rfl rfl yd_X5_leastSum ⟨Nat.le_of_ble_eq_true rfl, Nat.le_of_ble_eq_true rfl⟩) (z_preV (zNmX hE) hE hH zX_o7 rfl) rfl rfl hl.1 rfl (lv_room (Nat.le_of_ble_eq_true rfl)) dX10_stages_17 ⟨Nat.le_refl 0, Nat.le_refl 0⟩) hE hH (fun H locs hH => ?_)
    cases h
    exact z_iret C hE hH dX10_stages_20
  · replace h := zif_t c3 h
    refine lv_iconst (v := (-1)) hx hb dX10_stages_7 (by decide) ?_
    cases h
    exact z_iret C hE hH dX10_stages_8
set_option maxHeartbeats 4000000 in
set_option maxRecDepth 100000 in
theorem cX_X10_stages (l : Launch) (D : va_G) (cI cS cW : ClassId) (q : Nat → Nat) (sz : Nat) (S : zSt) {res : Int32 × zSt} (h : fX_X10_stages  S = some res) : zMi l yX10_stages vsX10_stages rmX_X10_stages [.ref (q 6)] D (zwX cI cS cW q) (zyX cI cS cW) znX sz S res.1 res.2 := by
  refine Met.ofW (cc := cX10_stages) (maxL := 1) (ret := (some .int)) (by decide) rfl ?_
  intro p e s m args below meth c s₁ B hml hv
  obtain ⟨rfl, rfl, hP, hK, hD0, hN⟩ := hv
  have hl := lv_entry ([.ref (q 6)]) (n := 1) (Nat.le_of_ble_eq_true rfl)
  rw [lg_entry_eq]
  generalize (lg_sl ([.ref (q 6)]) ++ List.replicate (1 - (lg_sl ([.ref (q 6)])).length) Slot.unset).toArray = ls at hl ⊢
  exact bX_X10_stages ⟨B.exec, B.bytes, hml, findClass_of_methodNamed B.named, fun w h => atoms_spec (ws := vsX10_stages) B.pre w (List.mem_cons_of_mem _ h), B.returns, B.notSynchronized⟩ ⟨hK, fun q h => Or.inr h, hN⟩  S s.heap [] ls ⟨hP, hD0.self, va_S.rf⟩ hl  h
def rmX_X10_stage : Room := { frames := 4, cells := 0, slots := 0, locals := 97 }
set_option maxHeartbeats 4000000 in
set_option maxRecDepth 100000 in
theorem bX_X10_stage {p : Program} {l : Launch} {e : Env} {s : State} {m : MethodId} {args : Array Value} {below : List Frame} {meth : Method} {c : Code} {D : va_G} {cI cS cW : ClassId} {q : Nat → Nat} {A : Nat → Prop} {res : Int32 × zSt} (C : zCX p s m args meth c cX10_stage 2 (some .int) zU RX10) (hE : zE D (zyX cI cS cW) znX A s) (x1 : Int32) (S : zSt) (H : Heap) (locs : List Loc) (ls : Array Slot) (hH : zH D (zwX cI cS cW q) A s S H locs) (hl : lv_has ls 2 [(0, .ref (q 6)), (1, .int x1)]) (h : fX_X10_stage  x1 S = some res) : W p l e rmX_X10_stage s m args below meth c H locs 0 0 (zQi below D (zwX cI cS cW q) (zyX cI cS cW) A args s res.1 res.2) (F0 m 0 ls []) := by
  have hx := C.1
  have hb := C.2.1
  unfold fX_X10_stage at h
  refine lv_aload_n hx hb dX10_stage_0 rfl (lv_at hl 0 rfl) ?_
  refine lv_iload_n hx hb dX10_stage_1 rfl (lv_at hl 1 rfl) ?_
  obtain ⟨u1, e2, h⟩ := zbd_s h
  refine z_calli (va_runV (As := [.int x1]) (rest := []) (z_fix C) (cX_X10_isCall l D cI cS cW q H.size  x1 S e2) (cwV 1 C.2.2.2.2.1 (zGV zk21_9 zk21_10 zk21_11 zk1_2 zk21_12) rfl rfl rfl yd_X10_isCall ⟨Nat.le_of_ble_eq_true rfl, Nat.le_of_ble_eq_true rfl⟩) (z_preV (zNmX hE) hE hH zX_o6 rfl) rfl rfl hl.1 rfl (lv_room (Nat.le_of_ble_eq_true rfl)) dX10_stage_2 ⟨Nat.le_refl 0, Nat.le_refl 0⟩) hE hH (fun H locs hH => ?_)
  refine lv_if_eq (tgt := 15) hx hb dX10_stage_5 (by decide) (fun c3 => ?_) (fun c3 => ?_)
  · replace h := zif_t c3 h
    refine lv_iconst (v := (-1)) hx hb dX10_stage_15 (by decide) ?_
    cases h
    exact z_iret C hE hH dX10_stage_16
  · replace h := zif_f c3 h
    refine lv_aload_n hx hb dX10_stage_8 rfl (lv_at hl 0 rfl) ?_
    obtain ⟨u4, e5, h⟩ := zbd_s h
    refine z_calli (va_runV (As := []) (rest := []) (z_fix C) (cX_X10_offered l D cI cS cW q H.size   S e5) (cwV 0 C.2.2.2.2.1 (zGV zk30_20 zk30_21 zk30_22 zk1_2 zk30_23) rfl rfl rfl yd_X10_offered ⟨Nat.le_of_ble_eq_true rfl, Nat.le_of_ble_eq_true rfl⟩) (z_preV (zNmX hE) hE hH zX_o6 rfl) rfl rfl hl.1 rfl (lv_room (Nat.le_of_ble_eq_true rfl)) dX10_stage_9 ⟨Nat.le_refl 0, Nat.le_refl 0⟩) hE hH (fun H locs hH => ?_)
    refine lv_if_ne (tgt := 17) hx hb dX10_stage_12 (by decide) (fun c6 => ?_) (fun c6 => ?_)
    · replace h := zif_f c6 h
      refine lv_aload_n hx hb dX10_stage_17 rfl (lv_at hl 0 rfl) ?_
      obtain ⟨u7, e8, h⟩ := zbd_s h
      refine z_callv (va_runV (As := []) (rest := []) (z_fix C) (cX_X10_makePlan l D cI cS cW q H.size   S e8) (cwV 0 C.2.2.2.2.1 (zGV zk33_16 zk33_17 zk33_18 zk1_2 zk33_19) rfl rfl rfl yd_X10_makePlan ⟨Nat.le_of_ble_eq_true rfl, Nat.le_of_ble_eq_true rfl⟩) (z_preV (zNmX hE) hE hH zX_o6 rfl) rfl rfl hl.1 rfl (lv_room (Nat.le_of_ble_eq_true rfl)) dX10_stage_18 ⟨Nat.le_refl 0, Nat.le_refl 0⟩) hE hH (fun H locs hH => ?_)
      refine lv_aload_n hx hb dX10_stage_21 rfl (lv_at hl 0 rfl) ?_
      refine z_get C hE hH zX_o6 rfl zh_X10 11 (by decide) zk2_23 (fun _ h9 => h9) (v := .ref (q 7)) rfl dX10_stage_22 ?_
      refine z_get C hE hH zX_o7 rfl zh_X5 0 (by decide) zk36_2 (fun _ h9 => h9) (v := .ref (q 32)) rfl dX10_stage_25 ?_
      refine lv_iload_n hx hb dX10_stage_28 rfl (lv_at hl 1 rfl) ?_
      obtain ⟨g9, h⟩ := zgd_s h
      refine z_iald C hE hH zX_a32 (t0 := 0) rfl g9 dX10_stage_29 ?_
      cases h
      exact z_iret C hE hH dX10_stage_30
    · replace h := zif_t c6 h
      refine lv_iconst (v := (-1)) hx hb dX10_stage_15 (by decide) ?_
      cases h
      exact z_iret C hE hH dX10_stage_16
set_option maxHeartbeats 4000000 in
set_option maxRecDepth 100000 in
theorem cX_X10_stage (l : Launch) (D : va_G) (cI cS cW : ClassId) (q : Nat → Nat) (sz : Nat) (x1 : Int32) (S : zSt) {res : Int32 × zSt} (h : fX_X10_stage x1 S = some res) : zMi l yX10_stage vsX10_stage rmX_X10_stage [.ref (q 6), .int x1] D (zwX cI cS cW q) (zyX cI cS cW) znX sz S res.1 res.2 := by
  refine Met.ofW (cc := cX10_stage) (maxL := 2) (ret := (some .int)) (by decide) rfl ?_
  intro p e s m args below meth c s₁ B hml hv
  obtain ⟨rfl, rfl, hP, hK, hD0, hN⟩ := hv
  have hl := lv_entry ([.ref (q 6), .int x1]) (n := 2) (Nat.le_of_ble_eq_true rfl)
  rw [lg_entry_eq]
  generalize (lg_sl ([.ref (q 6), .int x1]) ++ List.replicate (2 - (lg_sl ([.ref (q 6), .int x1])).length) Slot.unset).toArray = ls at hl ⊢
  exact bX_X10_stage ⟨B.exec, B.bytes, hml, findClass_of_methodNamed B.named, fun w h => atoms_spec (ws := vsX10_stage) B.pre w (List.mem_cons_of_mem _ h), B.returns, B.notSynchronized⟩ ⟨hK, fun q h => Or.inr h, hN⟩ x1 S s.heap [] ls ⟨hP, hD0.self, va_S.rf⟩ hl  h
def rmX_X5_moves : Room := { frames := 0, cells := 0, slots := 0, locals := 0 }
set_option maxHeartbeats 4000000 in
set_option maxRecDepth 100000 in
theorem bX_X5_moves {p : Program} {l : Launch} {e : Env} {s : State} {m : MethodId} {args : Array Value} {below : List Frame} {meth : Method} {c : Code} {D : va_G} {cI cS cW : ClassId} {q : Nat → Nat} {A : Nat → Prop} {res : Int32} (C : zCX p s m args meth c cX5_moves 1 (some .int) zU RX5) (hE : zE D (zyX cI cS cW) znX A s) (S : zSt) (H : Heap) (locs : List Loc) (ls : Array Slot) (hH : zH D (zwX cI cS cW q) A s S H locs) (hl : lv_has ls 1 [(0, .ref (q 7))]) (h : fX_X5_moves   S = some res) : W p l e rmX_X5_moves s m args below meth c H locs 0 0 (zQi below D (zwX cI cS cW q) (zyX cI cS cW) A args s res S) (F0 m 0 ls []) := by
  have hx := C.1
  have hb := C.2.1
  unfold fX_X5_moves at h
  refine lv_aload_n hx hb dX5_moves_0 rfl (lv_at hl 0 rfl) ?_
  refine z_get C hE hH zX_o7 rfl zh_X5 6 (by decide) zk5_8 (fun _ h9 => h9) (v := .int (S.1 10)) rfl dX5_moves_1 ?_
  refine lv_sipush (v := 256) hx hb dX5_moves_4 (by decide) ?_
  refine lv_irem hx hb dX5_moves_7 (by decide) ?_
  cases h
  exact z_iret C hE hH dX5_moves_8
set_option maxHeartbeats 4000000 in
set_option maxRecDepth 100000 in
theorem cX_X5_moves (l : Launch) (D : va_G) (cI cS cW : ClassId) (q : Nat → Nat) (sz : Nat) (S : zSt) {res : Int32} (h : fX_X5_moves  S = some res) : zMi l yX5_moves vsX5_moves rmX_X5_moves [.ref (q 7)] D (zwX cI cS cW q) (zyX cI cS cW) znX sz S res S := by
  refine Met.ofW (cc := cX5_moves) (maxL := 1) (ret := (some .int)) (by decide) rfl ?_
  intro p e s m args below meth c s₁ B hml hv
  obtain ⟨rfl, rfl, hP, hK, hD0, hN⟩ := hv
  have hl := lv_entry ([.ref (q 7)]) (n := 1) (Nat.le_of_ble_eq_true rfl)
  rw [lg_entry_eq]
  generalize (lg_sl ([.ref (q 7)]) ++ List.replicate (1 - (lg_sl ([.ref (q 7)])).length) Slot.unset).toArray = ls at hl ⊢
  exact bX_X5_moves ⟨B.exec, B.bytes, hml, findClass_of_methodNamed B.named, fun w h => atoms_spec (ws := vsX5_moves) B.pre w (List.mem_cons_of_mem _ h), B.returns, B.notSynchronized⟩ ⟨hK, fun q h => Or.inr h, hN⟩  S s.heap [] ls ⟨hP, hD0.self, va_S.rf⟩ hl  h
def rmX_X10_count : Room := { frames := 4, cells := 0, slots := 0, locals := 97 }
set_option maxHeartbeats 4000000 in
set_option maxRecDepth 100000 in
theorem bX_X10_count_101 {p : Program} {l : Launch} {e : Env} {s : State} {m : MethodId} {args : Array Value} {below : List Frame} {meth : Method} {c : Code} {D : va_G} {cI cS cW : ClassId} {q : Nat → Nat} {A : Nat → Prop} {res : Int32 × zSt} (C : zCX p s m args meth c cX10_count 2 (some .int) zU RX10) (hE : zE D (zyX cI cS cW) znX A s) (t0 t1 : Int32) (S : zSt) (H : Heap) (locs : List Loc) (ls : Array Slot) (hH : zH D (zwX cI cS cW q) A s S H locs) (hl : lv_has ls 2 []) (h : fX_X10_count_101  t0 t1 S = some res) : W p l e rmX_X10_count s m args below meth c H locs 0 0 (zQi below D (zwX cI cS cW q) (zyX cI cS cW) A args s res.1 res.2) (F0 m 101 ls [.int t1, .int t0]) := by
  have hx := C.1
  have hb := C.2.1
  unfold fX_X10_count_101 at h
  refine lv_iadd hx hb dX10_count_101 ?_
  cases h
  exact z_iret C hE hH dX10_count_102
set_option maxHeartbeats 4000000 in
set_option maxRecDepth 100000 in
theorem bX_X10_count_87 {p : Program} {l : Launch} {e : Env} {s : State} {m : MethodId} {args : Array Value} {below : List Frame} {meth : Method} {c : Code} {D : va_G} {cI cS cW : ClassId} {q : Nat → Nat} {A : Nat → Prop} {res : Int32 × zSt} (C : zCX p s m args meth c cX10_count 2 (some .int) zU RX10) (hE : zE D (zyX cI cS cW) znX A s) (t0 t1 : Int32) (S : zSt) (H : Heap) (locs : List Loc) (ls : Array Slot) (hH : zH D (zwX cI cS cW q) A s S H locs) (hl : lv_has ls 2 [(0, .ref (q 6))]) (h : fX_X10_count_87  t0 t1 S = some res) : W p l e rmX_X10_count s m args below meth c H locs 0 0 (zQi below D (zwX cI cS cW q) (zyX cI cS cW) A args s res.1 res.2) (F0 m 87 ls [.int t1, .int t0]) := by
  have hx := C.1
  have hb := C.2.1
  unfold fX_X10_count_87 at h
  refine lv_iadd hx hb dX10_count_87 ?_
  refine lv_aload_n hx hb dX10_count_88 rfl (lv_at hl 0 rfl) ?_
  obtain ⟨u1, e2, h⟩ := zbd_s h
  refine z_calli (va_runV (As := []) (rest := [.int (t0 + t1)]) (z_fix C) (cX_X10_asksFirst l D cI cS cW q H.size   S e2) (cwV 0 C.2.2.2.2.1 (zGV zk31_0 zk31_1 zk31_2 zk1_2 zk31_3) rfl rfl rfl yd_X10_asksFirst ⟨Nat.le_of_ble_eq_true rfl, Nat.le_of_ble_eq_true rfl⟩) (z_preV (zNmX hE) hE hH zX_o6 rfl) rfl rfl hl.1 rfl (lv_room (Nat.le_of_ble_eq_true rfl)) dX10_count_89 ⟨Nat.le_refl 0, Nat.le_refl 0⟩) hE hH (fun H locs hH => ?_)
  refine lv_if_eq (tgt := 100) hx hb dX10_count_92 (by decide) (fun c3 => ?_) (fun c3 => ?_)
  · replace h := zif_t c3 h
    refine lv_iconst (v := 0) hx hb dX10_count_100 (by decide) ?_
    exact bX_X10_count_101 C hE   (t0 + t1) 0 S H locs ls hH (lv_sub hl [] rfl) h
  · replace h := zif_f c3 h
    refine lv_bipush (v := 8) hx hb dX10_count_95 (by decide) ?_
    refine lv_goto (tgt := 101) hx hb dX10_count_97 (by decide) ?_
    exact bX_X10_count_101 C hE   (t0 + t1) 8 S H locs ls hH (lv_sub hl [] rfl) h
set_option maxHeartbeats 4000000 in
set_option maxRecDepth 100000 in
theorem bX_X10_count_75 {p : Program} {l : Launch} {e : Env} {s : State} {m : MethodId} {args : Array Value} {below : List Frame} {meth : Method} {c : Code} {D : va_G} {cI cS cW : ClassId} {q : Nat → Nat} {A : Nat → Prop} {res : Int32 × zSt} (C : zCX p s m args meth c cX10_count 2 (some .int) zU RX10) (hE : zE D (zyX cI cS cW) znX A s) (t0 : Int32) (S : zSt) (H : Heap) (locs : List Loc) (ls : Array Slot) (hH : zH D (zwX cI cS cW q) A s S H locs) (hl : lv_has ls 2 [(0, .ref (q 6))]) (h : fX_X10_count_75  t0 S = some res) : W p l e rmX_X10_count s m args below meth c H locs 0 0 (zQi below D (zwX cI cS cW q) (zyX cI cS cW) A args s res.1 res.2) (F0 m 75 ls [.int t0]) := by
  have hx := C.1
  have hb := C.2.1
  unfold fX_X10_count_75 at h
  refine lv_aload_n hx hb dX10_count_75 rfl (lv_at hl 0 rfl) ?_
  refine z_get C hE hH zX_o6 rfl zh_X10 8 (by decide) zk2_17 (fun _ h9 => h9) (v := .int (S.1 2)) rfl dX10_count_76 ?_
  refine lv_if_eq (tgt := 86) hx hb dX10_count_79 (by decide) (fun c1 => ?_) (fun c1 => ?_)
  · replace h := zif_t c1 h
    refine lv_iconst (v := 0) hx hb dX10_count_86 (by decide) ?_
    exact bX_X10_count_87 C hE   t0 0 S H locs ls hH (lv_sub hl [0] rfl) h
  · replace h := zif_f c1 h
    refine lv_iconst (v := 4) hx hb dX10_count_82 (by decide) ?_
    refine lv_goto (tgt := 87) hx hb dX10_count_83 (by decide) ?_
    exact bX_X10_count_87 C hE   t0 4 S H locs ls hH (lv_sub hl [0] rfl) h
set_option maxHeartbeats 4000000 in
set_option maxRecDepth 100000 in
theorem bX_X10_count {p : Program} {l : Launch} {e : Env} {s : State} {m : MethodId} {args : Array Value} {below : List Frame} {meth : Method} {c : Code} {D : va_G} {cI cS cW : ClassId} {q : Nat → Nat} {A : Nat → Prop} {res : Int32 × zSt} (C : zCX p s m args meth c cX10_count 2 (some .int) zU RX10) (hE : zE D (zyX cI cS cW) znX A s) (x1 : Int32) (S : zSt) (H : Heap) (locs : List Loc) (ls : Array Slot) (hH : zH D (zwX cI cS cW q) A s S H locs) (hl : lv_has ls 2 [(0, .ref (q 6)), (1, .int x1)]) (h : fX_X10_count  x1 S = some res) : W p l e rmX_X10_count s m args below meth c H locs 0 0 (zQi below D (zwX cI cS cW q) (zyX cI cS cW) A args s res.1 res.2) (F0 m 0 ls []) := by
  have hx := C.1
  have hb := C.2.1
  unfold fX_X10_count at h
  refine lv_iload_n hx hb dX10_count_0 rfl (lv_at hl 1 rfl) ?_
  by_cases c1_0 : x1 = 0
  · replace h := zif_t c1_0 h
    refine lv_tableIn (tgt := 36) hx hb dX10_count_1 (by rw [c1_0]; decide) (by rw [c1_0]; decide) (by rw [c1_0]; rfl) (by decide) ?_
    refine lv_aload_n hx hb dX10_count_36 rfl (lv_at hl 0 rfl) ?_
    refine z_get C hE hH zX_o6 rfl zh_X10 6 (by decide) zk2_15 (fun _ h9 => h9) (v := .int (S.1 0)) rfl dX10_count_37 ?_
    cases h
    exact z_iret C hE hH dX10_count_40
  · replace h := zif_f c1_0 h
    by_cases c1_1 : x1 = 1
    · replace h := zif_t c1_1 h
      refine lv_tableIn (tgt := 41) hx hb dX10_count_1 (by rw [c1_1]; decide) (by rw [c1_1]; decide) (by rw [c1_1]; rfl) (by decide) ?_
      refine lv_aload_n hx hb dX10_count_41 rfl (lv_at hl 0 rfl) ?_
      refine z_get C hE hH zX_o6 rfl zh_X10 9 (by decide) zk2_18 (fun _ h9 => h9) (v := .int (S.1 3)) rfl dX10_count_42 ?_
      cases h
      exact z_iret C hE hH dX10_count_45
    · replace h := zif_f c1_1 h
      by_cases c1_2 : x1 = 2
      · replace h := zif_t c1_2 h
        refine lv_tableIn (tgt := 46) hx hb dX10_count_1 (by rw [c1_2]; decide) (by rw [c1_2]; decide) (by rw [c1_2]; rfl) (by decide) ?_
        refine lv_aload_n hx hb dX10_count_46 rfl (lv_at hl 0 rfl) ?_
        refine z_get C hE hH zX_o6 rfl zh_X10 10 (by decide) zk2_19 (fun _ h9 => h9) (v := .int (S.1 4)) rfl dX10_count_47 ?_
        cases h
        exact z_iret C hE hH dX10_count_50
      · replace h := zif_f c1_2 h
        by_cases c1_3 : x1 = 3
        · replace h := zif_t c1_3 h
          refine lv_tableIn (tgt := 51) hx hb dX10_count_1 (by rw [c1_3]; decide) (by rw [c1_3]; decide) (by rw [c1_3]; rfl) (by decide) ?_
          refine lv_aload_n hx hb dX10_count_51 rfl (lv_at hl 0 rfl) ?_
          obtain ⟨u2, e3, h⟩ := zbd_s h
          refine z_callv (va_runV (As := []) (rest := []) (z_fix C) (cX_X10_makePlan l D cI cS cW q H.size   S e3) (cwV 0 C.2.2.2.2.1 (zGV zk33_16 zk33_17 zk33_18 zk1_2 zk33_19) rfl rfl rfl yd_X10_makePlan ⟨Nat.le_of_ble_eq_true rfl, Nat.le_of_ble_eq_true rfl⟩) (z_preV (zNmX hE) hE hH zX_o6 rfl) rfl rfl hl.1 rfl (lv_room (Nat.le_of_ble_eq_true rfl)) dX10_count_52 ⟨Nat.le_refl 0, Nat.le_refl 0⟩) hE hH (fun H locs hH => ?_)
          refine lv_aload_n hx hb dX10_count_55 rfl (lv_at hl 0 rfl) ?_
          refine z_get C hE hH zX_o6 rfl zh_X10 11 (by decide) zk2_23 (fun _ h9 => h9) (v := .ref (q 7)) rfl dX10_count_56 ?_
          obtain ⟨u4, e5, h⟩ := zbd_s h
          refine z_calli (va_runV (As := []) (rest := []) (z_fix C) (cX_X5_moves l D cI cS cW q H.size   u2 e5) (cwV 0 C.2.2.2.2.1 (zGV zk36_11 zk36_12 zk36_13 zk2_22 zk36_14) rfl rfl rfl yd_X5_moves ⟨Nat.le_of_ble_eq_true rfl, Nat.le_of_ble_eq_true rfl⟩) (z_preV (zNmX hE) hE hH zX_o7 rfl) rfl rfl hl.1 rfl (lv_room (Nat.le_of_ble_eq_true rfl)) dX10_count_59 ⟨Nat.le_refl 0, Nat.le_refl 0⟩) hE hH (fun H locs hH => ?_)
          cases h
          exact z_iret C hE hH dX10_count_62
        · replace h := zif_f c1_3 h
          by_cases c1_4 : x1 = 4
          · replace h := zif_t c1_4 h
            refine lv_tableIn (tgt := 63) hx hb dX10_count_1 (by rw [c1_4]; decide) (by rw [c1_4]; decide) (by rw [c1_4]; rfl) (by decide) ?_
            refine lv_aload_n hx hb dX10_count_63 rfl (lv_at hl 0 rfl) ?_
            refine z_get C hE hH zX_o6 rfl zh_X10 7 (by decide) zk2_16 (fun _ h9 => h9) (v := .int (S.1 1)) rfl dX10_count_64 ?_
            refine lv_if_eq (tgt := 74) hx hb dX10_count_67 (by decide) (fun c6 => ?_) (fun c6 => ?_)
            · replace h := zif_t c6 h
              refine lv_iconst (v := 0) hx hb dX10_count_74 (by decide) ?_
              exact bX_X10_count_75 C hE   0 S H locs ls hH (lv_sub hl [0] rfl) h
            · replace h := zif_f c6 h
              refine lv_iconst (v := 2) hx hb dX10_count_70 (by decide) ?_
              refine lv_goto (tgt := 75) hx hb dX10_count_71 (by decide) ?_
              exact bX_X10_count_75 C hE   2 S H locs ls hH (lv_sub hl [0] rfl) h
          · replace h := zif_f c1_4 h
            have ec1_0 : ¬ (x1).toInt = 0 := zsw_ne c1_0
            have ec1_1 : ¬ (x1).toInt = 1 := zsw_ne c1_1
            have ec1_2 : ¬ (x1).toInt = 2 := zsw_ne c1_2
            have ec1_3 : ¬ (x1).toInt = 3 := zsw_ne c1_3
            have ec1_4 : ¬ (x1).toInt = 4 := zsw_ne c1_4
            refine lv_tableOut (tgt := 103) hx hb dX10_count_1 (by omega) (by decide) ?_
            refine lv_iconst (v := (-1)) hx hb dX10_count_103 (by decide) ?_
            cases h
            exact z_iret C hE hH dX10_count_104
set_option maxHeartbeats 4000000 in
set_option maxRecDepth 100000 in
theorem cX_X10_count (l : Launch) (D : va_G) (cI cS cW : ClassId) (q : Nat → Nat) (sz : Nat) (x1 : Int32) (S : zSt) {res : Int32 × zSt} (h : fX_X10_count x1 S = some res) : zMi l yX10_count vsX10_count rmX_X10_count [.ref (q 6), .int x1] D (zwX cI cS cW q) (zyX cI cS cW) znX sz S res.1 res.2 := by
  refine Met.ofW (cc := cX10_count) (maxL := 2) (ret := (some .int)) (by decide) rfl ?_
  intro p e s m args below meth c s₁ B hml hv
  obtain ⟨rfl, rfl, hP, hK, hD0, hN⟩ := hv
  have hl := lv_entry ([.ref (q 6), .int x1]) (n := 2) (Nat.le_of_ble_eq_true rfl)
  rw [lg_entry_eq]
  generalize (lg_sl ([.ref (q 6), .int x1]) ++ List.replicate (2 - (lg_sl ([.ref (q 6), .int x1])).length) Slot.unset).toArray = ls at hl ⊢
  exact bX_X10_count ⟨B.exec, B.bytes, hml, findClass_of_methodNamed B.named, fun w h => atoms_spec (ws := vsX10_count) B.pre w (List.mem_cons_of_mem _ h), B.returns, B.notSynchronized⟩ ⟨hK, fun q h => Or.inr h, hN⟩ x1 S s.heap [] ls ⟨hP, hD0.self, va_S.rf⟩ hl  h

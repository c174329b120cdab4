def rmX_X8_step : Room := { frames := 3, cells := 0, slots := 0, locals := 76 }
set_option maxHeartbeats 4000000 in
set_option maxRecDepth 100000 in
theorem bX_X8_step {p : Program} {l : Launch} {e : Env} {s : State} {m : MethodId} {args : Array Value} {below : List Frame} {meth : Method} {c : Code} {D : va_G} {cI cS cW : ClassId} {q : Nat → Nat} {A : Nat → Prop} {res : Int32 × zSt} (C : zCX p s m args meth c cX8_step 3 (some .int) zU RX8) (hE : zE D (zyX cI cS cW) znX A s) (x1 x2 : Int32) (S : zSt) (H : Heap) (locs : List Loc) (ls : Array Slot) (hH : zH D (zwX cI cS cW q) A s S H locs) (hl : lv_has ls 3 [(0, .ref (q 1)), (1, .int x1), (2, .int x2)]) (h : fX_X8_step  x1 x2 S = some res) : W p l e rmX_X8_step s m args below meth c H locs 0 0 (zQi below D (zwX cI cS cW q) (zyX cI cS cW) A args s res.1 res.2) (F0 m 0 ls []) := by
  have hx := C.1
  have hb := C.2.1
  unfold fX_X8_step at h
  refine lv_iload_n hx hb dX8_step_0 rfl (lv_at hl 1 rfl) ?_
  by_cases c1_0 : x1 = 0
  · replace h := zif_t c1_0 h
    refine lv_tableIn (tgt := 48) hx hb dX8_step_1 (by rw [c1_0]; decide) (by rw [c1_0]; decide) (by rw [c1_0]; rfl) (by decide) ?_
    refine lv_aload_n hx hb dX8_step_48 rfl (lv_at hl 0 rfl) ?_
    refine lv_iload_n hx hb dX8_step_49 rfl (lv_at hl 2 rfl) ?_
    obtain ⟨u2, e3, h⟩ := zbd_s h
    refine z_calli (va_runV (As := [.int x2]) (rest := []) (z_fix C) (cX_X8_putInOrder l D cI cS cW q H.size  x2 S e3) (cwV 1 C.2.2.2.2.1 (zGV zk14_1 zk14_2 zk14_3 zk1_20 zk14_4) rfl rfl rfl yd_X8_putInOrder ⟨Nat.le_of_ble_eq_true rfl, Nat.le_of_ble_eq_true rfl⟩) (z_preV (zNmX hE) hE hH zX_o1 rfl) rfl rfl hl.1 rfl (lv_room (Nat.le_of_ble_eq_true rfl)) dX8_step_50 ⟨Nat.le_refl 0, Nat.le_refl 0⟩) hE hH (fun H locs hH => ?_)
    cases h
    exact z_iret C hE hH dX8_step_53
  · replace h := zif_f c1_0 h
    by_cases c1_1 : x1 = 1
    · replace h := zif_t c1_1 h
      refine lv_tableIn (tgt := 54) hx hb dX8_step_1 (by rw [c1_1]; decide) (by rw [c1_1]; decide) (by rw [c1_1]; rfl) (by decide) ?_
      refine lv_aload_n hx hb dX8_step_54 rfl (lv_at hl 0 rfl) ?_
      refine lv_aload_n hx hb dX8_step_55 rfl (lv_at hl 0 rfl) ?_
      refine lv_iload_n hx hb dX8_step_56 rfl (lv_at hl 2 rfl) ?_
      obtain ⟨u4, e5, h⟩ := zbd_s h
      refine z_calli (va_runV (As := [.int x2]) (rest := [.ref (q 1)]) (z_fix C) (cX_X8_halve l D cI cS cW q H.size  x2 S e5) (cwV 1 C.2.2.2.2.1 (zGV zk14_8 zk14_9 zk14_10 zk1_20 zk14_11) rfl rfl rfl yd_X8_halve ⟨Nat.le_of_ble_eq_true rfl, Nat.le_of_ble_eq_true rfl⟩) (z_preV (zNmX hE) hE hH zX_o1 rfl) rfl rfl hl.1 rfl (lv_room (Nat.le_of_ble_eq_true rfl)) dX8_step_57 ⟨Nat.le_refl 0, Nat.le_refl 0⟩) hE hH (fun H locs hH => ?_)
      obtain ⟨u6, e7, h⟩ := zbd_s h
      refine z_calli (va_runV (As := [.int u4.1]) (rest := []) (z_fix C) (cX_X8_askedAt l D cI cS cW q H.size  u4.1 u4.2 e7) (cwV 1 C.2.2.2.2.1 (zGV zk14_17 zk14_18 zk14_19 zk1_20 zk14_20) rfl rfl rfl yd_X8_askedAt ⟨Nat.le_of_ble_eq_true rfl, Nat.le_of_ble_eq_true rfl⟩) (z_preV (zNmX hE) hE hH zX_o1 rfl) rfl rfl hl.1 rfl (lv_room (Nat.le_of_ble_eq_true rfl)) dX8_step_60 ⟨Nat.le_refl 0, Nat.le_refl 0⟩) hE hH (fun H locs hH => ?_)
      cases h
      exact z_iret C hE hH dX8_step_63
    · replace h := zif_f c1_1 h
      by_cases c1_2 : x1 = 2
      · replace h := zif_t c1_2 h
        refine lv_tableIn (tgt := 64) hx hb dX8_step_1 (by rw [c1_2]; decide) (by rw [c1_2]; decide) (by rw [c1_2]; rfl) (by decide) ?_
        refine lv_aload_n hx hb dX8_step_64 rfl (lv_at hl 0 rfl) ?_
        refine lv_iload_n hx hb dX8_step_65 rfl (lv_at hl 2 rfl) ?_
        obtain ⟨u8, e9, h⟩ := zbd_s h
        refine z_calli (va_runV (As := [.int x2]) (rest := []) (z_fix C) (cX_X8_strike l D cI cS cW q H.size  x2 S e9) (cwV 1 C.2.2.2.2.1 (zGV zk14_21 zk14_22 zk14_23 zk1_20 zk15_0) rfl rfl rfl yd_X8_strike ⟨Nat.le_of_ble_eq_true rfl, Nat.le_of_ble_eq_true rfl⟩) (z_preV (zNmX hE) hE hH zX_o1 rfl) rfl rfl hl.1 rfl (lv_room (Nat.le_of_ble_eq_true rfl)) dX8_step_66 ⟨Nat.le_refl 0, Nat.le_refl 0⟩) hE hH (fun H locs hH => ?_)
        cases h
        exact z_iret C hE hH dX8_step_69
      · replace h := zif_f c1_2 h
        by_cases c1_3 : x1 = 3
        · replace h := zif_t c1_3 h
          refine lv_tableIn (tgt := 80) hx hb dX8_step_1 (by rw [c1_3]; decide) (by rw [c1_3]; decide) (by rw [c1_3]; rfl) (by decide) ?_
          refine lv_aload_n hx hb dX8_step_80 rfl (lv_at hl 0 rfl) ?_
          refine z_get C hE hH zX_o1 rfl zh_X8 3 (by decide) zk13_23 (u_same (C.2.2.2.2.1 _ zk14_0)) (v := .int (S.1 23)) rfl dX8_step_81 ?_
          cases h
          exact z_iret C hE hH dX8_step_84
        · replace h := zif_f c1_3 h
          by_cases c1_4 : x1 = 4
          · replace h := zif_t c1_4 h
            refine lv_tableIn (tgt := 70) hx hb dX8_step_1 (by rw [c1_4]; decide) (by rw [c1_4]; decide) (by rw [c1_4]; rfl) (by decide) ?_
            refine lv_iconst (v := 1) hx hb dX8_step_70 (by decide) ?_
            cases h
            exact z_iret C hE hH dX8_step_71
          · replace h := zif_f c1_4 h
            by_cases c1_5 : x1 = 5
            · replace h := zif_t c1_5 h
              refine lv_tableIn (tgt := 54) hx hb dX8_step_1 (by rw [c1_5]; decide) (by rw [c1_5]; decide) (by rw [c1_5]; rfl) (by decide) ?_
              refine lv_aload_n hx hb dX8_step_54 rfl (lv_at hl 0 rfl) ?_
              refine lv_aload_n hx hb dX8_step_55 rfl (lv_at hl 0 rfl) ?_
              refine lv_iload_n hx hb dX8_step_56 rfl (lv_at hl 2 rfl) ?_
              obtain ⟨u10, e11, h⟩ := zbd_s h
              refine z_calli (va_runV (As := [.int x2]) (rest := [.ref (q 1)]) (z_fix C) (cX_X8_halve l D cI cS cW q H.size  x2 S e11) (cwV 1 C.2.2.2.2.1 (zGV zk14_8 zk14_9 zk14_10 zk1_20 zk14_11) rfl rfl rfl yd_X8_halve ⟨Nat.le_of_ble_eq_true rfl, Nat.le_of_ble_eq_true rfl⟩) (z_preV (zNmX hE) hE hH zX_o1 rfl) rfl rfl hl.1 rfl (lv_room (Nat.le_of_ble_eq_true rfl)) dX8_step_57 ⟨Nat.le_refl 0, Nat.le_refl 0⟩) hE hH (fun H locs hH => ?_)
              obtain ⟨u12, e13, h⟩ := zbd_s h
              refine z_calli (va_runV (As := [.int u10.1]) (rest := []) (z_fix C) (cX_X8_askedAt l D cI cS cW q H.size  u10.1 u10.2 e13) (cwV 1 C.2.2.2.2.1 (zGV zk14_17 zk14_18 zk14_19 zk1_20 zk14_20) rfl rfl rfl yd_X8_askedAt ⟨Nat.le_of_ble_eq_true rfl, Nat.le_of_ble_eq_true rfl⟩) (z_preV (zNmX hE) hE hH zX_o1 rfl) rfl rfl hl.1 rfl (lv_room (Nat.le_of_ble_eq_true rfl)) dX8_step_60 ⟨Nat.le_refl 0, Nat.le_refl 0⟩) hE hH (fun H locs hH => ?_)
              cases h
              exact z_iret C hE hH dX8_step_63
            · replace h := zif_f c1_5 h
              by_cases c1_6 : x1 = 6
              · replace h := zif_t c1_6 h
                refine lv_tableIn (tgt := 72) hx hb dX8_step_1 (by rw [c1_6]; decide) (by rw [c1_6]; decide) (by rw [c1_6]; rfl) (by decide) ?_
                refine lv_iconst (v := 0) hx hb dX8_step_72 (by decide) ?_
                cases h
                exact z_iret C hE hH dX8_step_73
              · replace h := zif_f c1_6 h
                by_cases c1_7 : x1 = 7
                · replace h := zif_t c1_7 h
                  refine lv_tableIn (tgt := 74) hx hb dX8_step_1 (by rw [c1_7]; decide) (by rw [c1_7]; decide) (by rw [c1_7]; rfl) (by decide) ?_
                  refine lv_aload_n hx hb dX8_step_74 rfl (lv_at hl 0 rfl) ?_
                  refine lv_iload_n hx hb dX8_step_75 rfl (lv_at hl 2 rfl) ?_
                  obtain ⟨u14, e15, h⟩ := zbd_s h
                  refine z_calli (va_runV (As := [.int x2]) (rest := []) (z_fix C) (cX_X8_seekBothEnds l D cI cS cW q H.size  x2 S e15) (cwV 1 C.2.2.2.2.1 (zGV zk15_7 zk15_8 zk15_9 zk1_20 zk15_10) rfl rfl rfl yd_X8_seekBothEnds ⟨Nat.le_of_ble_eq_true rfl, Nat.le_of_ble_eq_true rfl⟩) (z_preV (zNmX hE) hE hH zX_o1 rfl) rfl rfl hl.1 rfl (lv_room (Nat.le_of_ble_eq_true rfl)) dX8_step_76 ⟨Nat.le_refl 0, Nat.le_refl 0⟩) hE hH (fun H locs hH => ?_)
                  cases h
                  exact z_iret C hE hH dX8_step_79
                · replace h := zif_f c1_7 h
                  have ec1_0 : ¬ (x1).toInt = 0 := zsw_ne c1_0
                  have ec1_1 : ¬ (x1).toInt = 1 := zsw_ne c1_1
                  have ec1_2 : ¬ (x1).toInt = 2 := zsw_ne c1_2
                  have ec1_3 : ¬ (x1).toInt = 3 := zsw_ne c1_3
                  have ec1_4 : ¬ (x1).toInt = 4 := zsw_ne c1_4
                  have ec1_5 : ¬ (x1).toInt = 5 := zsw_ne c1_5
                  have ec1_6 : ¬ (x1).toInt = 6 := zsw_ne c1_6
                  have ec1_7 : ¬ (x1).toInt = 7 := zsw_ne c1_7
                  refine lv_tableOut (tgt := 80) hx hb dX8_step_1 (by omega) (by decide) ?_
                  refine lv_aload_n hx hb dX8_step_80 rfl (lv_at hl 0 rfl) ?_
                  refine z_get C hE hH zX_o1 rfl zh_X8 3 (by decide) zk13_23 (u_same (C.2.2.2.2.1 _ zk14_0)) (v := .int (S.1 23)) rfl dX8_step_81 ?_
                  cases h
                  exact z_iret C hE hH dX8_step_84
set_option maxHeartbeats 4000000 in
set_option maxRecDepth 100000 in
theorem cX_X8_step (l : Launch) (D : va_G) (cI cS cW : ClassId) (q : Nat → Nat) (sz : Nat) (x1 : Int32) (x2 : Int32) (S : zSt) {res : Int32 × zSt} (h : fX_X8_step x1 x2 S = some res) : zMi l yX8_step vsX8_step rmX_X8_step [.ref (q 1), .int x1, .int x2] D (zwX cI cS cW q) (zyX cI cS cW) znX sz S res.1 res.2 := by
  refine Met.ofW (cc := cX8_step) (maxL := 3) (ret := (some .int)) (by decide) rfl ?_
  intro p e s m args below meth c s₁ B hml hv
  obtain ⟨rfl, rfl, hP, hK, hD0, hN⟩ := hv
  have hl := lv_entry ([.ref (q 1), .int x1, .int x2]) (n := 3) (Nat.le_of_ble_eq_true rfl)
  rw [lg_entry_eq]
  generalize (lg_sl ([.ref (q 1), .int x1, .int x2]) ++ List.replicate (3 - (lg_sl ([.ref (q 1), .int x1, .int x2])).length) Slot.unset).toArray = ls at hl ⊢
  exact bX_X8_step ⟨B.exec, B.bytes, hml, findClass_of_methodNamed B.named, fun w h => atoms_spec (ws := vsX8_step) B.pre w (List.mem_cons_of_mem _ h), B.returns, B.notSynchronized⟩ ⟨hK, fun q h => Or.inr h, hN⟩ x1 x2 S s.heap [] ls ⟨hP, hD0.self, va_S.rf⟩ hl  h
def rmX_X4_room_Sorted : Room := { frames := 0, cells := 0, slots := 0, locals := 0 }
set_option maxHeartbeats 4000000 in
set_option maxRecDepth 100000 in
theorem bX_X4_room_Sorted {p : Program} {l : Launch} {e : Env} {s : State} {m : MethodId} {args : Array Value} {below : List Frame} {meth : Method} {c : Code} {D : va_G} {cI cS cW : ClassId} {q : Nat → Nat} {A : Nat → Prop} {res : Int32} (C : zCX p s m args meth c cX4_room 1 (some .int) zU RX4) (hE : zE D (zyX cI cS cW) znX A s) (S : zSt) (H : Heap) (locs : List Loc) (ls : Array Slot) (hH : zH D (zwX cI cS cW q) A s S H locs) (hl : lv_has ls 1 [(0, .ref (q 1))]) (h : fX_X4_room_Sorted   S = some res) : W p l e rmX_X4_room_Sorted s m args below meth c H locs 0 0 (zQi below D (zwX cI cS cW q) (zyX cI cS cW) A args s res S) (F0 m 0 ls []) := by
  have hx := C.1
  have hb := C.2.1
  unfold fX_X4_room_Sorted at h
  refine lv_aload_n hx hb dX4_room_0 rfl (lv_at hl 0 rfl) ?_
  refine z_get C hE hH zX_o1 rfl zh_X8 2 (by decide) zk3_11 (fun _ h9 => h9) (v := .int (S.1 22)) rfl dX4_room_1 ?_
  cases h
  exact z_iret C hE hH dX4_room_4
set_option maxHeartbeats 4000000 in
set_option maxRecDepth 100000 in
theorem cX_X4_room_Sorted (l : Launch) (D : va_G) (cI cS cW : ClassId) (q : Nat → Nat) (sz : Nat) (S : zSt) {res : Int32} (h : fX_X4_room_Sorted  S = some res) : zMi l yX4_room vsX4_room rmX_X4_room_Sorted [.ref (q 1)] D (zwX cI cS cW q) (zyX cI cS cW) znX sz S res S := by
  refine Met.ofW (cc := cX4_room) (maxL := 1) (ret := (some .int)) (by decide) rfl ?_
  intro p e s m args below meth c s₁ B hml hv
  obtain ⟨rfl, rfl, hP, hK, hD0, hN⟩ := hv
  have hl := lv_entry ([.ref (q 1)]) (n := 1) (Nat.le_of_ble_eq_true rfl)
  rw [lg_entry_eq]
  generalize (lg_sl ([.ref (q 1)]) ++ List.replicate (1 - (lg_sl ([.ref (q 1)])).length) Slot.unset).toArray = ls at hl ⊢
  exact bX_X4_room_Sorted ⟨B.exec, B.bytes, hml, findClass_of_methodNamed B.named, fun w h => atoms_spec (ws := vsX4_room) B.pre w (List.mem_cons_of_mem _ h), B.returns, B.notSynchronized⟩ ⟨hK, fun q h => Or.inr h, hN⟩  S s.heap [] ls ⟨hP, hD0.self, va_S.rf⟩ hl  h
def rmX_X7_take_Sorted : Room := { frames := 4, cells := 0, slots := 0, locals := 98 }
set_option maxHeartbeats 4000000 in
set_option maxRecDepth 100000 in
theorem bX_X7_take_Sorted {p : Program} {l : Launch} {e : Env} {s : State} {m : MethodId} {args : Array Value} {below : List Frame} {meth : Method} {c : Code} {D : va_G} {cI cS cW : ClassId} {q : Nat → Nat} {A : Nat → Prop} {res : zSt} (C : zCX p s m args meth c cX7_take 3 none zU RX7) (hE : zE D (zyX cI cS cW) znX A s) (x1 x2 : Int32) (S : zSt) (H : Heap) (locs : List Loc) (ls : Array Slot) (hH : zH D (zwX cI cS cW q) A s S H locs) (hl : lv_has ls 3 [(0, .ref (q 1)), (1, .int x1), (2, .int x2)]) (h : fX_X7_take_Sorted  x1 x2 S = some res) : W p l e rmX_X7_take_Sorted s m args below meth c H locs 0 0 (zQv below D (zwX cI cS cW q) (zyX cI cS cW) A args s res) (F0 m 0 ls []) := by
  have hx := C.1
  have hb := C.2.1
  unfold fX_X7_take_Sorted at h
  refine lv_aload_n hx hb dX7_take_0 rfl (lv_at hl 0 rfl) ?_
  refine z_get C hE hH zX_o1 rfl zh_X8 6 (by decide) zk3_18 (fun _ h9 => h9) (v := .int (S.1 13)) rfl dX7_take_1 ?_
  refine lv_sipush (v := 200) hx hb dX7_take_4 (by decide) ?_
  refine lv_icmp_ge (tgt := 48) hx hb dX7_take_7 (by decide) (fun c1 => ?_) (fun c1 => ?_)
  · replace h := zif_t c1 h
    cases h
    exact z_vret C hE hH dX7_take_48
  · replace h := zif_f c1 h
    refine lv_aload_n hx hb dX7_take_10 rfl (lv_at hl 0 rfl) ?_
    refine z_get C hE hH zX_o1 rfl zh_X8 4 (by decide) zk3_16 (fun _ h9 => h9) (v := .ref (q 11)) rfl dX7_take_11 ?_
    refine lv_aload_n hx hb dX7_take_14 rfl (lv_at hl 0 rfl) ?_
    refine z_get C hE hH zX_o1 rfl zh_X8 6 (by decide) zk3_18 (fun _ h9 => h9) (v := .int (S.1 13)) rfl dX7_take_15 ?_
    refine lv_aload_n hx hb dX7_take_18 rfl (lv_at hl 0 rfl) ?_
    refine lv_iload_n hx hb dX7_take_19 rfl (lv_at hl 1 rfl) ?_
    refine lv_iload_n hx hb dX7_take_20 rfl (lv_at hl 2 rfl) ?_
    obtain ⟨u2, e3, h⟩ := zbd_s h
    refine z_calli (va_runU (As := [.int x1, .int x2]) (rest := [.int (S.1 13), .ref (q 11)]) (z_fix C) (cX_X8_step l D cI cS cW q H.size  x1 x2 S e3) (va_cwA 2 C.2.2.2.2.1 (zGU (x := ⟨"WhichShelf$Shelf", "step", "(II)I"⟩) (owner := "WhichShelf$Shelf") zk8_4 zk8_5 zk13_20 zk13_21 zk1_20 zk13_22) rfl rfl rfl ((hE.2.2 _ znX_2).2) ydu_X7_step ⟨Nat.le_of_ble_eq_true rfl, Nat.le_of_ble_eq_true rfl⟩) (z_preV (zNmX hE) hE hH zX_o1 rfl) rfl rfl hl.1 rfl (lv_room (Nat.le_of_ble_eq_true rfl)) dX7_take_21 ⟨Nat.le_refl 0, Nat.le_refl 0⟩) hE hH (fun H locs hH => ?_)
    obtain ⟨g4, h⟩ := zgd_s h
    refine z_iast C hE hH zX_a11 (t0 := 0) rfl g4 zX_r11 dX7_take_24 (fun H locs hH => ?_)
    refine lv_aload_n hx hb dX7_take_25 rfl (lv_at hl 0 rfl) ?_
    refine z_get C hE hH zX_o1 rfl zh_X8 5 (by decide) zk3_17 (fun _ h9 => h9) (v := .ref (q 17)) rfl dX7_take_26 ?_
    refine lv_aload_n hx hb dX7_take_29 rfl (lv_at hl 0 rfl) ?_
    refine z_get C hE hH zX_o1 rfl zh_X8 6 (by decide) zk3_18 (fun _ h9 => h9) (v := .int (u2.2.1 13)) rfl dX7_take_30 ?_
    refine lv_aload_n hx hb dX7_take_33 rfl (lv_at hl 0 rfl) ?_
    obtain ⟨u5, e6, h⟩ := zbd_s h
    refine z_calli (va_runU (As := []) (rest := [.int (u2.2.1 13), .ref (q 17)]) (z_fix C) (cX_X4_room_Sorted l D cI cS cW q H.size   (zsR u2.2 11 (S.1 13).toNatClampNeg u2.1) e6) (va_cwA 0 C.2.2.2.2.1 (zGU (x := ⟨"WhichShelf$Shelf", "room", "()I"⟩) (owner := "WhichShelf$Shelf") zk16_16 zk16_17 zk17_4 zk17_1 zk3_6 zk17_2) rfl rfl rfl ((hE.2.2 _ znX_3).2) ydu_X7_room ⟨Nat.le_of_ble_eq_true rfl, Nat.le_of_ble_eq_true rfl⟩) (z_preV (zNmX hE) hE hH zX_o1 rfl) rfl rfl hl.1 rfl (lv_room (Nat.le_of_ble_eq_true rfl)) dX7_take_34 ⟨Nat.le_refl 0, Nat.le_refl 0⟩) hE hH (fun H locs hH => ?_)
    obtain ⟨g7, h⟩ := zgd_s h
    refine z_iast C hE hH zX_a17 (t0 := 0) rfl g7 zX_r17 dX7_take_37 (fun H locs hH => ?_)
    refine lv_aload_n hx hb dX7_take_38 rfl (lv_at hl 0 rfl) ?_
    refine lv_dup hx hb dX7_take_39 rfl ?_
    refine z_get C hE hH zX_o1 rfl zh_X8 6 (by decide) zk3_18 (fun _ h9 => h9) (v := .int (u2.2.1 13)) rfl dX7_take_40 ?_
    refine lv_iconst (v := 1) hx hb dX7_take_43 (by decide) ?_
    refine lv_iadd hx hb dX7_take_44 ?_
    refine z_put C hE hH zX_o1 rfl zh_X8 tyX8_ok nmX8 6 (by decide) zk3_18 (fun _ h9 => h9) rfl (ty := .int) rfl rfl rfl (Nat.le_of_ble_eq_true rfl) zX_i13 dX7_take_45 (fun H locs hH => ?_)
    cases h
    exact z_vret C hE hH dX7_take_48
set_option maxHeartbeats 4000000 in
set_option maxRecDepth 100000 in
theorem cX_X7_take_Sorted (l : Launch) (D : va_G) (cI cS cW : ClassId) (q : Nat → Nat) (sz : Nat) (x1 : Int32) (x2 : Int32) (S : zSt) {res : zSt} (h : fX_X7_take_Sorted x1 x2 S = some res) : zMv l yX7_take vsX7_take rmX_X7_take_Sorted [.ref (q 1), .int x1, .int x2] D (zwX cI cS cW q) (zyX cI cS cW) znX sz S res := by
  refine Met.ofW (cc := cX7_take) (maxL := 3) (ret := none) (by decide) rfl ?_
  intro p e s m args below meth c s₁ B hml hv
  obtain ⟨rfl, rfl, hP, hK, hD0, hN⟩ := hv
  have hl := lv_entry ([.ref (q 1), .int x1, .int x2]) (n := 3) (Nat.le_of_ble_eq_true rfl)
  rw [lg_entry_eq]
  generalize (lg_sl ([.ref (q 1), .int x1, .int x2]) ++ List.replicate (3 - (lg_sl ([.ref (q 1), .int x1, .int x2])).length) Slot.unset).toArray = ls at hl ⊢
  exact bX_X7_take_Sorted ⟨B.exec, B.bytes, hml, findClass_of_methodNamed B.named, fun w h => atoms_spec (ws := vsX7_take) B.pre w (List.mem_cons_of_mem _ h), B.returns, B.notSynchronized⟩ ⟨hK, fun q h => Or.inr h, hN⟩ x1 x2 S s.heap [] ls ⟨hP, hD0.self, va_S.rf⟩ hl  h
def rmX_X2_chainOf : Room := { frames := 0, cells := 0, slots := 0, locals := 0 }
set_option maxHeartbeats 4000000 in
set_option maxRecDepth 100000 in
theorem bX_X2_chainOf {p : Program} {l : Launch} {e : Env} {s : State} {m : MethodId} {args : Array Value} {below : List Frame} {meth : Method} {c : Code} {D : va_G} {cI cS cW : ClassId} {q : Nat → Nat} {A : Nat → Prop} {res : Int32} (C : zCX p s m args meth c cX2_chainOf 2 (some .int) zU RX2) (hE : zE D (zyX cI cS cW) znX A s) (x1 : Int32) (S : zSt) (H : Heap) (locs : List Loc) (ls : Array Slot) (hH : zH D (zwX cI cS cW q) A s S H locs) (hl : lv_has ls 2 [(0, .ref (q 2)), (1, .int x1)]) (h : fX_X2_chainOf  x1 S = some res) : W p l e rmX_X2_chainOf s m args below meth c H locs 0 0 (zQi below D (zwX cI cS cW q) (zyX cI cS cW) A args s res S) (F0 m 0 ls []) := by
  have hx := C.1
  have hb := C.2.1
  unfold fX_X2_chainOf at h
  refine lv_iload_n hx hb dX2_chainOf_0 rfl (lv_at hl 1 rfl) ?_
  refine lv_aload_n hx hb dX2_chainOf_1 rfl (lv_at hl 0 rfl) ?_
  refine z_get C hE hH zX_o2 rfl zh_X2 2 (by decide) zk8_22 (u_same (C.2.2.2.2.1 _ zk8_23)) (v := .int (S.1 26)) rfl dX2_chainOf_2 ?_
  refine lv_iconst (v := 1) hx hb dX2_chainOf_5 (by decide) ?_
  refine lv_isub hx hb dX2_chainOf_6 ?_
  refine lv_iand hx hb dX2_chainOf_7 ?_
  cases h
  exact z_iret C hE hH dX2_chainOf_8
set_option maxHeartbeats 4000000 in
set_option maxRecDepth 100000 in
theorem cX_X2_chainOf (l : Launch) (D : va_G) (cI cS cW : ClassId) (q : Nat → Nat) (sz : Nat) (x1 : Int32) (S : zSt) {res : Int32} (h : fX_X2_chainOf x1 S = some res) : zMi l yX2_chainOf vsX2_chainOf rmX_X2_chainOf [.ref (q 2), .int x1] D (zwX cI cS cW q) (zyX cI cS cW) znX sz S res S := by
  refine Met.ofW (cc := cX2_chainOf) (maxL := 2) (ret := (some .int)) (by decide) rfl ?_
  intro p e s m args below meth c s₁ B hml hv
  obtain ⟨rfl, rfl, hP, hK, hD0, hN⟩ := hv
  have hl := lv_entry ([.ref (q 2), .int x1]) (n := 2) (Nat.le_of_ble_eq_true rfl)
  rw [lg_entry_eq]
  generalize (lg_sl ([.ref (q 2), .int x1]) ++ List.replicate (2 - (lg_sl ([.ref (q 2), .int x1])).length) Slot.unset).toArray = ls at hl ⊢
  exact bX_X2_chainOf ⟨B.exec, B.bytes, hml, findClass_of_methodNamed B.named, fun w h => atoms_spec (ws := vsX2_chainOf) B.pre w (List.mem_cons_of_mem _ h), B.returns, B.notSynchronized⟩ ⟨hK, fun q h => Or.inr h, hN⟩ x1 S s.heap [] ls ⟨hP, hD0.self, va_S.rf⟩ hl  h
def rmX_X2_headOfChain : Room := { frames := 1, cells := 0, slots := 0, locals := 21 }
set_option maxHeartbeats 4000000 in
set_option maxRecDepth 100000 in
theorem bX_X2_headOfChain_2 {p : Program} {l : Launch} {e : Env} {s : State} {m : MethodId} {args : Array Value} {below : List Frame} {meth : Method} {c : Code} {D : va_G} {cI cS cW : ClassId} {q : Nat → Nat} {A : Nat → Prop} {res : Int32} (C : zCX p s m args meth c cX2_headOfChain 3 (some .int) zU RX2) (hE : zE D (zyX cI cS cW) znX A s) : ∀ (n : Nat) (x1 x2 : Int32) (S : zSt) (H : Heap) (locs : List Loc) (ls : Array Slot), zH D (zwX cI cS cW q) A s S H locs → lv_has ls 3 [(0, .ref (q 2)), (1, .int x1), (2, .int x2)] → fX_X2_headOfChain_2  n x1 x2 S = some res → W p l e rmX_X2_headOfChain s m args below meth c H locs 0 0 (zQi below D (zwX cI cS cW q) (zyX cI cS cW) A args s res S) (F0 m 2 ls []) := by
  have hx := C.1
  have hb := C.2.1
  intro n
  induction n with
  | zero =>
    intro x1 x2 S H locs ls hH hl  h
    cases h
  | succ n hK2 =>
    intro x1 x2 S H locs ls hH hl  h
    rw [fX_X2_headOfChain_2] at h
    refine lv_iload_n hx hb dX2_headOfChain_2 rfl (lv_at hl 2 rfl) ?_
    refine lv_aload_n hx hb dX2_headOfChain_3 rfl (lv_at hl 0 rfl) ?_
    refine z_get C hE hH zX_o2 rfl zh_X2 3 (by decide) zk9_0 (u_same (C.2.2.2.2.1 _ zk9_1)) (v := .int (S.1 27)) rfl dX2_headOfChain_4 ?_
    refine lv_icmp_ge (tgt := 30) hx hb dX2_headOfChain_7 (by decide) (fun c1 => ?_) (fun c1 => ?_)
    · replace h := zif_t c1 h
      refine lv_iload_n hx hb dX2_headOfChain_30 rfl (lv_at hl 2 rfl) ?_
      cases h
      exact z_iret C hE hH dX2_headOfChain_31
    · replace h := zif_f c1 h
      refine lv_aload_n hx hb dX2_headOfChain_10 rfl (lv_at hl 0 rfl) ?_
      refine lv_aload_n hx hb dX2_headOfChain_11 rfl (lv_at hl 0 rfl) ?_
      refine z_get C hE hH zX_o2 rfl zh_X2 0 (by decide) zk9_6 (u_same (C.2.2.2.2.1 _ zk9_7)) (v := .ref (q 35)) rfl dX2_headOfChain_12 ?_
      refine lv_iload_n hx hb dX2_headOfChain_15 rfl (lv_at hl 2 rfl) ?_
      obtain ⟨g2, h⟩ := zgd_s h
      refine z_iald C hE hH zX_a35 (t0 := 0) rfl g2 dX2_headOfChain_16 ?_
      obtain ⟨u3, e4, h⟩ := zbd_s h
      refine z_calli (va_runV (As := [.int (S.2 35 x2.toNatClampNeg)]) (rest := []) (z_fix C) (cX_X2_chainOf l D cI cS cW q H.size  (S.2 35 x2.toNatClampNeg) S e4) (cwV 1 C.2.2.2.2.1 (zGV zk9_16 zk9_17 zk9_18 zk1_23 zk9_19) rfl rfl rfl yd_X2_chainOf ⟨Nat.le_of_ble_eq_true rfl, Nat.le_of_ble_eq_true rfl⟩) (z_preV (zNmX hE) hE hH zX_o2 rfl) rfl rfl hl.1 rfl (lv_room (Nat.le_of_ble_eq_true rfl)) dX2_headOfChain_17 ⟨Nat.le_refl 0, Nat.le_refl 0⟩) hE hH (fun H locs hH => ?_)
      refine lv_iload_n hx hb dX2_headOfChain_20 rfl (lv_at hl 1 rfl) ?_
      refine lv_icmp_ge (tgt := 30) hx hb dX2_headOfChain_21 (by decide) (fun c5 => ?_) (fun c5 => ?_)
      · replace h := zif_t c5 h
        refine lv_iload_n hx hb dX2_headOfChain_30 rfl (lv_at hl 2 rfl) ?_
        cases h
        exact z_iret C hE hH dX2_headOfChain_31
      · replace h := zif_f c5 h
        refine lv_iinc (v := (x2 + 1)) (lv' := [(2, .int (x2 + 1)), (0, .ref (q 2)), (1, .int x1)]) hx hb dX2_headOfChain_24 hl (k := 2) rfl rfl (by decide) rfl (fun ls hl => ?_)
        refine lv_goto (tgt := 2) hx hb dX2_headOfChain_27 (by decide) ?_
        exact hK2 x1 (x2 + 1) S H locs ls hH (lv_sub hl [1, 2, 0] rfl) h
set_option maxHeartbeats 4000000 in
set_option maxRecDepth 100000 in
theorem bX_X2_headOfChain {p : Program} {l : Launch} {e : Env} {s : State} {m : MethodId} {args : Array Value} {below : List Frame} {meth : Method} {c : Code} {D : va_G} {cI cS cW : ClassId} {q : Nat → Nat} {A : Nat → Prop} {res : Int32} (C : zCX p s m args meth c cX2_headOfChain 3 (some .int) zU RX2) (hE : zE D (zyX cI cS cW) znX A s) (x1 : Int32) (S : zSt) (H : Heap) (locs : List Loc) (ls : Array Slot) (hH : zH D (zwX cI cS cW q) A s S H locs) (hl : lv_has ls 3 [(0, .ref (q 2)), (1, .int x1)]) (h : fX_X2_headOfChain  x1 S = some res) : W p l e rmX_X2_headOfChain s m args below meth c H locs 0 0 (zQi below D (zwX cI cS cW q) (zyX cI cS cW) A args s res S) (F0 m 0 ls []) := by
  have hx := C.1
  have hb := C.2.1
  unfold fX_X2_headOfChain at h
  refine lv_iconst (v := 0) hx hb dX2_headOfChain_0 (by decide) ?_
  refine lv_istore_n (lv' := [(2, .int 0), (0, .ref (q 2)), (1, .int x1)]) hx hb dX2_headOfChain_1 rfl hl (by decide) rfl (fun ls hl => ?_)
  exact bX_X2_headOfChain_2 C hE   1000 x1 0 S H locs ls hH (lv_sub hl [1, 2, 0] rfl) h
set_option maxHeartbeats 4000000 in
set_option maxRecDepth 100000 in
theorem cX_X2_headOfChain (l : Launch) (D : va_G) (cI cS cW : ClassId) (q : Nat → Nat) (sz : Nat) (x1 : Int32) (S : zSt) {res : Int32} (h : fX_X2_headOfChain x1 S = some res) : zMi l yX2_headOfChain vsX2_headOfChain rmX_X2_headOfChain [.ref (q 2), .int x1] D (zwX cI cS cW q) (zyX cI cS cW) znX sz S res S := by
  refine Met.ofW (cc := cX2_headOfChain) (maxL := 3) (ret := (some .int)) (by decide) rfl ?_
  intro p e s m args below meth c s₁ B hml hv
  obtain ⟨rfl, rfl, hP, hK, hD0, hN⟩ := hv
  have hl := lv_entry ([.ref (q 2), .int x1]) (n := 3) (Nat.le_of_ble_eq_true rfl)
  rw [lg_entry_eq]
  generalize (lg_sl ([.ref (q 2), .int x1]) ++ List.replicate (3 - (lg_sl ([.ref (q 2), .int x1])).length) Slot.unset).toArray = ls at hl ⊢
  exact bX_X2_headOfChain ⟨B.exec, B.bytes, hml, findClass_of_methodNamed B.named, fun w h => atoms_spec (ws := vsX2_headOfChain) B.pre w (List.mem_cons_of_mem _ h), B.returns, B.notSynchronized⟩ ⟨hK, fun q h => Or.inr h, hN⟩ x1 S s.heap [] ls ⟨hP, hD0.self, va_S.rf⟩ hl  h
def rmX_X4_insert_Hash : Room := { frames := 1, cells := 0, slots := 0, locals := 30 }
set_option maxHeartbeats 4000000 in
set_option maxRecDepth 100000 in
theorem bX_X4_insert_Hash {p : Program} {l : Launch} {e : Env} {s : State} {m : MethodId} {args : Array Value} {below : List Frame} {meth : Method} {c : Code} {D : va_G} {cI cS cW : ClassId} {q : Nat → Nat} {A : Nat → Prop} {res : zSt} (C : zCX p s m args meth c cX4_insert 3 none zU RX4) (hE : zE D (zyX cI cS cW) znX A s) (x1 x2 : Int32) (S : zSt) (H : Heap) (locs : List Loc) (ls : Array Slot) (hH : zH D (zwX cI cS cW q) A s S H locs) (hl : lv_has ls 3 [(0, .ref (q 2)), (1, .int x1), (2, .int x2)]) (h : fX_X4_insert_Hash  x1 x2 S = some res) : W p l e rmX_X4_insert_Hash s m args below meth c H locs 0 0 (zQv below D (zwX cI cS cW q) (zyX cI cS cW) A args s res) (F0 m 0 ls []) := by
  have hx := C.1
  have hb := C.2.1
  unfold fX_X4_insert_Hash at h
  refine lv_iload_n hx hb dX4_insert_0 rfl (lv_at hl 1 rfl) ?_
  refine lv_if_lt (tgt := 60) hx hb dX4_insert_1 (by decide) (fun c1 => ?_) (fun c1 => ?_)
  · replace h := zif_t c1 h
    cases h
    exact z_vret C hE hH dX4_insert_60
  · replace h := zif_f c1 h
    refine lv_iload_n hx hb dX4_insert_4 rfl (lv_at hl 1 rfl) ?_
    refine lv_aload_n hx hb dX4_insert_5 rfl (lv_at hl 0 rfl) ?_
    refine z_get C hE hH zX_o2 rfl zh_X2 3 (by decide) zk3_9 (fun _ h9 => h9) (v := .int (S.1 27)) rfl dX4_insert_6 ?_
    refine lv_icmp_gt (tgt := 60) hx hb dX4_insert_9 (by decide) (fun c2 => ?_) (fun c2 => ?_)
    · replace h := zif_t c2 h
      cases h
      exact z_vret C hE hH dX4_insert_60
    · replace h := zif_f c2 h
      refine lv_aload_n hx hb dX4_insert_12 rfl (lv_at hl 0 rfl) ?_
      refine z_get C hE hH zX_o2 rfl zh_X2 3 (by decide) zk3_9 (fun _ h9 => h9) (v := .int (S.1 27)) rfl dX4_insert_13 ?_
      refine lv_sipush (v := 200) hx hb dX4_insert_16 (by decide) ?_
      refine lv_icmp_ge (tgt := 60) hx hb dX4_insert_19 (by decide) (fun c3 => ?_) (fun c3 => ?_)
      · replace h := zif_t c3 h
        cases h
        exact z_vret C hE hH dX4_insert_60
      · replace h := zif_f c3 h
        refine lv_aload_n hx hb dX4_insert_22 rfl (lv_at hl 0 rfl) ?_
        refine z_get C hE hH zX_o2 rfl zh_X2 0 (by decide) zk3_8 (fun _ h9 => h9) (v := .ref (q 35)) rfl dX4_insert_23 ?_
        refine lv_iload_n hx hb dX4_insert_26 rfl (lv_at hl 1 rfl) ?_
        refine lv_aload_n hx hb dX4_insert_27 rfl (lv_at hl 0 rfl) ?_
        refine z_get C hE hH zX_o2 rfl zh_X2 0 (by decide) zk3_8 (fun _ h9 => h9) (v := .ref (q 35)) rfl dX4_insert_28 ?_
        refine lv_iload_n hx hb dX4_insert_31 rfl (lv_at hl 1 rfl) ?_
        refine lv_iconst (v := 1) hx hb dX4_insert_32 (by decide) ?_
        refine lv_iadd hx hb dX4_insert_33 ?_
        refine lv_aload_n hx hb dX4_insert_34 rfl (lv_at hl 0 rfl) ?_
        refine z_get C hE hH zX_o2 rfl zh_X2 3 (by decide) zk3_9 (fun _ h9 => h9) (v := .int (S.1 27)) rfl dX4_insert_35 ?_
        refine lv_iload_n hx hb dX4_insert_38 rfl (lv_at hl 1 rfl) ?_
        refine lv_isub hx hb dX4_insert_39 ?_
        obtain ⟨g4, h⟩ := zgd_s h
        refine z_copyi C hE hH hl.1 zk10_5 zk9_9 zk9_10 zk9_11 zX_a35 zX_a35 (t0 := 0) rfl g4 zX_c35 (Nat.le_of_ble_eq_true rfl) (by decide) dX4_insert_40 (fun H locs hH => ?_)
        refine lv_aload_n hx hb dX4_insert_43 rfl (lv_at hl 0 rfl) ?_
        refine z_get C hE hH zX_o2 rfl zh_X2 0 (by decide) zk3_8 (fun _ h9 => h9) (v := .ref (q 35)) rfl dX4_insert_44 ?_
        refine lv_iload_n hx hb dX4_insert_47 rfl (lv_at hl 1 rfl) ?_
        refine lv_iload_n hx hb dX4_insert_48 rfl (lv_at hl 2 rfl) ?_
        obtain ⟨g5, h⟩ := zgd_s h
        refine z_iast C hE hH zX_a35 (t0 := 0) rfl g5 zX_r35 dX4_insert_49 (fun H locs hH => ?_)
        refine lv_aload_n hx hb dX4_insert_50 rfl (lv_at hl 0 rfl) ?_
        refine lv_dup hx hb dX4_insert_51 rfl ?_
        refine z_get C hE hH zX_o2 rfl zh_X2 3 (by decide) zk3_9 (fun _ h9 => h9) (v := .int (S.1 27)) rfl dX4_insert_52 ?_
        refine lv_iconst (v := 1) hx hb dX4_insert_55 (by decide) ?_
        refine lv_iadd hx hb dX4_insert_56 ?_
        refine z_put C hE hH zX_o2 rfl zh_X2 tyX2_ok nmX2 3 (by decide) zk3_9 (fun _ h9 => h9) rfl (ty := .int) rfl rfl rfl (Nat.le_of_ble_eq_true rfl) zX_i27 dX4_insert_57 (fun H locs hH => ?_)
        cases h
        exact z_vret C hE hH dX4_insert_60
set_option maxHeartbeats 4000000 in
set_option maxRecDepth 100000 in
theorem cX_X4_insert_Hash (l : Launch) (D : va_G) (cI cS cW : ClassId) (q : Nat → Nat) (sz : Nat) (x1 : Int32) (x2 : Int32) (S : zSt) {res : zSt} (h : fX_X4_insert_Hash x1 x2 S = some res) : zMv l yX4_insert vsX4_insert rmX_X4_insert_Hash [.ref (q 2), .int x1, .int x2] D (zwX cI cS cW q) (zyX cI cS cW) znX sz S res := by
  refine Met.ofW (cc := cX4_insert) (maxL := 3) (ret := none) (by decide) rfl ?_
  intro p e s m args below meth c s₁ B hml hv
  obtain ⟨rfl, rfl, hP, hK, hD0, hN⟩ := hv
  have hl := lv_entry ([.ref (q 2), .int x1, .int x2]) (n := 3) (Nat.le_of_ble_eq_true rfl)
  rw [lg_entry_eq]
  generalize (lg_sl ([.ref (q 2), .int x1, .int x2]) ++ List.replicate (3 - (lg_sl ([.ref (q 2), .int x1, .int x2])).length) Slot.unset).toArray = ls at hl ⊢
  exact bX_X4_insert_Hash ⟨B.exec, B.bytes, hml, findClass_of_methodNamed B.named, fun w h => atoms_spec (ws := vsX4_insert) B.pre w (List.mem_cons_of_mem _ h), B.returns, B.notSynchronized⟩ ⟨hK, fun q h => Or.inr h, hN⟩ x1 x2 S s.heap [] ls ⟨hP, hD0.self, va_S.rf⟩ hl  h
def rmX_X2_putAtHead : Room := { frames := 2, cells := 0, slots := 0, locals := 52 }
set_option maxHeartbeats 4000000 in
set_option maxRecDepth 100000 in
theorem bX_X2_putAtHead {p : Program} {l : Launch} {e : Env} {s : State} {m : MethodId} {args : Array Value} {below : List Frame} {meth : Method} {c : Code} {D : va_G} {cI cS cW : ClassId} {q : Nat → Nat} {A : Nat → Prop} {res : Int32 × zSt} (C : zCX p s m args meth c cX2_putAtHead 2 (some .int) zU RX2) (hE : zE D (zyX cI cS cW) znX A s) (x1 : Int32) (S : zSt) (H : Heap) (locs : List Loc) (ls : Array Slot) (hH : zH D (zwX cI cS cW q) A s S H locs) (hl : lv_has ls 2 [(0, .ref (q 2)), (1, .int x1)]) (h : fX_X2_putAtHead  x1 S = some res) : W p l e rmX_X2_putAtHead s m args below meth c H locs 0 0 (zQi below D (zwX cI cS cW q) (zyX cI cS cW) A args s res.1 res.2) (F0 m 0 ls []) := by
  have hx := C.1
  have hb := C.2.1
  unfold fX_X2_putAtHead at h
  refine lv_aload_n hx hb dX2_putAtHead_0 rfl (lv_at hl 0 rfl) ?_
  refine lv_aload_n hx hb dX2_putAtHead_1 rfl (lv_at hl 0 rfl) ?_
  refine lv_aload_n hx hb dX2_putAtHead_2 rfl (lv_at hl 0 rfl) ?_
  refine lv_iload_n hx hb dX2_putAtHead_3 rfl (lv_at hl 1 rfl) ?_
  obtain ⟨u1, e2, h⟩ := zbd_s h
  refine z_calli (va_runV (As := [.int x1]) (rest := [.ref (q 2), .ref (q 2)]) (z_fix C) (cX_X2_chainOf l D cI cS cW q H.size  x1 S e2) (cwV 1 C.2.2.2.2.1 (zGV zk9_16 zk9_17 zk9_18 zk1_23 zk9_19) rfl rfl rfl yd_X2_chainOf ⟨Nat.le_of_ble_eq_true rfl, Nat.le_of_ble_eq_true rfl⟩) (z_preV (zNmX hE) hE hH zX_o2 rfl) rfl rfl hl.1 rfl (lv_room (Nat.le_of_ble_eq_true rfl)) dX2_putAtHead_4 ⟨Nat.le_refl 0, Nat.le_refl 0⟩) hE hH (fun H locs hH => ?_)
  obtain ⟨u3, e4, h⟩ := zbd_s h
  refine z_calli (va_runV (As := [.int u1]) (rest := [.ref (q 2)]) (z_fix C) (cX_X2_headOfChain l D cI cS cW q H.size  u1 S e4) (cwV 1 C.2.2.2.2.1 (zGV zk9_20 zk9_21 zk9_22 zk1_23 zk9_23) rfl rfl rfl yd_X2_headOfChain ⟨Nat.le_of_ble_eq_true rfl, Nat.le_of_ble_eq_true rfl⟩) (z_preV (zNmX hE) hE hH zX_o2 rfl) rfl rfl hl.1 rfl (lv_room (Nat.le_of_ble_eq_true rfl)) dX2_putAtHead_7 ⟨Nat.le_refl 0, Nat.le_refl 0⟩) hE hH (fun H locs hH => ?_)
  refine lv_iload_n hx hb dX2_putAtHead_10 rfl (lv_at hl 1 rfl) ?_
  obtain ⟨u5, e6, h⟩ := zbd_s h
  refine z_callv (va_runU (As := [.int u3, .int x1]) (rest := []) (z_fix C) (cX_X4_insert_Hash l D cI cS cW q H.size  u3 x1 S e6) (va_cwU 2 C.2.2.2.2.1 (zGU (x := ⟨"WhichShelf$Hash", "insert", "(II)V"⟩) (owner := "WhichShelf$Lined") zk10_0 zk10_1 zk10_2 zk10_3 zk3_6 zk10_4) rfl rfl rfl rfl ydu_X4_insert ⟨Nat.le_of_ble_eq_true rfl, Nat.le_of_ble_eq_true rfl⟩) (z_preV (zNmX hE) hE hH zX_o2 rfl) rfl rfl hl.1 rfl (lv_room (Nat.le_of_ble_eq_true rfl)) dX2_putAtHead_11 ⟨Nat.le_refl 0, Nat.le_refl 0⟩) hE hH (fun H locs hH => ?_)
  refine lv_iconst (v := 1) hx hb dX2_putAtHead_14 (by decide) ?_
  cases h
  exact z_iret C hE hH dX2_putAtHead_15
set_option maxHeartbeats 4000000 in
set_option maxRecDepth 100000 in
theorem cX_X2_putAtHead (l : Launch) (D : va_G) (cI cS cW : ClassId) (q : Nat → Nat) (sz : Nat) (x1 : Int32) (S : zSt) {res : Int32 × zSt} (h : fX_X2_putAtHead x1 S = some res) : zMi l yX2_putAtHead vsX2_putAtHead rmX_X2_putAtHead [.ref (q 2), .int x1] D (zwX cI cS cW q) (zyX cI cS cW) znX sz S res.1 res.2 := by
  refine Met.ofW (cc := cX2_putAtHead) (maxL := 2) (ret := (some .int)) (by decide) rfl ?_
  intro p e s m args below meth c s₁ B hml hv
  obtain ⟨rfl, rfl, hP, hK, hD0, hN⟩ := hv
  have hl := lv_entry ([.ref (q 2), .int x1]) (n := 2) (Nat.le_of_ble_eq_true rfl)
  rw [lg_entry_eq]
  generalize (lg_sl ([.ref (q 2), .int x1]) ++ List.replicate (2 - (lg_sl ([.ref (q 2), .int x1])).length) Slot.unset).toArray = ls at hl ⊢
  exact bX_X2_putAtHead ⟨B.exec, B.bytes, hml, findClass_of_methodNamed B.named, fun w h => atoms_spec (ws := vsX2_putAtHead) B.pre w (List.mem_cons_of_mem _ h), B.returns, B.notSynchronized⟩ ⟨hK, fun q h => Or.inr h, hN⟩ x1 S s.heap [] ls ⟨hP, hD0.self, va_S.rf⟩ hl  h
def rmX_X2_spreadIfFull : Room := { frames := 3, cells := 0, slots := 0, locals := 73 }
set_option maxHeartbeats 4000000 in
set_option maxRecDepth 100000 in
theorem bX_X2_spreadIfFull_51 {p : Program} {l : Launch} {e : Env} {s : State} {m : MethodId} {args : Array Value} {below : List Frame} {meth : Method} {c : Code} {D : va_G} {cI cS cW : ClassId} {q : Nat → Nat} {A : Nat → Prop} {res : Int32 × zSt} (C : zCX p s m args meth c cX2_spreadIfFull 3 (some .int) zU RX2) (hE : zE D (zyX cI cS cW) znX A s) : ∀ (n : Nat) (x1 x2 : Int32) (S : zSt) (H : Heap) (locs : List Loc) (ls : Array Slot), zH D (zwX cI cS cW q) A s S H locs → lv_has ls 3 [(0, .ref (q 2)), (1, .int x1), (2, .int x2)] → fX_X2_spreadIfFull_51  n x1 x2 S = some res → W p l e rmX_X2_spreadIfFull s m args below meth c H locs 0 0 (zQi below D (zwX cI cS cW q) (zyX cI cS cW) A args s res.1 res.2) (F0 m 51 ls []) := by
  have hx := C.1
  have hb := C.2.1
  intro n
  induction n with
  | zero =>
    intro x1 x2 S H locs ls hH hl  h
    cases h
  | succ n hK51 =>
    intro x1 x2 S H locs ls hH hl  h
    rw [fX_X2_spreadIfFull_51] at h
    refine lv_iload_n hx hb dX2_spreadIfFull_51 rfl (lv_at hl 2 rfl) ?_
    refine lv_iload_n hx hb dX2_spreadIfFull_52 rfl (lv_at hl 1 rfl) ?_
    refine lv_icmp_ge (tgt := 73) hx hb dX2_spreadIfFull_53 (by decide) (fun c1 => ?_) (fun c1 => ?_)
    · replace h := zif_t c1 h
      refine lv_iload_n hx hb dX2_spreadIfFull_73 rfl (lv_at hl 1 rfl) ?_
      cases h
      exact z_iret C hE hH dX2_spreadIfFull_74
    · replace h := zif_f c1 h
      refine lv_aload_n hx hb dX2_spreadIfFull_56 rfl (lv_at hl 0 rfl) ?_
      refine lv_aload_n hx hb dX2_spreadIfFull_57 rfl (lv_at hl 0 rfl) ?_
      refine z_get C hE hH zX_o2 rfl zh_X2 7 (by decide) zk4_3 (fun _ h9 => h9) (v := .ref (q 37)) rfl dX2_spreadIfFull_58 ?_
      refine lv_iload_n hx hb dX2_spreadIfFull_61 rfl (lv_at hl 2 rfl) ?_
      obtain ⟨g2, h⟩ := zgd_s h
      refine z_iald C hE hH zX_a37 (t0 := 0) rfl g2 dX2_spreadIfFull_62 ?_
      obtain ⟨u3, e4, h⟩ := zbd_s h
      refine z_calli (va_runV (As := [.int (S.2 37 x2.toNatClampNeg)]) (rest := []) (z_fix C) (cX_X2_putAtHead l D cI cS cW q H.size  (S.2 37 x2.toNatClampNeg) S e4) (cwV 1 C.2.2.2.2.1 (zGV zk9_12 zk9_13 zk9_14 zk1_23 zk9_15) rfl rfl rfl yd_X2_putAtHead ⟨Nat.le_of_ble_eq_true rfl, Nat.le_of_ble_eq_true rfl⟩) (z_preV (zNmX hE) hE hH zX_o2 rfl) rfl rfl hl.1 rfl (lv_room (Nat.le_of_ble_eq_true rfl)) dX2_spreadIfFull_63 ⟨Nat.le_refl 0, Nat.le_refl 0⟩) hE hH (fun H locs hH => ?_)
      refine lv_pop hx hb dX2_spreadIfFull_66 rfl ?_
      refine lv_iinc (v := (x2 + 1)) (lv' := [(2, .int (x2 + 1)), (0, .ref (q 2)), (1, .int x1)]) hx hb dX2_spreadIfFull_67 hl (k := 2) rfl rfl (by decide) rfl (fun ls hl => ?_)
      refine lv_goto (tgt := 51) hx hb dX2_spreadIfFull_70 (by decide) ?_
      exact hK51 x1 (x2 + 1) u3.2 H locs ls hH (lv_sub hl [1, 2, 0] rfl) h
set_option maxHeartbeats 4000000 in
set_option maxRecDepth 100000 in
theorem bX_X2_spreadIfFull {p : Program} {l : Launch} {e : Env} {s : State} {m : MethodId} {args : Array Value} {below : List Frame} {meth : Method} {c : Code} {D : va_G} {cI cS cW : ClassId} {q : Nat → Nat} {A : Nat → Prop} {res : Int32 × zSt} (C : zCX p s m args meth c cX2_spreadIfFull 3 (some .int) zU RX2) (hE : zE D (zyX cI cS cW) znX A s) (S : zSt) (H : Heap) (locs : List Loc) (ls : Array Slot) (hH : zH D (zwX cI cS cW q) A s S H locs) (hl : lv_has ls 3 [(0, .ref (q 2))]) (h : fX_X2_spreadIfFull   S = some res) : W p l e rmX_X2_spreadIfFull s m args below meth c H locs 0 0 (zQi below D (zwX cI cS cW q) (zyX cI cS cW) A args s res.1 res.2) (F0 m 0 ls []) := by
  have hx := C.1
  have hb := C.2.1
  unfold fX_X2_spreadIfFull at h
  refine lv_aload_n hx hb dX2_spreadIfFull_0 rfl (lv_at hl 0 rfl) ?_
  refine z_get C hE hH zX_o2 rfl zh_X2 3 (by decide) zk9_0 (u_same (C.2.2.2.2.1 _ zk9_1)) (v := .int (S.1 27)) rfl dX2_spreadIfFull_1 ?_
  refine lv_iconst (v := 2) hx hb dX2_spreadIfFull_4 (by decide) ?_
  refine lv_aload_n hx hb dX2_spreadIfFull_5 rfl (lv_at hl 0 rfl) ?_
  refine z_get C hE hH zX_o2 rfl zh_X2 2 (by decide) zk8_22 (u_same (C.2.2.2.2.1 _ zk8_23)) (v := .int (S.1 26)) rfl dX2_spreadIfFull_6 ?_
  refine lv_imul hx hb dX2_spreadIfFull_9 ?_
  refine lv_icmp_eq (tgt := 15) hx hb dX2_spreadIfFull_10 (by decide) (fun c1 => ?_) (fun c1 => ?_)
  · replace h := zif_t c1 h
    refine lv_aload_n hx hb dX2_spreadIfFull_15 rfl (lv_at hl 0 rfl) ?_
    refine z_get C hE hH zX_o2 rfl zh_X2 3 (by decide) zk9_0 (u_same (C.2.2.2.2.1 _ zk9_1)) (v := .int (S.1 27)) rfl dX2_spreadIfFull_16 ?_
    refine lv_istore_n (lv' := [(1, .int (S.1 27)), (0, .ref (q 2))]) hx hb dX2_spreadIfFull_19 rfl hl (by decide) rfl (fun ls hl => ?_)
    refine lv_aload_n hx hb dX2_spreadIfFull_20 rfl (lv_at hl 1 rfl) ?_
    refine z_get C hE hH zX_o2 rfl zh_X2 0 (by decide) zk9_6 (u_same (C.2.2.2.2.1 _ zk9_7)) (v := .ref (q 35)) rfl dX2_spreadIfFull_21 ?_
    refine lv_iconst (v := 0) hx hb dX2_spreadIfFull_24 (by decide) ?_
    refine lv_aload_n hx hb dX2_spreadIfFull_25 rfl (lv_at hl 1 rfl) ?_
    refine z_get C hE hH zX_o2 rfl zh_X2 7 (by decide) zk4_3 (fun _ h9 => h9) (v := .ref (q 37)) rfl dX2_spreadIfFull_26 ?_
    refine lv_iconst (v := 0) hx hb dX2_spreadIfFull_29 (by decide) ?_
    refine lv_iload_n hx hb dX2_spreadIfFull_30 rfl (lv_at hl 0 rfl) ?_
    obtain ⟨g2, h⟩ := zgd_s h
    refine z_copyi C hE hH hl.1 zk9_8 zk9_9 zk9_10 zk9_11 zX_a35 zX_a37 (t0 := 0) rfl g2 zX_c37 (Nat.le_of_ble_eq_true rfl) (by decide) dX2_spreadIfFull_31 (fun H locs hH => ?_)
    refine lv_aload_n hx hb dX2_spreadIfFull_34 rfl (lv_at hl 1 rfl) ?_
    refine lv_dup hx hb dX2_spreadIfFull_35 rfl ?_
    refine z_get C hE hH zX_o2 rfl zh_X2 2 (by decide) zk8_22 (u_same (C.2.2.2.2.1 _ zk8_23)) (v := .int (S.1 26)) rfl dX2_spreadIfFull_36 ?_
    refine lv_iconst (v := 2) hx hb dX2_spreadIfFull_39 (by decide) ?_
    refine lv_imul hx hb dX2_spreadIfFull_40 ?_
    refine z_put C hE hH zX_o2 rfl zh_X2 tyX2_ok nmX2 2 (by decide) zk8_22 (u_same (C.2.2.2.2.1 _ zk8_23)) rfl (ty := .int) rfl rfl rfl (Nat.le_of_ble_eq_true rfl) zX_i26 dX2_spreadIfFull_41 (fun H locs hH => ?_)
    refine lv_aload_n hx hb dX2_spreadIfFull_44 rfl (lv_at hl 1 rfl) ?_
    refine lv_iconst (v := 0) hx hb dX2_spreadIfFull_45 (by decide) ?_
    refine z_put C hE hH zX_o2 rfl zh_X2 tyX2_ok nmX2 3 (by decide) zk9_0 (u_same (C.2.2.2.2.1 _ zk9_1)) rfl (ty := .int) rfl rfl rfl (Nat.le_of_ble_eq_true rfl) zX_i27 dX2_spreadIfFull_46 (fun H locs hH => ?_)
    refine lv_iconst (v := 0) hx hb dX2_spreadIfFull_49 (by decide) ?_
    refine lv_istore_n (lv' := [(2, .int 0), (1, .int (S.1 27)), (0, .ref (q 2))]) hx hb dX2_spreadIfFull_50 rfl hl (by decide) rfl (fun ls hl => ?_)
    exact bX_X2_spreadIfFull_51 C hE   1000 (S.1 27) 0 (zsI (zsI (zcp S 35 37 0 0 (S.1 27)) 26 ((S.1 26) * 2)) 27 0) H locs ls hH (lv_sub hl [2, 1, 0] rfl) h
  · replace h := zif_f c1 h
    refine lv_iconst (v := 0) hx hb dX2_spreadIfFull_13 (by decide) ?_
    cases h
    exact z_iret C hE hH dX2_spreadIfFull_14
set_option maxHeartbeats 4000000 in
set_option maxRecDepth 100000 in
theorem cX_X2_spreadIfFull (l : Launch) (D : va_G) (cI cS cW : ClassId) (q : Nat → Nat) (sz : Nat) (S : zSt) {res : Int32 × zSt} (h : fX_X2_spreadIfFull  S = some res) : zMi l yX2_spreadIfFull vsX2_spreadIfFull rmX_X2_spreadIfFull [.ref (q 2)] D (zwX cI cS cW q) (zyX cI cS cW) znX sz S res.1 res.2 := by
  refine Met.ofW (cc := cX2_spreadIfFull) (maxL := 3) (ret := (some .int)) (by decide) rfl ?_
  intro p e s m args below meth c s₁ B hml hv
  obtain ⟨rfl, rfl, hP, hK, hD0, hN⟩ := hv
  have hl := lv_entry ([.ref (q 2)]) (n := 3) (Nat.le_of_ble_eq_true rfl)
  rw [lg_entry_eq]
  generalize (lg_sl ([.ref (q 2)]) ++ List.replicate (3 - (lg_sl ([.ref (q 2)])).length) Slot.unset).toArray = ls at hl ⊢
  exact bX_X2_spreadIfFull ⟨B.exec, B.bytes, hml, findClass_of_methodNamed B.named, fun w h => atoms_spec (ws := vsX2_spreadIfFull) B.pre w (List.mem_cons_of_mem _ h), B.returns, B.notSynchronized⟩ ⟨hK, fun q h => Or.inr h, hN⟩  S s.heap [] ls ⟨hP, hD0.self, va_S.rf⟩ hl  h
def rmX_X4_placeOf_Hash : Room := { frames := 0, cells := 0, slots := 0, locals := 0 }
set_option maxHeartbeats 4000000 in
set_option maxRecDepth 100000 in
theorem bX_X4_placeOf_Hash_2 {p : Program} {l : Launch} {e : Env} {s : State} {m : MethodId} {args : Array Value} {below : List Frame} {meth : Method} {c : Code} {D : va_G} {cI cS cW : ClassId} {q : Nat → Nat} {A : Nat → Prop} {res : Int32} (C : zCX p s m args meth c cX4_placeOf 3 (some .int) zU RX4) (hE : zE D (zyX cI cS cW) znX A s) : ∀ (n : Nat) (x1 x2 : Int32) (S : zSt) (H : Heap) (locs : List Loc) (ls : Array Slot), zH D (zwX cI cS cW q) A s S H locs → lv_has ls 3 [(0, .ref (q 2)), (1, .int x1), (2, .int x2)] → fX_X4_placeOf_Hash_2  n x1 x2 S = some res → W p l e rmX_X4_placeOf_Hash s m args below meth c H locs 0 0 (zQi below D (zwX cI cS cW q) (zyX cI cS cW) A args s res S) (F0 m 2 ls []) := by
  have hx := C.1
  have hb := C.2.1
  intro n
  induction n with
  | zero =>
    intro x1 x2 S H locs ls hH hl  h
    cases h
  | succ n hK2 =>
    intro x1 x2 S H locs ls hH hl  h
    rw [fX_X4_placeOf_Hash_2] at h
    refine lv_iload_n hx hb dX4_placeOf_2 rfl (lv_at hl 2 rfl) ?_
    refine lv_aload_n hx hb dX4_placeOf_3 rfl (lv_at hl 0 rfl) ?_
    refine z_get C hE hH zX_o2 rfl zh_X2 3 (by decide) zk3_9 (fun _ h9 => h9) (v := .int (S.1 27)) rfl dX4_placeOf_4 ?_
    refine lv_icmp_ge (tgt := 28) hx hb dX4_placeOf_7 (by decide) (fun c1 => ?_) (fun c1 => ?_)
    · replace h := zif_t c1 h
      refine lv_iconst (v := (-1)) hx hb dX4_placeOf_28 (by decide) ?_
      cases h
      exact z_iret C hE hH dX4_placeOf_29
    · replace h := zif_f c1 h
      refine lv_aload_n hx hb dX4_placeOf_10 rfl (lv_at hl 0 rfl) ?_
      refine z_get C hE hH zX_o2 rfl zh_X2 0 (by decide) zk3_8 (fun _ h9 => h9) (v := .ref (q 35)) rfl dX4_placeOf_11 ?_
      refine lv_iload_n hx hb dX4_placeOf_14 rfl (lv_at hl 2 rfl) ?_
      obtain ⟨g2, h⟩ := zgd_s h
      refine z_iald C hE hH zX_a35 (t0 := 0) rfl g2 dX4_placeOf_15 ?_
      refine lv_iload_n hx hb dX4_placeOf_16 rfl (lv_at hl 1 rfl) ?_
      refine lv_icmp_ne (tgt := 22) hx hb dX4_placeOf_17 (by decide) (fun c3 => ?_) (fun c3 => ?_)
      · replace h := zif_f c3 h
        refine lv_iinc (v := (x2 + 1)) (lv' := [(2, .int (x2 + 1)), (0, .ref (q 2)), (1, .int x1)]) hx hb dX4_placeOf_22 hl (k := 2) rfl rfl (by decide) rfl (fun ls hl => ?_)
        refine lv_goto (tgt := 2) hx hb dX4_placeOf_25 (by decide) ?_
        exact hK2 x1 (x2 + 1) S H locs ls hH (lv_sub hl [1, 2, 0] rfl) h
      · replace h := zif_t c3 h
        refine lv_iload_n hx hb dX4_placeOf_20 rfl (lv_at hl 2 rfl) ?_
        cases h
        exact z_iret C hE hH dX4_placeOf_21
set_option maxHeartbeats 4000000 in
set_option maxRecDepth 100000 in
theorem bX_X4_placeOf_Hash {p : Program} {l : Launch} {e : Env} {s : State} {m : MethodId} {args : Array Value} {below : List Frame} {meth : Method} {c : Code} {D : va_G} {cI cS cW : ClassId} {q : Nat → Nat} {A : Nat → Prop} {res : Int32} (C : zCX p s m args meth c cX4_placeOf 3 (some .int) zU RX4) (hE : zE D (zyX cI cS cW) znX A s) (x1 : Int32) (S : zSt) (H : Heap) (locs : List Loc) (ls : Array Slot) (hH : zH D (zwX cI cS cW q) A s S H locs) (hl : lv_has ls 3 [(0, .ref (q 2)), (1, .int x1)]) (h : fX_X4_placeOf_Hash  x1 S = some res) : W p l e rmX_X4_placeOf_Hash s m args below meth c H locs 0 0 (zQi below D (zwX cI cS cW q) (zyX cI cS cW) A args s res S) (F0 m 0 ls []) := by
  have hx := C.1
  have hb := C.2.1
  unfold fX_X4_placeOf_Hash at h
  refine lv_iconst (v := 0) hx hb dX4_placeOf_0 (by decide) ?_
  refine lv_istore_n (lv' := [(2, .int 0), (0, .ref (q 2)), (1, .int x1)]) hx hb dX4_placeOf_1 rfl hl (by decide) rfl (fun ls hl => ?_)
  exact bX_X4_placeOf_Hash_2 C hE   1000 x1 0 S H locs ls hH (lv_sub hl [1, 2, 0] rfl) h
set_option maxHeartbeats 4000000 in
set_option maxRecDepth 100000 in
theorem cX_X4_placeOf_Hash (l : Launch) (D : va_G) (cI cS cW : ClassId) (q : Nat → Nat) (sz : Nat) (x1 : Int32) (S : zSt) {res : Int32} (h : fX_X4_placeOf_Hash x1 S = some res) : zMi l yX4_placeOf vsX4_placeOf rmX_X4_placeOf_Hash [.ref (q 2), .int x1] D (zwX cI cS cW q) (zyX cI cS cW) znX sz S res S := by
  refine Met.ofW (cc := cX4_placeOf) (maxL := 3) (ret := (some .int)) (by decide) rfl ?_
  intro p e s m args below meth c s₁ B hml hv
  obtain ⟨rfl, rfl, hP, hK, hD0, hN⟩ := hv
  have hl := lv_entry ([.ref (q 2), .int x1]) (n := 3) (Nat.le_of_ble_eq_true rfl)
  rw [lg_entry_eq]
  generalize (lg_sl ([.ref (q 2), .int x1]) ++ List.replicate (3 - (lg_sl ([.ref (q 2), .int x1])).length) Slot.unset).toArray = ls at hl ⊢
  exact bX_X4_placeOf_Hash ⟨B.exec, B.bytes, hml, findClass_of_methodNamed B.named, fun w h => atoms_spec (ws := vsX4_placeOf) B.pre w (List.mem_cons_of_mem _ h), B.returns, B.notSynchronized⟩ ⟨hK, fun q h => Or.inr h, hN⟩ x1 S s.heap [] ls ⟨hP, hD0.self, va_S.rf⟩ hl  h
def rmX_X2_seek : Room := { frames := 2, cells := 0, slots := 0, locals := 43 }
set_option maxHeartbeats 4000000 in
set_option maxRecDepth 100000 in
theorem bX_X2_seek_30 {p : Program} {l : Launch} {e : Env} {s : State} {m : MethodId} {args : Array Value} {below : List Frame} {meth : Method} {c : Code} {D : va_G} {cI cS cW : ClassId} {q : Nat → Nat} {A : Nat → Prop} {res : Int32} (C : zCX p s m args meth c cX2_seek 5 (some .int) zU RX2) (hE : zE D (zyX cI cS cW) znX A s) (x2 t0 : Int32) (S : zSt) (H : Heap) (locs : List Loc) (ls : Array Slot) (hH : zH D (zwX cI cS cW q) A s S H locs) (hl : lv_has ls 5 [(0, .ref (q 2)), (2, .int x2)]) (h : fX_X2_seek_30  x2 t0 S = some res) : W p l e rmX_X2_seek s m args below meth c H locs 0 0 (zQi below D (zwX cI cS cW q) (zyX cI cS cW) A args s res S) (F0 m 30 ls [.int t0]) := by
  have hx := C.1
  have hb := C.2.1
  unfold fX_X2_seek_30 at h
  refine lv_istore (lv' := [(4, .int t0), (0, .ref (q 2)), (2, .int x2)]) hx hb dX2_seek_30 hl (by decide) rfl (fun ls hl => ?_)
  refine lv_iconst (v := 1) hx hb dX2_seek_32 (by decide) ?_
  refine lv_iload hx hb dX2_seek_33 (lv_at hl 0 rfl) ?_
  refine lv_iadd hx hb dX2_seek_35 ?_
  refine lv_aload_n hx hb dX2_seek_36 rfl (lv_at hl 1 rfl) ?_
  refine lv_iload_n hx hb dX2_seek_37 rfl (lv_at hl 2 rfl) ?_
  obtain ⟨u1, e2, h⟩ := zbd_s h
  refine z_calli (va_runV (As := [.int x2]) (rest := [.int (1 + t0)]) (z_fix C) (cX_X2_headOfChain l D cI cS cW q H.size  x2 S e2) (cwV 1 C.2.2.2.2.1 (zGV zk9_20 zk9_21 zk9_22 zk1_23 zk9_23) rfl rfl rfl yd_X2_headOfChain ⟨Nat.le_of_ble_eq_true rfl, Nat.le_of_ble_eq_true rfl⟩) (z_preV (zNmX hE) hE hH zX_o2 rfl) rfl rfl hl.1 rfl (lv_room (Nat.le_of_ble_eq_true rfl)) dX2_seek_38 ⟨Nat.le_refl 0, Nat.le_refl 0⟩) hE hH (fun H locs hH => ?_)
  refine lv_isub hx hb dX2_seek_41 ?_
  cases h
  exact z_iret C hE hH dX2_seek_42
set_option maxHeartbeats 4000000 in
set_option maxRecDepth 100000 in
theorem bX_X2_seek {p : Program} {l : Launch} {e : Env} {s : State} {m : MethodId} {args : Array Value} {below : List Frame} {meth : Method} {c : Code} {D : va_G} {cI cS cW : ClassId} {q : Nat → Nat} {A : Nat → Prop} {res : Int32} (C : zCX p s m args meth c cX2_seek 5 (some .int) zU RX2) (hE : zE D (zyX cI cS cW) znX A s) (x1 : Int32) (S : zSt) (H : Heap) (locs : List Loc) (ls : Array Slot) (hH : zH D (zwX cI cS cW q) A s S H locs) (hl : lv_has ls 5 [(0, .ref (q 2)), (1, .int x1)]) (h : fX_X2_seek  x1 S = some res) : W p l e rmX_X2_seek s m args below meth c H locs 0 0 (zQi below D (zwX cI cS cW q) (zyX cI cS cW) A args s res S) (F0 m 0 ls []) := by
  have hx := C.1
  have hb := C.2.1
  unfold fX_X2_seek at h
  refine lv_aload_n hx hb dX2_seek_0 rfl (lv_at hl 0 rfl) ?_
  refine lv_iload_n hx hb dX2_seek_1 rfl (lv_at hl 1 rfl) ?_
  obtain ⟨u1, e2, h⟩ := zbd_s h
  refine z_calli (va_runV (As := [.int x1]) (rest := []) (z_fix C) (cX_X2_chainOf l D cI cS cW q H.size  x1 S e2) (cwV 1 C.2.2.2.2.1 (zGV zk9_16 zk9_17 zk9_18 zk1_23 zk9_19) rfl rfl rfl yd_X2_chainOf ⟨Nat.le_of_ble_eq_true rfl, Nat.le_of_ble_eq_true rfl⟩) (z_preV (zNmX hE) hE hH zX_o2 rfl) rfl rfl hl.1 rfl (lv_room (Nat.le_of_ble_eq_true rfl)) dX2_seek_2 ⟨Nat.le_refl 0, Nat.le_refl 0⟩) hE hH (fun H locs hH => ?_)
  refine lv_istore_n (lv' := [(2, .int u1), (0, .ref (q 2)), (1, .int x1)]) hx hb dX2_seek_5 rfl hl (by decide) rfl (fun ls hl => ?_)
  refine lv_aload_n hx hb dX2_seek_6 rfl (lv_at hl 1 rfl) ?_
  refine lv_iload_n hx hb dX2_seek_7 rfl (lv_at hl 2 rfl) ?_
  obtain ⟨u3, e4, h⟩ := zbd_s h
  refine z_calli (va_runU (As := [.int x1]) (rest := []) (z_fix C) (cX_X4_placeOf_Hash l D cI cS cW q H.size  x1 S e4) (va_cwU 1 C.2.2.2.2.1 (zGU (x := ⟨"WhichShelf$Hash", "placeOf", "(I)I"⟩) (owner := "WhichShelf$Lined") zk10_10 zk10_11 zk10_12 zk7_6 zk3_6 zk7_7) rfl rfl rfl rfl ydu_X4_placeOf ⟨Nat.le_of_ble_eq_true rfl, Nat.le_of_ble_eq_true rfl⟩) (z_preV (zNmX hE) hE hH zX_o2 rfl) rfl rfl hl.1 rfl (lv_room (Nat.le_of_ble_eq_true rfl)) dX2_seek_8 ⟨Nat.le_refl 0, Nat.le_refl 0⟩) hE hH (fun H locs hH => ?_)
  refine lv_istore_n (lv' := [(3, .int u3), (2, .int u1), (0, .ref (q 2)), (1, .int x1)]) hx hb dX2_seek_11 rfl hl (by decide) rfl (fun ls hl => ?_)
  refine lv_iload_n hx hb dX2_seek_12 rfl (lv_at hl 0 rfl) ?_
  refine lv_iconst (v := (-1)) hx hb dX2_seek_13 (by decide) ?_
  refine lv_icmp_ne (tgt := 27) hx hb dX2_seek_14 (by decide) (fun c5 => ?_) (fun c5 => ?_)
  · replace h := zif_f c5 h
    refine lv_iload_n hx hb dX2_seek_27 rfl (lv_at hl 0 rfl) ?_
    refine lv_iconst (v := 1) hx hb dX2_seek_28 (by decide) ?_
    refine lv_iadd hx hb dX2_seek_29 ?_
    exact bX_X2_seek_30 C hE   u1 (u3 + 1) S H locs ls hH (lv_sub hl [2, 1] rfl) h
  · replace h := zif_t c5 h
    refine lv_aload_n hx hb dX2_seek_17 rfl (lv_at hl 2 rfl) ?_
    refine lv_iload_n hx hb dX2_seek_18 rfl (lv_at hl 1 rfl) ?_
    refine lv_iconst (v := 1) hx hb dX2_seek_19 (by decide) ?_
    refine lv_iadd hx hb dX2_seek_20 ?_
    obtain ⟨u6, e7, h⟩ := zbd_s h
    refine z_calli (va_runV (As := [.int (u1 + 1)]) (rest := []) (z_fix C) (cX_X2_headOfChain l D cI cS cW q H.size  (u1 + 1) S e7) (cwV 1 C.2.2.2.2.1 (zGV zk9_20 zk9_21 zk9_22 zk1_23 zk9_23) rfl rfl rfl yd_X2_headOfChain ⟨Nat.le_of_ble_eq_true rfl, Nat.le_of_ble_eq_true rfl⟩) (z_preV (zNmX hE) hE hH zX_o2 rfl) rfl rfl hl.1 rfl (lv_room (Nat.le_of_ble_eq_true rfl)) dX2_seek_21 ⟨Nat.le_refl 0, Nat.le_refl 0⟩) hE hH (fun H locs hH => ?_)
    refine lv_goto (tgt := 30) hx hb dX2_seek_24 (by decide) ?_
    exact bX_X2_seek_30 C hE   u1 u6 S H locs ls hH (lv_sub hl [2, 1] rfl) h
set_option maxHeartbeats 4000000 in
set_option maxRecDepth 100000 in
theorem cX_X2_seek (l : Launch) (D : va_G) (cI cS cW : ClassId) (q : Nat → Nat) (sz : Nat) (x1 : Int32) (S : zSt) {res : Int32} (h : fX_X2_seek x1 S = some res) : zMi l yX2_seek vsX2_seek rmX_X2_seek [.ref (q 2), .int x1] D (zwX cI cS cW q) (zyX cI cS cW) znX sz S res S := by
  refine Met.ofW (cc := cX2_seek) (maxL := 5) (ret := (some .int)) (by decide) rfl ?_
  intro p e s m args below meth c s₁ B hml hv
  obtain ⟨rfl, rfl, hP, hK, hD0, hN⟩ := hv
  have hl := lv_entry ([.ref (q 2), .int x1]) (n := 5) (Nat.le_of_ble_eq_true rfl)
  rw [lg_entry_eq]
  generalize (lg_sl ([.ref (q 2), .int x1]) ++ List.replicate (5 - (lg_sl ([.ref (q 2), .int x1])).length) Slot.unset).toArray = ls at hl ⊢
  exact bX_X2_seek ⟨B.exec, B.bytes, hml, findClass_of_methodNamed B.named, fun w h => atoms_spec (ws := vsX2_seek) B.pre w (List.mem_cons_of_mem _ h), B.returns, B.notSynchronized⟩ ⟨hK, fun q h => Or.inr h, hN⟩ x1 S s.heap [] ls ⟨hP, hD0.self, va_S.rf⟩ hl  h
def rmX_X4_remove_Hash : Room := { frames := 1, cells := 0, slots := 0, locals := 30 }
set_option maxHeartbeats 4000000 in
set_option maxRecDepth 100000 in
theorem bX_X4_remove_Hash {p : Program} {l : Launch} {e : Env} {s : State} {m : MethodId} {args : Array Value} {below : List Frame} {meth : Method} {c : Code} {D : va_G} {cI cS cW : ClassId} {q : Nat → Nat} {A : Nat → Prop} {res : zSt} (C : zCX p s m args meth c cX4_remove 2 none zU RX4) (hE : zE D (zyX cI cS cW) znX A s) (x1 : Int32) (S : zSt) (H : Heap) (locs : List Loc) (ls : Array Slot) (hH : zH D (zwX cI cS cW q) A s S H locs) (hl : lv_has ls 2 [(0, .ref (q 2)), (1, .int x1)]) (h : fX_X4_remove_Hash  x1 S = some res) : W p l e rmX_X4_remove_Hash s m args below meth c H locs 0 0 (zQv below D (zwX cI cS cW q) (zyX cI cS cW) A args s res) (F0 m 0 ls []) := by
  have hx := C.1
  have hb := C.2.1
  unfold fX_X4_remove_Hash at h
  refine lv_iload_n hx hb dX4_remove_0 rfl (lv_at hl 1 rfl) ?_
  refine lv_if_lt (tgt := 45) hx hb dX4_remove_1 (by decide) (fun c1 => ?_) (fun c1 => ?_)
  · replace h := zif_t c1 h
    cases h
    exact z_vret C hE hH dX4_remove_45
  · replace h := zif_f c1 h
    refine lv_iload_n hx hb dX4_remove_4 rfl (lv_at hl 1 rfl) ?_
    refine lv_aload_n hx hb dX4_remove_5 rfl (lv_at hl 0 rfl) ?_
    refine z_get C hE hH zX_o2 rfl zh_X2 3 (by decide) zk3_9 (fun _ h9 => h9) (v := .int (S.1 27)) rfl dX4_remove_6 ?_
    refine lv_icmp_ge (tgt := 45) hx hb dX4_remove_9 (by decide) (fun c2 => ?_) (fun c2 => ?_)
    · replace h := zif_t c2 h
      cases h
      exact z_vret C hE hH dX4_remove_45
    · replace h := zif_f c2 h
      refine lv_aload_n hx hb dX4_remove_12 rfl (lv_at hl 0 rfl) ?_
      refine z_get C hE hH zX_o2 rfl zh_X2 0 (by decide) zk3_8 (fun _ h9 => h9) (v := .ref (q 35)) rfl dX4_remove_13 ?_
      refine lv_iload_n hx hb dX4_remove_16 rfl (lv_at hl 1 rfl) ?_
      refine lv_iconst (v := 1) hx hb dX4_remove_17 (by decide) ?_
      refine lv_iadd hx hb dX4_remove_18 ?_
      refine lv_aload_n hx hb dX4_remove_19 rfl (lv_at hl 0 rfl) ?_
      refine z_get C hE hH zX_o2 rfl zh_X2 0 (by decide) zk3_8 (fun _ h9 => h9) (v := .ref (q 35)) rfl dX4_remove_20 ?_
      refine lv_iload_n hx hb dX4_remove_23 rfl (lv_at hl 1 rfl) ?_
      refine lv_aload_n hx hb dX4_remove_24 rfl (lv_at hl 0 rfl) ?_
      refine z_get C hE hH zX_o2 rfl zh_X2 3 (by decide) zk3_9 (fun _ h9 => h9) (v := .int (S.1 27)) rfl dX4_remove_25 ?_
      refine lv_iload_n hx hb dX4_remove_28 rfl (lv_at hl 1 rfl) ?_
      refine lv_isub hx hb dX4_remove_29 ?_
      refine lv_iconst (v := 1) hx hb dX4_remove_30 (by decide) ?_
      refine lv_isub hx hb dX4_remove_31 ?_
      obtain ⟨g3, h⟩ := zgd_s h
      refine z_copyi C hE hH hl.1 zk10_5 zk9_9 zk9_10 zk9_11 zX_a35 zX_a35 (t0 := 0) rfl g3 zX_c35 (Nat.le_of_ble_eq_true rfl) (by decide) dX4_remove_32 (fun H locs hH => ?_)
      refine lv_aload_n hx hb dX4_remove_35 rfl (lv_at hl 0 rfl) ?_
      refine lv_dup hx hb dX4_remove_36 rfl ?_
      refine z_get C hE hH zX_o2 rfl zh_X2 3 (by decide) zk3_9 (fun _ h9 => h9) (v := .int (S.1 27)) rfl dX4_remove_37 ?_
      refine lv_iconst (v := 1) hx hb dX4_remove_40 (by decide) ?_
      refine lv_isub hx hb dX4_remove_41 ?_
      refine z_put C hE hH zX_o2 rfl zh_X2 tyX2_ok nmX2 3 (by decide) zk3_9 (fun _ h9 => h9) rfl (ty := .int) rfl rfl rfl (Nat.le_of_ble_eq_true rfl) zX_i27 dX4_remove_42 (fun H locs hH => ?_)
      cases h
      exact z_vret C hE hH dX4_remove_45
set_option maxHeartbeats 4000000 in
set_option maxRecDepth 100000 in
theorem cX_X4_remove_Hash (l : Launch) (D : va_G) (cI cS cW : ClassId) (q : Nat → Nat) (sz : Nat) (x1 : Int32) (S : zSt) {res : zSt} (h : fX_X4_remove_Hash x1 S = some res) : zMv l yX4_remove vsX4_remove rmX_X4_remove_Hash [.ref (q 2), .int x1] D (zwX cI cS cW q) (zyX cI cS cW) znX sz S res := by
  refine Met.ofW (cc := cX4_remove) (maxL := 2) (ret := none) (by decide) rfl ?_
  intro p e s m args below meth c s₁ B hml hv
  obtain ⟨rfl, rfl, hP, hK, hD0, hN⟩ := hv
  have hl := lv_entry ([.ref (q 2), .int x1]) (n := 2) (Nat.le_of_ble_eq_true rfl)
  rw [lg_entry_eq]
  generalize (lg_sl ([.ref (q 2), .int x1]) ++ List.replicate (2 - (lg_sl ([.ref (q 2), .int x1])).length) Slot.unset).toArray = ls at hl ⊢
  exact bX_X4_remove_Hash ⟨B.exec, B.bytes, hml, findClass_of_methodNamed B.named, fun w h => atoms_spec (ws := vsX4_remove) B.pre w (List.mem_cons_of_mem _ h), B.returns, B.notSynchronized⟩ ⟨hK, fun q h => Or.inr h, hN⟩ x1 S s.heap [] ls ⟨hP, hD0.self, va_S.rf⟩ hl  h
def rmX_X2_strike : Room := { frames := 3, cells := 0, slots := 0, locals := 67 }
set_option maxHeartbeats 4000000 in
set_option maxRecDepth 100000 in
theorem bX_X2_strike {p : Program} {l : Launch} {e : Env} {s : State} {m : MethodId} {args : Array Value} {below : List Frame} {meth : Method} {c : Code} {D : va_G} {cI cS cW : ClassId} {q : Nat → Nat} {A : Nat → Prop} {res : Int32 × zSt} (C : zCX p s m args meth c cX2_strike 3 (some .int) zU RX2) (hE : zE D (zyX cI cS cW) znX A s) (x1 : Int32) (S : zSt) (H : Heap) (locs : List Loc) (ls : Array Slot) (hH : zH D (zwX cI cS cW q) A s S H locs) (hl : lv_has ls 3 [(0, .ref (q 2)), (1, .int x1)]) (h : fX_X2_strike  x1 S = some res) : W p l e rmX_X2_strike s m args below meth c H locs 0 0 (zQi below D (zwX cI cS cW q) (zyX cI cS cW) A args s res.1 res.2) (F0 m 0 ls []) := by
  have hx := C.1
  have hb := C.2.1
  unfold fX_X2_strike at h
  refine lv_aload_n hx hb dX2_strike_0 rfl (lv_at hl 0 rfl) ?_
  refine lv_iload_n hx hb dX2_strike_1 rfl (lv_at hl 1 rfl) ?_
  obtain ⟨u1, e2, h⟩ := zbd_s h
  refine z_calli (va_runV (As := [.int x1]) (rest := []) (z_fix C) (cX_X2_seek l D cI cS cW q H.size  x1 S e2) (cwV 1 C.2.2.2.2.1 (zGV zk10_6 zk10_7 zk10_8 zk1_23 zk10_9) rfl rfl rfl yd_X2_seek ⟨Nat.le_of_ble_eq_true rfl, Nat.le_of_ble_eq_true rfl⟩) (z_preV (zNmX hE) hE hH zX_o2 rfl) rfl rfl hl.1 rfl (lv_room (Nat.le_of_ble_eq_true rfl)) dX2_strike_2 ⟨Nat.le_refl 0, Nat.le_refl 0⟩) hE hH (fun H locs hH => ?_)
  refine lv_istore_n (lv' := [(2, .int u1), (0, .ref (q 2)), (1, .int x1)]) hx hb dX2_strike_5 rfl hl (by decide) rfl (fun ls hl => ?_)
  refine lv_aload_n hx hb dX2_strike_6 rfl (lv_at hl 1 rfl) ?_
  refine lv_aload_n hx hb dX2_strike_7 rfl (lv_at hl 1 rfl) ?_
  refine lv_iload_n hx hb dX2_strike_8 rfl (lv_at hl 2 rfl) ?_
  obtain ⟨u3, e4, h⟩ := zbd_s h
  refine z_calli (va_runU (As := [.int x1]) (rest := [.ref (q 2)]) (z_fix C) (cX_X4_placeOf_Hash l D cI cS cW q H.size  x1 S e4) (va_cwU 1 C.2.2.2.2.1 (zGU (x := ⟨"WhichShelf$Hash", "placeOf", "(I)I"⟩) (owner := "WhichShelf$Lined") zk10_10 zk10_11 zk10_12 zk7_6 zk3_6 zk7_7) rfl rfl rfl rfl ydu_X4_placeOf ⟨Nat.le_of_ble_eq_true rfl, Nat.le_of_ble_eq_true rfl⟩) (z_preV (zNmX hE) hE hH zX_o2 rfl) rfl rfl hl.1 rfl (lv_room (Nat.le_of_ble_eq_true rfl)) dX2_strike_9 ⟨Nat.le_refl 0, Nat.le_refl 0⟩) hE hH (fun H locs hH => ?_)
  obtain ⟨u5, e6, h⟩ := zbd_s h
  refine z_callv (va_runU (As := [.int u3]) (rest := []) (z_fix C) (cX_X4_remove_Hash l D cI cS cW q H.size  u3 S e6) (va_cwU 1 C.2.2.2.2.1 (zGU (x := ⟨"WhichShelf$Hash", "remove", "(I)V"⟩) (owner := "WhichShelf$Lined") zk10_17 zk10_18 zk10_19 zk10_20 zk3_6 zk10_21) rfl rfl rfl rfl ydu_X4_remove ⟨Nat.le_of_ble_eq_true rfl, Nat.le_of_ble_eq_true rfl⟩) (z_preV (zNmX hE) hE hH zX_o2 rfl) rfl rfl hl.1 rfl (lv_room (Nat.le_of_ble_eq_true rfl)) dX2_strike_12 ⟨Nat.le_refl 0, Nat.le_refl 0⟩) hE hH (fun H locs hH => ?_)
  refine lv_iload_n hx hb dX2_strike_15 rfl (lv_at hl 0 rfl) ?_
  cases h
  exact z_iret C hE hH dX2_strike_16
set_option maxHeartbeats 4000000 in
set_option maxRecDepth 100000 in
theorem cX_X2_strike (l : Launch) (D : va_G) (cI cS cW : ClassId) (q : Nat → Nat) (sz : Nat) (x1 : Int32) (S : zSt) {res : Int32 × zSt} (h : fX_X2_strike x1 S = some res) : zMi l yX2_strike vsX2_strike rmX_X2_strike [.ref (q 2), .int x1] D (zwX cI cS cW q) (zyX cI cS cW) znX sz S res.1 res.2 := by
  refine Met.ofW (cc := cX2_strike) (maxL := 3) (ret := (some .int)) (by decide) rfl ?_
  intro p e s m args below meth c s₁ B hml hv
  obtain ⟨rfl, rfl, hP, hK, hD0, hN⟩ := hv
  have hl := lv_entry ([.ref (q 2), .int x1]) (n := 3) (Nat.le_of_ble_eq_true rfl)
  rw [lg_entry_eq]
  generalize (lg_sl ([.ref (q 2), .int x1]) ++ List.replicate (3 - (lg_sl ([.ref (q 2), .int x1])).length) Slot.unset).toArray = ls at hl ⊢
  exact bX_X2_strike ⟨B.exec, B.bytes, hml, findClass_of_methodNamed B.named, fun w h => atoms_spec (ws := vsX2_strike) B.pre w (List.mem_cons_of_mem _ h), B.returns, B.notSynchronized⟩ ⟨hK, fun q h => Or.inr h, hN⟩ x1 S s.heap [] ls ⟨hP, hD0.self, va_S.rf⟩ hl  h
def rmX_X2_step : Room := { frames := 4, cells := 0, slots := 0, locals := 95 }
set_option maxHeartbeats 4000000 in
set_option maxRecDepth 100000 in
theorem bX_X2_step {p : Program} {l : Launch} {e : Env} {s : State} {m : MethodId} {args : Array Value} {below : List Frame} {meth : Method} {c : Code} {D : va_G} {cI cS cW : ClassId} {q : Nat → Nat} {A : Nat → Prop} {res : Int32 × zSt} (C : zCX p s m args meth c cX2_step 3 (some .int) zU RX2) (hE : zE D (zyX cI cS cW) znX A s) (x1 x2 : Int32) (S : zSt) (H : Heap) (locs : List Loc) (ls : Array Slot) (hH : zH D (zwX cI cS cW q) A s S H locs) (hl : lv_has ls 3 [(0, .ref (q 2)), (1, .int x1), (2, .int x2)]) (h : fX_X2_step  x1 x2 S = some res) : W p l e rmX_X2_step s m args below meth c H locs 0 0 (zQi below D (zwX cI cS cW q) (zyX cI cS cW) A args s res.1 res.2) (F0 m 0 ls []) := by
  have hx := C.1
  have hb := C.2.1
  unfold fX_X2_step at h
  refine lv_iload_n hx hb dX2_step_0 rfl (lv_at hl 1 rfl) ?_
  by_cases c1_0 : x1 = 0
  · replace h := zif_t c1_0 h
    refine lv_tableIn (tgt := 48) hx hb dX2_step_1 (by rw [c1_0]; decide) (by rw [c1_0]; decide) (by rw [c1_0]; rfl) (by decide) ?_
    refine lv_aload_n hx hb dX2_step_48 rfl (lv_at hl 0 rfl) ?_
    obtain ⟨u2, e3, h⟩ := zbd_s h
    refine z_calli (va_runV (As := []) (rest := []) (z_fix C) (cX_X2_spreadIfFull l D cI cS cW q H.size   S e3) (cwV 0 C.2.2.2.2.1 (zGV zk9_2 zk9_3 zk9_4 zk1_23 zk9_5) rfl rfl rfl yd_X2_spreadIfFull ⟨Nat.le_of_ble_eq_true rfl, Nat.le_of_ble_eq_true rfl⟩) (z_preV (zNmX hE) hE hH zX_o2 rfl) rfl rfl hl.1 rfl (lv_room (Nat.le_of_ble_eq_true rfl)) dX2_step_49 ⟨Nat.le_refl 0, Nat.le_refl 0⟩) hE hH (fun H locs hH => ?_)
    refine lv_aload_n hx hb dX2_step_52 rfl (lv_at hl 0 rfl) ?_
    refine lv_iload_n hx hb dX2_step_53 rfl (lv_at hl 2 rfl) ?_
    obtain ⟨u4, e5, h⟩ := zbd_s h
    refine z_calli (va_runV (As := [.int x2]) (rest := [.int u2.1]) (z_fix C) (cX_X2_putAtHead l D cI cS cW q H.size  x2 u2.2 e5) (cwV 1 C.2.2.2.2.1 (zGV zk9_12 zk9_13 zk9_14 zk1_23 zk9_15) rfl rfl rfl yd_X2_putAtHead ⟨Nat.le_of_ble_eq_true rfl, Nat.le_of_ble_eq_true rfl⟩) (z_preV (zNmX hE) hE hH zX_o2 rfl) rfl rfl hl.1 rfl (lv_room (Nat.le_of_ble_eq_true rfl)) dX2_step_54 ⟨Nat.le_refl 0, Nat.le_refl 0⟩) hE hH (fun H locs hH => ?_)
    refine lv_iadd hx hb dX2_step_57 ?_
    cases h
    exact z_iret C hE hH dX2_step_58
  · replace h := zif_f c1_0 h
    by_cases c1_1 : x1 = 1
    · replace h := zif_t c1_1 h
      refine lv_tableIn (tgt := 59) hx hb dX2_step_1 (by rw [c1_1]; decide) (by rw [c1_1]; decide) (by rw [c1_1]; rfl) (by decide) ?_
      refine lv_aload_n hx hb dX2_step_59 rfl (lv_at hl 0 rfl) ?_
      refine lv_iload_n hx hb dX2_step_60 rfl (lv_at hl 2 rfl) ?_
      obtain ⟨u6, e7, h⟩ := zbd_s h
      refine z_calli (va_runV (As := [.int x2]) (rest := []) (z_fix C) (cX_X2_seek l D cI cS cW q H.size  x2 S e7) (cwV 1 C.2.2.2.2.1 (zGV zk10_6 zk10_7 zk10_8 zk1_23 zk10_9) rfl rfl rfl yd_X2_seek ⟨Nat.le_of_ble_eq_true rfl, Nat.le_of_ble_eq_true rfl⟩) (z_preV (zNmX hE) hE hH zX_o2 rfl) rfl rfl hl.1 rfl (lv_room (Nat.le_of_ble_eq_true rfl)) dX2_step_61 ⟨Nat.le_refl 0, Nat.le_refl 0⟩) hE hH (fun H locs hH => ?_)
      cases h
      exact z_iret C hE hH dX2_step_64
    · replace h := zif_f c1_1 h
      by_cases c1_2 : x1 = 2
      · replace h := zif_t c1_2 h
        refine lv_tableIn (tgt := 65) hx hb dX2_step_1 (by rw [c1_2]; decide) (by rw [c1_2]; decide) (by rw [c1_2]; rfl) (by decide) ?_
        refine lv_aload_n hx hb dX2_step_65 rfl (lv_at hl 0 rfl) ?_
        refine lv_iload_n hx hb dX2_step_66 rfl (lv_at hl 2 rfl) ?_
        obtain ⟨u8, e9, h⟩ := zbd_s h
        refine z_calli (va_runV (As := [.int x2]) (rest := []) (z_fix C) (cX_X2_strike l D cI cS cW q H.size  x2 S e9) (cwV 1 C.2.2.2.2.1 (zGV zk10_13 zk10_14 zk10_15 zk1_23 zk10_16) rfl rfl rfl yd_X2_strike ⟨Nat.le_of_ble_eq_true rfl, Nat.le_of_ble_eq_true rfl⟩) (z_preV (zNmX hE) hE hH zX_o2 rfl) rfl rfl hl.1 rfl (lv_room (Nat.le_of_ble_eq_true rfl)) dX2_step_67 ⟨Nat.le_refl 0, Nat.le_refl 0⟩) hE hH (fun H locs hH => ?_)
        cases h
        exact z_iret C hE hH dX2_step_70
      · replace h := zif_f c1_2 h
        by_cases c1_3 : x1 = 3
        · replace h := zif_t c1_3 h
          refine lv_tableIn (tgt := 97) hx hb dX2_step_1 (by rw [c1_3]; decide) (by rw [c1_3]; decide) (by rw [c1_3]; rfl) (by decide) ?_
          refine lv_aload_n hx hb dX2_step_97 rfl (lv_at hl 0 rfl) ?_
          refine z_get C hE hH zX_o2 rfl zh_X2 2 (by decide) zk8_22 (u_same (C.2.2.2.2.1 _ zk8_23)) (v := .int (S.1 26)) rfl dX2_step_98 ?_
          refine lv_aload_n hx hb dX2_step_101 rfl (lv_at hl 0 rfl) ?_
          refine z_get C hE hH zX_o2 rfl zh_X2 3 (by decide) zk9_0 (u_same (C.2.2.2.2.1 _ zk9_1)) (v := .int (S.1 27)) rfl dX2_step_102 ?_
          refine lv_iadd hx hb dX2_step_105 ?_
          cases h
          exact z_iret C hE hH dX2_step_106
        · replace h := zif_f c1_3 h
          by_cases c1_4 : x1 = 4
          · replace h := zif_t c1_4 h
            refine lv_tableIn (tgt := 97) hx hb dX2_step_1 (by rw [c1_4]; decide) (by rw [c1_4]; decide) (by rw [c1_4]; rfl) (by decide) ?_
            refine lv_aload_n hx hb dX2_step_97 rfl (lv_at hl 0 rfl) ?_
            refine z_get C hE hH zX_o2 rfl zh_X2 2 (by decide) zk8_22 (u_same (C.2.2.2.2.1 _ zk8_23)) (v := .int (S.1 26)) rfl dX2_step_98 ?_
            refine lv_aload_n hx hb dX2_step_101 rfl (lv_at hl 0 rfl) ?_
            refine z_get C hE hH zX_o2 rfl zh_X2 3 (by decide) zk9_0 (u_same (C.2.2.2.2.1 _ zk9_1)) (v := .int (S.1 27)) rfl dX2_step_102 ?_
            refine lv_iadd hx hb dX2_step_105 ?_
            cases h
            exact z_iret C hE hH dX2_step_106
          · replace h := zif_f c1_4 h
            by_cases c1_5 : x1 = 5
            · replace h := zif_t c1_5 h
              refine lv_tableIn (tgt := 97) hx hb dX2_step_1 (by rw [c1_5]; decide) (by rw [c1_5]; decide) (by rw [c1_5]; rfl) (by decide) ?_
              refine lv_aload_n hx hb dX2_step_97 rfl (lv_at hl 0 rfl) ?_
              refine z_get C hE hH zX_o2 rfl zh_X2 2 (by decide) zk8_22 (u_same (C.2.2.2.2.1 _ zk8_23)) (v := .int (S.1 26)) rfl dX2_step_98 ?_
              refine lv_aload_n hx hb dX2_step_101 rfl (lv_at hl 0 rfl) ?_
              refine z_get C hE hH zX_o2 rfl zh_X2 3 (by decide) zk9_0 (u_same (C.2.2.2.2.1 _ zk9_1)) (v := .int (S.1 27)) rfl dX2_step_102 ?_
              refine lv_iadd hx hb dX2_step_105 ?_
              cases h
              exact z_iret C hE hH dX2_step_106
            · replace h := zif_f c1_5 h
              by_cases c1_6 : x1 = 6
              · replace h := zif_t c1_6 h
                refine lv_tableIn (tgt := 71) hx hb dX2_step_1 (by rw [c1_6]; decide) (by rw [c1_6]; decide) (by rw [c1_6]; rfl) (by decide) ?_
                refine lv_iconst (v := 0) hx hb dX2_step_71 (by decide) ?_
                cases h
                exact z_iret C hE hH dX2_step_72
              · replace h := zif_f c1_6 h
                by_cases c1_7 : x1 = 7
                · replace h := zif_t c1_7 h
                  refine lv_tableIn (tgt := 73) hx hb dX2_step_1 (by rw [c1_7]; decide) (by rw [c1_7]; decide) (by rw [c1_7]; rfl) (by decide) ?_
                  refine lv_iconst (v := 1) hx hb dX2_step_73 (by decide) ?_
                  refine lv_aload_n hx hb dX2_step_74 rfl (lv_at hl 0 rfl) ?_
                  refine lv_aload_n hx hb dX2_step_75 rfl (lv_at hl 0 rfl) ?_
                  refine lv_iload_n hx hb dX2_step_76 rfl (lv_at hl 2 rfl) ?_
                  obtain ⟨u10, e11, h⟩ := zbd_s h
                  refine z_calli (va_runV (As := [.int x2]) (rest := [.ref (q 2), .int 1]) (z_fix C) (cX_X2_chainOf l D cI cS cW q H.size  x2 S e11) (cwV 1 C.2.2.2.2.1 (zGV zk9_16 zk9_17 zk9_18 zk1_23 zk9_19) rfl rfl rfl yd_X2_chainOf ⟨Nat.le_of_ble_eq_true rfl, Nat.le_of_ble_eq_true rfl⟩) (z_preV (zNmX hE) hE hH zX_o2 rfl) rfl rfl hl.1 rfl (lv_room (Nat.le_of_ble_eq_true rfl)) dX2_step_77 ⟨Nat.le_refl 0, Nat.le_refl 0⟩) hE hH (fun H locs hH => ?_)
                  refine lv_iconst (v := 1) hx hb dX2_step_80 (by decide) ?_
                  refine lv_iadd hx hb dX2_step_81 ?_
                  obtain ⟨u12, e13, h⟩ := zbd_s h
                  refine z_calli (va_runV (As := [.int (u10 + 1)]) (rest := [.int 1]) (z_fix C) (cX_X2_headOfChain l D cI cS cW q H.size  (u10 + 1) S e13) (cwV 1 C.2.2.2.2.1 (zGV zk9_20 zk9_21 zk9_22 zk1_23 zk9_23) rfl rfl rfl yd_X2_headOfChain ⟨Nat.le_of_ble_eq_true rfl, Nat.le_of_ble_eq_true rfl⟩) (z_preV (zNmX hE) hE hH zX_o2 rfl) rfl rfl hl.1 rfl (lv_room (Nat.le_of_ble_eq_true rfl)) dX2_step_82 ⟨Nat.le_refl 0, Nat.le_refl 0⟩) hE hH (fun H locs hH => ?_)
                  refine lv_iadd hx hb dX2_step_85 ?_
                  refine lv_aload_n hx hb dX2_step_86 rfl (lv_at hl 0 rfl) ?_
                  refine lv_aload_n hx hb dX2_step_87 rfl (lv_at hl 0 rfl) ?_
                  refine lv_iload_n hx hb dX2_step_88 rfl (lv_at hl 2 rfl) ?_
                  obtain ⟨u14, e15, h⟩ := zbd_s h
                  refine z_calli (va_runV (As := [.int x2]) (rest := [.ref (q 2), .int (1 + u12)]) (z_fix C) (cX_X2_chainOf l D cI cS cW q H.size  x2 S e15) (cwV 1 C.2.2.2.2.1 (zGV zk9_16 zk9_17 zk9_18 zk1_23 zk9_19) rfl rfl rfl yd_X2_chainOf ⟨Nat.le_of_ble_eq_true rfl, Nat.le_of_ble_eq_true rfl⟩) (z_preV (zNmX hE) hE hH zX_o2 rfl) rfl rfl hl.1 rfl (lv_room (Nat.le_of_ble_eq_true rfl)) dX2_step_89 ⟨Nat.le_refl 0, Nat.le_refl 0⟩) hE hH (fun H locs hH => ?_)
                  obtain ⟨u16, e17, h⟩ := zbd_s h
                  refine z_calli (va_runV (As := [.int u14]) (rest := [.int (1 + u12)]) (z_fix C) (cX_X2_headOfChain l D cI cS cW q H.size  u14 S e17) (cwV 1 C.2.2.2.2.1 (zGV zk9_20 zk9_21 zk9_22 zk1_23 zk9_23) rfl rfl rfl yd_X2_headOfChain ⟨Nat.le_of_ble_eq_true rfl, Nat.le_of_ble_eq_true rfl⟩) (z_preV (zNmX hE) hE hH zX_o2 rfl) rfl rfl hl.1 rfl (lv_room (Nat.le_of_ble_eq_true rfl)) dX2_step_92 ⟨Nat.le_refl 0, Nat.le_refl 0⟩) hE hH (fun H locs hH => ?_)
                  refine lv_isub hx hb dX2_step_95 ?_
                  cases h
                  exact z_iret C hE hH dX2_step_96
                · replace h := zif_f c1_7 h
                  have ec1_0 : ¬ (x1).toInt = 0 := zsw_ne c1_0
                  have ec1_1 : ¬ (x1).toInt = 1 := zsw_ne c1_1
                  have ec1_2 : ¬ (x1).toInt = 2 := zsw_ne c1_2
                  have ec1_3 : ¬ (x1).toInt = 3 := zsw_ne c1_3
                  have ec1_4 : ¬ (x1).toInt = 4 := zsw_ne c1_4
                  have ec1_5 : ¬ (x1).toInt = 5 := zsw_ne c1_5
                  have ec1_6 : ¬ (x1).toInt = 6 := zsw_ne c1_6
                  have ec1_7 : ¬ (x1).toInt = 7 := zsw_ne c1_7
                  refine lv_tableOut (tgt := 97) hx hb dX2_step_1 (by omega) (by decide) ?_
                  refine lv_aload_n hx hb dX2_step_97 rfl (lv_at hl 0 rfl) ?_
                  refine z_get C hE hH zX_o2 rfl zh_X2 2 (by decide) zk8_22 (u_same (C.2.2.2.2.1 _ zk8_23)) (v := .int (S.1 26)) rfl dX2_step_98 ?_
                  refine lv_aload_n hx hb dX2_step_101 rfl (lv_at hl 0 rfl) ?_
                  refine z_get C hE hH zX_o2 rfl zh_X2 3 (by decide) zk9_0 (u_same (C.2.2.2.2.1 _ zk9_1)) (v := .int (S.1 27)) rfl dX2_step_102 ?_
                  refine lv_iadd hx hb dX2_step_105 ?_
                  cases h
                  exact z_iret C hE hH dX2_step_106
set_option maxHeartbeats 4000000 in
set_option maxRecDepth 100000 in
theorem cX_X2_step (l : Launch) (D : va_G) (cI cS cW : ClassId) (q : Nat → Nat) (sz : Nat) (x1 : Int32) (x2 : Int32) (S : zSt) {res : Int32 × zSt} (h : fX_X2_step x1 x2 S = some res) : zMi l yX2_step vsX2_step rmX_X2_step [.ref (q 2), .int x1, .int x2] D (zwX cI cS cW q) (zyX cI cS cW) znX sz S res.1 res.2 := by
  refine Met.ofW (cc := cX2_step) (maxL := 3) (ret := (some .int)) (by decide) rfl ?_
  intro p e s m args below meth c s₁ B hml hv
  obtain ⟨rfl, rfl, hP, hK, hD0, hN⟩ := hv
  have hl := lv_entry ([.ref (q 2), .int x1, .int x2]) (n := 3) (Nat.le_of_ble_eq_true rfl)
  rw [lg_entry_eq]
  generalize (lg_sl ([.ref (q 2), .int x1, .int x2]) ++ List.replicate (3 - (lg_sl ([.ref (q 2), .int x1, .int x2])).length) Slot.unset).toArray = ls at hl ⊢
  exact bX_X2_step ⟨B.exec, B.bytes, hml, findClass_of_methodNamed B.named, fun w h => atoms_spec (ws := vsX2_step) B.pre w (List.mem_cons_of_mem _ h), B.returns, B.notSynchronized⟩ ⟨hK, fun q h => Or.inr h, hN⟩ x1 x2 S s.heap [] ls ⟨hP, hD0.self, va_S.rf⟩ hl  h
def rmX_X2_room : Room := { frames := 0, cells := 0, slots := 0, locals := 0 }
set_option maxHeartbeats 4000000 in
set_option maxRecDepth 100000 in
theorem bX_X2_room {p : Program} {l : Launch} {e : Env} {s : State} {m : MethodId} {args : Array Value} {below : List Frame} {meth : Method} {c : Code} {D : va_G} {cI cS cW : ClassId} {q : Nat → Nat} {A : Nat → Prop} {res : Int32} (C : zCX p s m args meth c cX2_room 1 (some .int) zU RX2) (hE : zE D (zyX cI cS cW) znX A s) (S : zSt) (H : Heap) (locs : List Loc) (ls : Array Slot) (hH : zH D (zwX cI cS cW q) A s S H locs) (hl : lv_has ls 1 [(0, .ref (q 2))]) (h : fX_X2_room   S = some res) : W p l e rmX_X2_room s m args below meth c H locs 0 0 (zQi below D (zwX cI cS cW q) (zyX cI cS cW) A args s res S) (F0 m 0 ls []) := by
  have hx := C.1
  have hb := C.2.1
  unfold fX_X2_room at h
  refine lv_aload_n hx hb dX2_room_0 rfl (lv_at hl 0 rfl) ?_
  refine z_get C hE hH zX_o2 rfl zh_X2 2 (by decide) zk8_22 (u_same (C.2.2.2.2.1 _ zk8_23)) (v := .int (S.1 26)) rfl dX2_room_1 ?_
  refine lv_iconst (v := 2) hx hb dX2_room_4 (by decide) ?_
  refine lv_aload_n hx hb dX2_room_5 rfl (lv_at hl 0 rfl) ?_
  refine z_get C hE hH zX_o2 rfl zh_X2 3 (by decide) zk9_0 (u_same (C.2.2.2.2.1 _ zk9_1)) (v := .int (S.1 27)) rfl dX2_room_6 ?_
  refine lv_imul hx hb dX2_room_9 ?_
  refine lv_iadd hx hb dX2_room_10 ?_
  cases h
  exact z_iret C hE hH dX2_room_11
set_option maxHeartbeats 4000000 in
set_option maxRecDepth 100000 in
theorem cX_X2_room (l : Launch) (D : va_G) (cI cS cW : ClassId) (q : Nat → Nat) (sz : Nat) (S : zSt) {res : Int32} (h : fX_X2_room  S = some res) : zMi l yX2_room vsX2_room rmX_X2_room [.ref (q 2)] D (zwX cI cS cW q) (zyX cI cS cW) znX sz S res S := by
  refine Met.ofW (cc := cX2_room) (maxL := 1) (ret := (some .int)) (by decide) rfl ?_
  intro p e s m args below meth c s₁ B hml hv
  obtain ⟨rfl, rfl, hP, hK, hD0, hN⟩ := hv
  have hl := lv_entry ([.ref (q 2)]) (n := 1) (Nat.le_of_ble_eq_true rfl)
  rw [lg_entry_eq]
  generalize (lg_sl ([.ref (q 2)]) ++ List.replicate (1 - (lg_sl ([.ref (q 2)])).length) Slot.unset).toArray = ls at hl ⊢
  exact bX_X2_room ⟨B.exec, B.bytes, hml, findClass_of_methodNamed B.named, fun w h => atoms_spec (ws := vsX2_room) B.pre w (List.mem_cons_of_mem _ h), B.returns, B.notSynchronized⟩ ⟨hK, fun q h => Or.inr h, hN⟩  S s.heap [] ls ⟨hP, hD0.self, va_S.rf⟩ hl  h
def rmX_X7_take_Hash : Room := { frames := 5, cells := 0, slots := 0, locals := 117 }
set_option maxHeartbeats 4000000 in
set_option maxRecDepth 100000 in
theorem bX_X7_take_Hash {p : Program} {l : Launch} {e : Env} {s : State} {m : MethodId} {args : Array Value} {below : List Frame} {meth : Method} {c : Code} {D : va_G} {cI cS cW : ClassId} {q : Nat → Nat} {A : Nat → Prop} {res : zSt} (C : zCX p s m args meth c cX7_take 3 none zU RX7) (hE : zE D (zyX cI cS cW) znX A s) (x1 x2 : Int32) (S : zSt) (H : Heap) (locs : List Loc) (ls : Array Slot) (hH : zH D (zwX cI cS cW q) A s S H locs) (hl : lv_has ls 3 [(0, .ref (q 2)), (1, .int x1), (2, .int x2)]) (h : fX_X7_take_Hash  x1 x2 S = some res) : W p l e rmX_X7_take_Hash s m args below meth c H locs 0 0 (zQv below D (zwX cI cS cW q) (zyX cI cS cW) A args s res) (F0 m 0 ls []) := by
  have hx := C.1
  have hb := C.2.1
  unfold fX_X7_take_Hash at h
  refine lv_aload_n hx hb dX7_take_0 rfl (lv_at hl 0 rfl) ?_
  refine z_get C hE hH zX_o2 rfl zh_X2 6 (by decide) zk3_18 (fun _ h9 => h9) (v := .int (S.1 14)) rfl dX7_take_1 ?_
  refine lv_sipush (v := 200) hx hb dX7_take_4 (by decide) ?_
  refine lv_icmp_ge (tgt := 48) hx hb dX7_take_7 (by decide) (fun c1 => ?_) (fun c1 => ?_)
  · replace h := zif_t c1 h
    cases h
    exact z_vret C hE hH dX7_take_48
  · replace h := zif_f c1 h
    refine lv_aload_n hx hb dX7_take_10 rfl (lv_at hl 0 rfl) ?_
    refine z_get C hE hH zX_o2 rfl zh_X2 4 (by decide) zk3_16 (fun _ h9 => h9) (v := .ref (q 12)) rfl dX7_take_11 ?_
    refine lv_aload_n hx hb dX7_take_14 rfl (lv_at hl 0 rfl) ?_
    refine z_get C hE hH zX_o2 rfl zh_X2 6 (by decide) zk3_18 (fun _ h9 => h9) (v := .int (S.1 14)) rfl dX7_take_15 ?_
    refine lv_aload_n hx hb dX7_take_18 rfl (lv_at hl 0 rfl) ?_
    refine lv_iload_n hx hb dX7_take_19 rfl (lv_at hl 1 rfl) ?_
    refine lv_iload_n hx hb dX7_take_20 rfl (lv_at hl 2 rfl) ?_
    obtain ⟨u2, e3, h⟩ := zbd_s h
    refine z_calli (va_runU (As := [.int x1, .int x2]) (rest := [.int (S.1 14), .ref (q 12)]) (z_fix C) (cX_X2_step l D cI cS cW q H.size  x1 x2 S e3) (va_cwA 2 C.2.2.2.2.1 (zGU (x := ⟨"WhichShelf$Shelf", "step", "(II)I"⟩) (owner := "WhichShelf$Shelf") zk8_4 zk8_5 zk8_19 zk8_20 zk1_23 zk8_21) rfl rfl rfl ((hE.2.2 _ znX_2).2) ydu_X7_step ⟨Nat.le_of_ble_eq_true rfl, Nat.le_of_ble_eq_true rfl⟩) (z_preV (zNmX hE) hE hH zX_o2 rfl) rfl rfl hl.1 rfl (lv_room (Nat.le_of_ble_eq_true rfl)) dX7_take_21 ⟨Nat.le_refl 0, Nat.le_refl 0⟩) hE hH (fun H locs hH => ?_)
    obtain ⟨g4, h⟩ := zgd_s h
    refine z_iast C hE hH zX_a12 (t0 := 0) rfl g4 zX_r12 dX7_take_24 (fun H locs hH => ?_)
    refine lv_aload_n hx hb dX7_take_25 rfl (lv_at hl 0 rfl) ?_
    refine z_get C hE hH zX_o2 rfl zh_X2 5 (by decide) zk3_17 (fun _ h9 => h9) (v := .ref (q 18)) rfl dX7_take_26 ?_
    refine lv_aload_n hx hb dX7_take_29 rfl (lv_at hl 0 rfl) ?_
    refine z_get C hE hH zX_o2 rfl zh_X2 6 (by decide) zk3_18 (fun _ h9 => h9) (v := .int (u2.2.1 14)) rfl dX7_take_30 ?_
    refine lv_aload_n hx hb dX7_take_33 rfl (lv_at hl 0 rfl) ?_
    obtain ⟨u5, e6, h⟩ := zbd_s h
    refine z_calli (va_runU (As := []) (rest := [.int (u2.2.1 14), .ref (q 18)]) (z_fix C) (cX_X2_room l D cI cS cW q H.size   (zsR u2.2 12 (S.1 14).toNatClampNeg u2.1) e6) (va_cwA 0 C.2.2.2.2.1 (zGU (x := ⟨"WhichShelf$Shelf", "room", "()I"⟩) (owner := "WhichShelf$Shelf") zk16_16 zk16_17 zk16_21 zk16_22 zk1_23 zk16_23) rfl rfl rfl ((hE.2.2 _ znX_3).2) ydu_X7_room ⟨Nat.le_of_ble_eq_true rfl, Nat.le_of_ble_eq_true rfl⟩) (z_preV (zNmX hE) hE hH zX_o2 rfl) rfl rfl hl.1 rfl (lv_room (Nat.le_of_ble_eq_true rfl)) dX7_take_34 ⟨Nat.le_refl 0, Nat.le_refl 0⟩) hE hH (fun H locs hH => ?_)
    obtain ⟨g7, h⟩ := zgd_s h
    refine z_iast C hE hH zX_a18 (t0 := 0) rfl g7 zX_r18 dX7_take_37 (fun H locs hH => ?_)
    refine lv_aload_n hx hb dX7_take_38 rfl (lv_at hl 0 rfl) ?_
    refine lv_dup hx hb dX7_take_39 rfl ?_
    refine z_get C hE hH zX_o2 rfl zh_X2 6 (by decide) zk3_18 (fun _ h9 => h9) (v := .int (u2.2.1 14)) rfl dX7_take_40 ?_
    refine lv_iconst (v := 1) hx hb dX7_take_43 (by decide) ?_
    refine lv_iadd hx hb dX7_take_44 ?_
    refine z_put C hE hH zX_o2 rfl zh_X2 tyX2_ok nmX2 6 (by decide) zk3_18 (fun _ h9 => h9) rfl (ty := .int) rfl rfl rfl (Nat.le_of_ble_eq_true rfl) zX_i14 dX7_take_45 (fun H locs hH => ?_)
    cases h
    exact z_vret C hE hH dX7_take_48
set_option maxHeartbeats 4000000 in
set_option maxRecDepth 100000 in
theorem cX_X7_take_Hash (l : Launch) (D : va_G) (cI cS cW : ClassId) (q : Nat → Nat) (sz : Nat) (x1 : Int32) (x2 : Int32) (S : zSt) {res : zSt} (h : fX_X7_take_Hash x1 x2 S = some res) : zMv l yX7_take vsX7_take rmX_X7_take_Hash [.ref (q 2), .int x1, .int x2] D (zwX cI cS cW q) (zyX cI cS cW) znX sz S res := by
  refine Met.ofW (cc := cX7_take) (maxL := 3) (ret := none) (by decide) rfl ?_
  intro p e s m args below meth c s₁ B hml hv
  obtain ⟨rfl, rfl, hP, hK, hD0, hN⟩ := hv
  have hl := lv_entry ([.ref (q 2), .int x1, .int x2]) (n := 3) (Nat.le_of_ble_eq_true rfl)
  rw [lg_entry_eq]
  generalize (lg_sl ([.ref (q 2), .int x1, .int x2]) ++ List.replicate (3 - (lg_sl ([.ref (q 2), .int x1, .int x2])).length) Slot.unset).toArray = ls at hl ⊢
  exact bX_X7_take_Hash ⟨B.exec, B.bytes, hml, findClass_of_methodNamed B.named, fun w h => atoms_spec (ws := vsX7_take) B.pre w (List.mem_cons_of_mem _ h), B.returns, B.notSynchronized⟩ ⟨hK, fun q h => Or.inr h, hN⟩ x1 x2 S s.heap [] ls ⟨hP, hD0.self, va_S.rf⟩ hl  h
def rmX_X9_seek : Room := { frames := 1, cells := 0, slots := 0, locals := 20 }
set_option maxHeartbeats 4000000 in
set_option maxRecDepth 100000 in
theorem bX_X9_seek_62 {p : Program} {l : Launch} {e : Env} {s : State} {m : MethodId} {args : Array Value} {below : List Frame} {meth : Method} {c : Code} {D : va_G} {cI cS cW : ClassId} {q : Nat → Nat} {A : Nat → Prop} {res : Int32 × zSt} (C : zCX p s m args meth c cX9_seek 4 (some .int) zU RX9) (hE : zE D (zyX cI cS cW) znX A s) (x1 x2 x3 : Int32) (S : zSt) (H : Heap) (locs : List Loc) (ls : Array Slot) (hH : zH D (zwX cI cS cW q) A s S H locs) (hl : lv_has ls 4 [(1, .int x1), (2, .int x2), (3, .int x3)]) (h : fX_X9_seek_62  x1 x2 x3 S = some res) : W p l e rmX_X9_seek s m args below meth c H locs 0 0 (zQi below D (zwX cI cS cW q) (zyX cI cS cW) A args s res.1 res.2) (F0 m 62 ls []) := by
  have hx := C.1
  have hb := C.2.1
  unfold fX_X9_seek_62 at h
  refine lv_iload_n hx hb dX9_seek_62 rfl (lv_at hl 1 rfl) ?_
  refine lv_iload_n hx hb dX9_seek_63 rfl (lv_at hl 0 rfl) ?_
  refine lv_icmp_ne (tgt := 73) hx hb dX9_seek_64 (by decide) (fun c1 => ?_) (fun c1 => ?_)
  · replace h := zif_f c1 h
    refine lv_iload_n hx hb dX9_seek_73 rfl (lv_at hl 2 rfl) ?_
    cases h
    exact z_iret C hE hH dX9_seek_74
  · replace h := zif_t c1 h
    refine lv_iload_n hx hb dX9_seek_67 rfl (lv_at hl 2 rfl) ?_
    refine lv_iconst (v := 1) hx hb dX9_seek_68 (by decide) ?_
    refine lv_iadd hx hb dX9_seek_69 ?_
    refine lv_goto (tgt := 74) hx hb dX9_seek_70 (by decide) ?_
    cases h
    exact z_iret C hE hH dX9_seek_74
set_option maxHeartbeats 4000000 in
set_option maxRecDepth 100000 in
theorem bX_X9_seek_58 {p : Program} {l : Launch} {e : Env} {s : State} {m : MethodId} {args : Array Value} {below : List Frame} {meth : Method} {c : Code} {D : va_G} {cI cS cW : ClassId} {q : Nat → Nat} {A : Nat → Prop} {res : Int32 × zSt} (C : zCX p s m args meth c cX9_seek 4 (some .int) zU RX9) (hE : zE D (zyX cI cS cW) znX A s) (K12 : (Int32 → Int32 → Int32 → zSt → Option (Int32 × zSt))) (hK12 : ∀ (x1 x2 x3 : Int32) (S : zSt) (H : Heap) (locs : List Loc) (ls : Array Slot), zH D (zwX cI cS cW q) A s S H locs → lv_has ls 4 [(0, .ref (q 3)), (1, .int x1), (2, .int x2), (3, .int x3)] → K12 x1 x2 x3 S = some res → W p l e rmX_X9_seek s m args below meth c H locs 0 0 (zQi below D (zwX cI cS cW q) (zyX cI cS cW) A args s res.1 res.2) (F0 m 12 ls [])) (x1 x3 t0 : Int32) (S : zSt) (H : Heap) (locs : List Loc) (ls : Array Slot) (hH : zH D (zwX cI cS cW q) A s S H locs) (hl : lv_has ls 4 [(0, .ref (q 3)), (1, .int x1), (3, .int x3)]) (h : fX_X9_seek_58 K12 x1 x3 t0 S = some res) : W p l e rmX_X9_seek s m args below meth c H locs 0 0 (zQi below D (zwX cI cS cW q) (zyX cI cS cW) A args s res.1 res.2) (F0 m 58 ls [.int t0]) := by
  have hx := C.1
  have hb := C.2.1
  unfold fX_X9_seek_58 at h
  refine lv_istore_n (lv' := [(2, .int t0), (0, .ref (q 3)), (1, .int x1), (3, .int x3)]) hx hb dX9_seek_58 rfl hl (by decide) rfl (fun ls hl => ?_)
  refine lv_goto (tgt := 12) hx hb dX9_seek_59 (by decide) ?_
  exact hK12 x1 t0 x3 S H locs ls hH (lv_sub hl [1, 2, 0, 3] rfl) h
set_option maxHeartbeats 4000000 in
set_option maxRecDepth 100000 in
theorem bX_X9_seek_12 {p : Program} {l : Launch} {e : Env} {s : State} {m : MethodId} {args : Array Value} {below : List Frame} {meth : Method} {c : Code} {D : va_G} {cI cS cW : ClassId} {q : Nat → Nat} {A : Nat → Prop} {res : Int32 × zSt} (C : zCX p s m args meth c cX9_seek 4 (some .int) zU RX9) (hE : zE D (zyX cI cS cW) znX A s) : ∀ (n : Nat) (x1 x2 x3 : Int32) (S : zSt) (H : Heap) (locs : List Loc) (ls : Array Slot), zH D (zwX cI cS cW q) A s S H locs → lv_has ls 4 [(0, .ref (q 3)), (1, .int x1), (2, .int x2), (3, .int x3)] → fX_X9_seek_12  n x1 x2 x3 S = some res → W p l e rmX_X9_seek s m args below meth c H locs 0 0 (zQi below D (zwX cI cS cW q) (zyX cI cS cW) A args s res.1 res.2) (F0 m 12 ls []) := by
  have hx := C.1
  have hb := C.2.1
  intro n
  induction n with
  | zero =>
    intro x1 x2 x3 S H locs ls hH hl  h
    cases h
  | succ n hK12 =>
    intro x1 x2 x3 S H locs ls hH hl  h
    rw [fX_X9_seek_12] at h
    refine lv_iload_n hx hb dX9_seek_12 rfl (lv_at hl 2 rfl) ?_
    obtain ⟨u1, e2, h⟩ := zbd_s h
    refine z_calli (va_runSN (As := [.int x2]) (rest := []) (z_fix C) (cX_X10_isKey l D cI cS cW q H.size  x2 S e2) ⟨va_cnB 1 C.2.2.2.2.1 (zGc zk6_15) rfl rfl rfl ((hE.2.2 _ znX_0).2) (C.2.2.2.2.1 _ zk1_2) yd_X10_isKey ⟨Nat.le_of_ble_eq_true rfl, Nat.le_of_ble_eq_true rfl⟩, C.2.2.2.2.1 _ zk6_14, trivial⟩ (z_preS (zNmX hE) hE hH) rfl rfl hl.1 rfl (lv_room (Nat.le_of_ble_eq_true rfl)) dX9_seek_13 ⟨Nat.le_refl 0, Nat.le_refl 0⟩) hE hH (fun H locs hH => ?_)
    refine lv_if_eq (tgt := 62) hx hb dX9_seek_16 (by decide) (fun c3 => ?_) (fun c3 => ?_)
    · replace h := zif_t c3 h
      exact bX_X9_seek_62 C hE   x1 x2 x3 S H locs ls hH (lv_sub hl [1, 2, 3] rfl) h
    · replace h := zif_f c3 h
      refine lv_iload_n hx hb dX9_seek_19 rfl (lv_at hl 2 rfl) ?_
      refine lv_iload_n hx hb dX9_seek_20 rfl (lv_at hl 1 rfl) ?_
      refine lv_icmp_eq (tgt := 62) hx hb dX9_seek_21 (by decide) (fun c4 => ?_) (fun c4 => ?_)
      · replace h := zif_t c4 h
        exact bX_X9_seek_62 C hE   x1 x2 x3 S H locs ls hH (lv_sub hl [1, 2, 3] rfl) h
      · replace h := zif_f c4 h
        refine lv_iload_n hx hb dX9_seek_24 rfl (lv_at hl 3 rfl) ?_
        refine lv_bipush (v := 64) hx hb dX9_seek_25 (by decide) ?_
        refine lv_icmp_ge (tgt := 62) hx hb dX9_seek_27 (by decide) (fun c5 => ?_) (fun c5 => ?_)
        · replace h := zif_t c5 h
          exact bX_X9_seek_62 C hE   x1 x2 x3 S H locs ls hH (lv_sub hl [1, 2, 3] rfl) h
        · replace h := zif_f c5 h
          refine lv_iinc (v := (x3 + 1)) (lv' := [(3, .int (x3 + 1)), (0, .ref (q 3)), (1, .int x1), (2, .int x2)]) hx hb dX9_seek_30 hl (k := 3) rfl rfl (by decide) rfl (fun ls hl => ?_)
          refine lv_aload_n hx hb dX9_seek_33 rfl (lv_at hl 1 rfl) ?_
          refine lv_iload_n hx hb dX9_seek_34 rfl (lv_at hl 3 rfl) ?_
          refine z_put C hE hH zX_o3 rfl zh_X9 tyX9_ok nmX9 8 (by decide) zk4_11 (fun _ h9 => h9) rfl (ty := .int) rfl rfl rfl (Nat.le_of_ble_eq_true rfl) zX_i33 dX9_seek_35 (fun H locs hH => ?_)
          refine lv_iload_n hx hb dX9_seek_38 rfl (lv_at hl 2 rfl) ?_
          refine lv_iload_n hx hb dX9_seek_39 rfl (lv_at hl 3 rfl) ?_
          refine lv_icmp_ge (tgt := 52) hx hb dX9_seek_40 (by decide) (fun c6 => ?_) (fun c6 => ?_)
          · replace h := zif_t c6 h
            refine lv_aload_n hx hb dX9_seek_52 rfl (lv_at hl 1 rfl) ?_
            refine z_get C hE hH zX_o3 rfl zh_X9 5 (by decide) zk4_8 (fun _ h9 => h9) (v := .ref (q 41)) rfl dX9_seek_53 ?_
            refine lv_iload_n hx hb dX9_seek_56 rfl (lv_at hl 3 rfl) ?_
            obtain ⟨g7, h⟩ := zgd_s h
            refine z_iald C hE hH zX_a41 (t0 := 0) rfl g7 dX9_seek_57 ?_
            exact bX_X9_seek_58 C hE (fX_X9_seek_12  n) hK12 x1 (x3 + 1) (S.2 41 x2.toNatClampNeg) (zsI S 33 x2) H locs ls hH (lv_sub hl [1, 2, 0] rfl) h
          · replace h := zif_f c6 h
            refine lv_aload_n hx hb dX9_seek_43 rfl (lv_at hl 1 rfl) ?_
            refine z_get C hE hH zX_o3 rfl zh_X9 4 (by decide) zk4_7 (fun _ h9 => h9) (v := .ref (q 40)) rfl dX9_seek_44 ?_
            refine lv_iload_n hx hb dX9_seek_47 rfl (lv_at hl 3 rfl) ?_
            obtain ⟨g8, h⟩ := zgd_s h
            refine z_iald C hE hH zX_a40 (t0 := 0) rfl g8 dX9_seek_48 ?_
            refine lv_goto (tgt := 58) hx hb dX9_seek_49 (by decide) ?_
            exact bX_X9_seek_58 C hE (fX_X9_seek_12  n) hK12 x1 (x3 + 1) (S.2 40 x2.toNatClampNeg) (zsI S 33 x2) H locs ls hH (lv_sub hl [1, 2, 0] rfl) h
set_option maxHeartbeats 4000000 in
set_option maxRecDepth 100000 in
theorem bX_X9_seek {p : Program} {l : Launch} {e : Env} {s : State} {m : MethodId} {args : Array Value} {below : List Frame} {meth : Method} {c : Code} {D : va_G} {cI cS cW : ClassId} {q : Nat → Nat} {A : Nat → Prop} {res : Int32 × zSt} (C : zCX p s m args meth c cX9_seek 4 (some .int) zU RX9) (hE : zE D (zyX cI cS cW) znX A s) (x1 : Int32) (S : zSt) (H : Heap) (locs : List Loc) (ls : Array Slot) (hH : zH D (zwX cI cS cW q) A s S H locs) (hl : lv_has ls 4 [(0, .ref (q 3)), (1, .int x1)]) (h : fX_X9_seek  x1 S = some res) : W p l e rmX_X9_seek s m args below meth c H locs 0 0 (zQi below D (zwX cI cS cW q) (zyX cI cS cW) A args s res.1 res.2) (F0 m 0 ls []) := by
  have hx := C.1
  have hb := C.2.1
  unfold fX_X9_seek at h
  refine lv_aload_n hx hb dX9_seek_0 rfl (lv_at hl 0 rfl) ?_
  refine z_get C hE hH zX_o3 rfl zh_X9 6 (by decide) zk4_9 (fun _ h9 => h9) (v := .int (S.1 31)) rfl dX9_seek_1 ?_
  refine lv_istore_n (lv' := [(2, .int (S.1 31)), (0, .ref (q 3)), (1, .int x1)]) hx hb dX9_seek_4 rfl hl (by decide) rfl (fun ls hl => ?_)
  refine lv_iconst (v := 0) hx hb dX9_seek_5 (by decide) ?_
  refine lv_istore_n (lv' := [(3, .int 0), (2, .int (S.1 31)), (0, .ref (q 3)), (1, .int x1)]) hx hb dX9_seek_6 rfl hl (by decide) rfl (fun ls hl => ?_)
  refine lv_aload_n hx hb dX9_seek_7 rfl (lv_at hl 2 rfl) ?_
  refine lv_iconst (v := (-1)) hx hb dX9_seek_8 (by decide) ?_
  refine z_put C hE hH zX_o3 rfl zh_X9 tyX9_ok nmX9 8 (by decide) zk4_11 (fun _ h9 => h9) rfl (ty := .int) rfl rfl rfl (Nat.le_of_ble_eq_true rfl) zX_i33 dX9_seek_9 (fun H locs hH => ?_)
  exact bX_X9_seek_12 C hE   1000 x1 (S.1 31) 0 (zsI S 33 (-1)) H locs ls hH (lv_sub hl [2, 3, 1, 0] rfl) h
set_option maxHeartbeats 4000000 in
set_option maxRecDepth 100000 in
theorem cX_X9_seek (l : Launch) (D : va_G) (cI cS cW : ClassId) (q : Nat → Nat) (sz : Nat) (x1 : Int32) (S : zSt) {res : Int32 × zSt} (h : fX_X9_seek x1 S = some res) : zMi l yX9_seek vsX9_seek rmX_X9_seek [.ref (q 3), .int x1] D (zwX cI cS cW q) (zyX cI cS cW) znX sz S res.1 res.2 := by
  refine Met.ofW (cc := cX9_seek) (maxL := 4) (ret := (some .int)) (by decide) rfl ?_
  intro p e s m args below meth c s₁ B hml hv
  obtain ⟨rfl, rfl, hP, hK, hD0, hN⟩ := hv
  have hl := lv_entry ([.ref (q 3), .int x1]) (n := 4) (Nat.le_of_ble_eq_true rfl)
  rw [lg_entry_eq]
  generalize (lg_sl ([.ref (q 3), .int x1]) ++ List.replicate (4 - (lg_sl ([.ref (q 3), .int x1])).length) Slot.unset).toArray = ls at hl ⊢
  exact bX_X9_seek ⟨B.exec, B.bytes, hml, findClass_of_methodNamed B.named, fun w h => atoms_spec (ws := vsX9_seek) B.pre w (List.mem_cons_of_mem _ h), B.returns, B.notSynchronized⟩ ⟨hK, fun q h => Or.inr h, hN⟩ x1 S s.heap [] ls ⟨hP, hD0.self, va_S.rf⟩ hl  h
def rmX_X9_hang : Room := { frames := 0, cells := 0, slots := 0, locals := 0 }
set_option maxHeartbeats 4000000 in
set_option maxRecDepth 100000 in
theorem bX_X9_hang {p : Program} {l : Launch} {e : Env} {s : State} {m : MethodId} {args : Array Value} {below : List Frame} {meth : Method} {c : Code} {D : va_G} {cI cS cW : ClassId} {q : Nat → Nat} {A : Nat → Prop} {res : zSt} (C : zCX p s m args meth c cX9_hang 3 none zU RX9) (hE : zE D (zyX cI cS cW) znX A s) (x1 x2 : Int32) (S : zSt) (H : Heap) (locs : List Loc) (ls : Array Slot) (hH : zH D (zwX cI cS cW q) A s S H locs) (hl : lv_has ls 3 [(0, .ref (q 3)), (1, .int x1), (2, .int x2)]) (h : fX_X9_hang  x1 x2 S = some res) : W p l e rmX_X9_hang s m args below meth c H locs 0 0 (zQv below D (zwX cI cS cW q) (zyX cI cS cW) A args s res) (F0 m 0 ls []) := by
  have hx := C.1
  have hb := C.2.1
  unfold fX_X9_hang at h
  refine lv_aload_n hx hb dX9_hang_0 rfl (lv_at hl 0 rfl) ?_
  refine z_get C hE hH zX_o3 rfl zh_X9 8 (by decide) zk4_11 (fun _ h9 => h9) (v := .int (S.1 33)) rfl dX9_hang_1 ?_
  refine lv_iconst (v := (-1)) hx hb dX9_hang_4 (by decide) ?_
  refine lv_icmp_ne (tgt := 16) hx hb dX9_hang_5 (by decide) (fun c1 => ?_) (fun c1 => ?_)
  · replace h := zif_f c1 h
    refine lv_iload_n hx hb dX9_hang_16 rfl (lv_at hl 2 rfl) ?_
    refine lv_aload_n hx hb dX9_hang_17 rfl (lv_at hl 0 rfl) ?_
    refine z_get C hE hH zX_o3 rfl zh_X9 8 (by decide) zk4_11 (fun _ h9 => h9) (v := .int (S.1 33)) rfl dX9_hang_18 ?_
    refine lv_icmp_ge (tgt := 37) hx hb dX9_hang_21 (by decide) (fun c2 => ?_) (fun c2 => ?_)
    · replace h := zif_t c2 h
      refine lv_aload_n hx hb dX9_hang_37 rfl (lv_at hl 0 rfl) ?_
      refine z_get C hE hH zX_o3 rfl zh_X9 5 (by decide) zk4_8 (fun _ h9 => h9) (v := .ref (q 41)) rfl dX9_hang_38 ?_
      refine lv_aload_n hx hb dX9_hang_41 rfl (lv_at hl 0 rfl) ?_
      refine z_get C hE hH zX_o3 rfl zh_X9 8 (by decide) zk4_11 (fun _ h9 => h9) (v := .int (S.1 33)) rfl dX9_hang_42 ?_
      refine lv_iload_n hx hb dX9_hang_45 rfl (lv_at hl 1 rfl) ?_
      obtain ⟨g3, h⟩ := zgd_s h
      refine z_iast C hE hH zX_a41 (t0 := 0) rfl g3 zX_r41 dX9_hang_46 (fun H locs hH => ?_)
      cases h
      exact z_vret C hE hH dX9_hang_47
    · replace h := zif_f c2 h
      refine lv_aload_n hx hb dX9_hang_24 rfl (lv_at hl 0 rfl) ?_
      refine z_get C hE hH zX_o3 rfl zh_X9 4 (by decide) zk4_7 (fun _ h9 => h9) (v := .ref (q 40)) rfl dX9_hang_25 ?_
      refine lv_aload_n hx hb dX9_hang_28 rfl (lv_at hl 0 rfl) ?_
      refine z_get C hE hH zX_o3 rfl zh_X9 8 (by decide) zk4_11 (fun _ h9 => h9) (v := .int (S.1 33)) rfl dX9_hang_29 ?_
      refine lv_iload_n hx hb dX9_hang_32 rfl (lv_at hl 1 rfl) ?_
      obtain ⟨g4, h⟩ := zgd_s h
      refine z_iast C hE hH zX_a40 (t0 := 0) rfl g4 zX_r40 dX9_hang_33 (fun H locs hH => ?_)
      refine lv_goto (tgt := 47) hx hb dX9_hang_34 (by decide) ?_
      cases h
      exact z_vret C hE hH dX9_hang_47
  · replace h := zif_t c1 h
    refine lv_aload_n hx hb dX9_hang_8 rfl (lv_at hl 0 rfl) ?_
    refine lv_iload_n hx hb dX9_hang_9 rfl (lv_at hl 1 rfl) ?_
    refine z_put C hE hH zX_o3 rfl zh_X9 tyX9_ok nmX9 6 (by decide) zk4_9 (fun _ h9 => h9) rfl (ty := .int) rfl rfl rfl (Nat.le_of_ble_eq_true rfl) zX_i31 dX9_hang_10 (fun H locs hH => ?_)
    refine lv_goto (tgt := 47) hx hb dX9_hang_13 (by decide) ?_
    cases h
    exact z_vret C hE hH dX9_hang_47
set_option maxHeartbeats 4000000 in
set_option maxRecDepth 100000 in
theorem cX_X9_hang (l : Launch) (D : va_G) (cI cS cW : ClassId) (q : Nat → Nat) (sz : Nat) (x1 : Int32) (x2 : Int32) (S : zSt) {res : zSt} (h : fX_X9_hang x1 x2 S = some res) : zMv l yX9_hang vsX9_hang rmX_X9_hang [.ref (q 3), .int x1, .int x2] D (zwX cI cS cW q) (zyX cI cS cW) znX sz S res := by
  refine Met.ofW (cc := cX9_hang) (maxL := 3) (ret := none) (by decide) rfl ?_
  intro p e s m args below meth c s₁ B hml hv
  obtain ⟨rfl, rfl, hP, hK, hD0, hN⟩ := hv
  have hl := lv_entry ([.ref (q 3), .int x1, .int x2]) (n := 3) (Nat.le_of_ble_eq_true rfl)
  rw [lg_entry_eq]
  generalize (lg_sl ([.ref (q 3), .int x1, .int x2]) ++ List.replicate (3 - (lg_sl ([.ref (q 3), .int x1, .int x2])).length) Slot.unset).toArray = ls at hl ⊢
  exact bX_X9_hang ⟨B.exec, B.bytes, hml, findClass_of_methodNamed B.named, fun w h => atoms_spec (ws := vsX9_hang) B.pre w (List.mem_cons_of_mem _ h), B.returns, B.notSynchronized⟩ ⟨hK, fun q h => Or.inr h, hN⟩ x1 x2 S s.heap [] ls ⟨hP, hD0.self, va_S.rf⟩ hl  h
def rmX_X9_putNode : Room := { frames := 2, cells := 0, slots := 0, locals := 43 }
set_option maxHeartbeats 4000000 in
set_option maxRecDepth 100000 in
theorem bX_X9_putNode {p : Program} {l : Launch} {e : Env} {s : State} {m : MethodId} {args : Array Value} {below : List Frame} {meth : Method} {c : Code} {D : va_G} {cI cS cW : ClassId} {q : Nat → Nat} {A : Nat → Prop} {res : Int32 × zSt} (C : zCX p s m args meth c cX9_putNode 3 (some .int) zU RX9) (hE : zE D (zyX cI cS cW) znX A s) (x1 : Int32) (S : zSt) (H : Heap) (locs : List Loc) (ls : Array Slot) (hH : zH D (zwX cI cS cW q) A s S H locs) (hl : lv_has ls 3 [(0, .ref (q 3)), (1, .int x1)]) (h : fX_X9_putNode  x1 S = some res) : W p l e rmX_X9_putNode s m args below meth c H locs 0 0 (zQi below D (zwX cI cS cW q) (zyX cI cS cW) A args s res.1 res.2) (F0 m 0 ls []) := by
  have hx := C.1
  have hb := C.2.1
  unfold fX_X9_putNode at h
  refine lv_aload_n hx hb dX9_putNode_0 rfl (lv_at hl 0 rfl) ?_
  refine lv_iload_n hx hb dX9_putNode_1 rfl (lv_at hl 1 rfl) ?_
  obtain ⟨u1, e2, h⟩ := zbd_s h
  refine z_calli (va_runV (As := [.int x1]) (rest := []) (z_fix C) (cX_X9_seek l D cI cS cW q H.size  x1 S e2) (cwV 1 C.2.2.2.2.1 (zGV zk15_20 zk15_21 zk15_22 zk2_2 zk15_23) rfl rfl rfl yd_X9_seek ⟨Nat.le_of_ble_eq_true rfl, Nat.le_of_ble_eq_true rfl⟩) (z_preV (zNmX hE) hE hH zX_o3 rfl) rfl rfl hl.1 rfl (lv_room (Nat.le_of_ble_eq_true rfl)) dX9_putNode_2 ⟨Nat.le_refl 0, Nat.le_refl 0⟩) hE hH (fun H locs hH => ?_)
  refine lv_istore_n (lv' := [(2, .int u1.1), (0, .ref (q 3)), (1, .int x1)]) hx hb dX9_putNode_5 rfl hl (by decide) rfl (fun ls hl => ?_)
  refine lv_aload_n hx hb dX9_putNode_6 rfl (lv_at hl 1 rfl) ?_
  refine z_get C hE hH zX_o3 rfl zh_X9 0 (by decide) zk15_18 (u_same (C.2.2.2.2.1 _ zk15_19)) (v := .ref (q 38)) rfl dX9_putNode_7 ?_
  refine lv_iload_n hx hb dX9_putNode_10 rfl (lv_at hl 2 rfl) ?_
  refine lv_dup2_11 hx hb dX9_putNode_11 rfl rfl ?_
  obtain ⟨g3, h⟩ := zgd_s h
  refine z_iald C hE hH zX_a38 (t0 := 0) rfl g3 dX9_putNode_12 ?_
  refine lv_iconst (v := 1) hx hb dX9_putNode_13 (by decide) ?_
  refine lv_iadd hx hb dX9_putNode_14 ?_
  obtain ⟨g4, h⟩ := zgd_s h
  refine z_iast C hE hH zX_a38 (t0 := 0) rfl g4 zX_r38 dX9_putNode_15 (fun H locs hH => ?_)
  refine lv_aload_n hx hb dX9_putNode_16 rfl (lv_at hl 1 rfl) ?_
  refine z_get C hE hH zX_o3 rfl zh_X9 0 (by decide) zk15_18 (u_same (C.2.2.2.2.1 _ zk15_19)) (v := .ref (q 38)) rfl dX9_putNode_17 ?_
  refine lv_iload_n hx hb dX9_putNode_20 rfl (lv_at hl 2 rfl) ?_
  obtain ⟨g5, h⟩ := zgd_s h
  refine z_iald C hE hH zX_a38 (t0 := 0) rfl g5 dX9_putNode_21 ?_
  refine lv_iconst (v := 1) hx hb dX9_putNode_22 (by decide) ?_
  refine lv_icmp_le (tgt := 28) hx hb dX9_putNode_23 (by decide) (fun c6 => ?_) (fun c6 => ?_)
  · replace h := zif_t c6 h
    refine lv_aload_n hx hb dX9_putNode_28 rfl (lv_at hl 1 rfl) ?_
    refine z_get C hE hH zX_o3 rfl zh_X9 4 (by decide) zk4_7 (fun _ h9 => h9) (v := .ref (q 40)) rfl dX9_putNode_29 ?_
    refine lv_iload_n hx hb dX9_putNode_32 rfl (lv_at hl 2 rfl) ?_
    refine lv_iconst (v := (-1)) hx hb dX9_putNode_33 (by decide) ?_
    obtain ⟨g7, h⟩ := zgd_s h
    refine z_iast C hE hH zX_a40 (t0 := 0) rfl g7 zX_r40 dX9_putNode_34 (fun H locs hH => ?_)
    refine lv_aload_n hx hb dX9_putNode_35 rfl (lv_at hl 1 rfl) ?_
    refine z_get C hE hH zX_o3 rfl zh_X9 5 (by decide) zk4_8 (fun _ h9 => h9) (v := .ref (q 41)) rfl dX9_putNode_36 ?_
    refine lv_iload_n hx hb dX9_putNode_39 rfl (lv_at hl 2 rfl) ?_
    refine lv_iconst (v := (-1)) hx hb dX9_putNode_40 (by decide) ?_
    obtain ⟨g8, h⟩ := zgd_s h
    refine z_iast C hE hH zX_a41 (t0 := 0) rfl g8 zX_r41 dX9_putNode_41 (fun H locs hH => ?_)
    refine lv_aload_n hx hb dX9_putNode_42 rfl (lv_at hl 1 rfl) ?_
    refine lv_iload_n hx hb dX9_putNode_43 rfl (lv_at hl 2 rfl) ?_
    refine lv_iload_n hx hb dX9_putNode_44 rfl (lv_at hl 2 rfl) ?_
    obtain ⟨u9, e10, h⟩ := zbd_s h
    refine z_callv (va_runV (As := [.int x1, .int x1]) (rest := []) (z_fix C) (cX_X9_hang l D cI cS cW q H.size  x1 x1 (zsR (zsR (zsR u1.2 38 x1.toNatClampNeg ((u1.2.2 38 x1.toNatClampNeg) + 1)) 40 x1.toNatClampNeg (-1)) 41 x1.toNatClampNeg (-1)) e10) (cwV 2 C.2.2.2.2.1 (zGV zk16_0 zk16_1 zk16_2 zk2_2 zk16_3) rfl rfl rfl yd_X9_hang ⟨Nat.le_of_ble_eq_true rfl, Nat.le_of_ble_eq_true rfl⟩) (z_preV (zNmX hE) hE hH zX_o3 rfl) rfl rfl hl.1 rfl (lv_room (Nat.le_of_ble_eq_true rfl)) dX9_putNode_45 ⟨Nat.le_refl 0, Nat.le_refl 0⟩) hE hH (fun H locs hH => ?_)
    refine lv_aload_n hx hb dX9_putNode_48 rfl (lv_at hl 1 rfl) ?_
    refine lv_dup hx hb dX9_putNode_49 rfl ?_
    refine z_get C hE hH zX_o3 rfl zh_X9 7 (by decide) zk4_10 (fun _ h9 => h9) (v := .int (u9.1 32)) rfl dX9_putNode_50 ?_
    refine lv_iconst (v := 1) hx hb dX9_putNode_53 (by decide) ?_
    refine lv_iadd hx hb dX9_putNode_54 ?_
    refine z_put C hE hH zX_o3 rfl zh_X9 tyX9_ok nmX9 7 (by decide) zk4_10 (fun _ h9 => h9) rfl (ty := .int) rfl rfl rfl (Nat.le_of_ble_eq_true rfl) zX_i32 dX9_putNode_55 (fun H locs hH => ?_)
    refine lv_iload_n hx hb dX9_putNode_58 rfl (lv_at hl 0 rfl) ?_
    refine lv_iconst (v := 1) hx hb dX9_putNode_59 (by decide) ?_
    refine lv_iadd hx hb dX9_putNode_60 ?_
    cases h
    exact z_iret C hE hH dX9_putNode_61
  · replace h := zif_f c6 h
    refine lv_iload_n hx hb dX9_putNode_26 rfl (lv_at hl 0 rfl) ?_
    cases h
    exact z_iret C hE hH dX9_putNode_27
set_option maxHeartbeats 4000000 in
set_option maxRecDepth 100000 in
theorem cX_X9_putNode (l : Launch) (D : va_G) (cI cS cW : ClassId) (q : Nat → Nat) (sz : Nat) (x1 : Int32) (S : zSt) {res : Int32 × zSt} (h : fX_X9_putNode x1 S = some res) : zMi l yX9_putNode vsX9_putNode rmX_X9_putNode [.ref (q 3), .int x1] D (zwX cI cS cW q) (zyX cI cS cW) znX sz S res.1 res.2 := by
  refine Met.ofW (cc := cX9_putNode) (maxL := 3) (ret := (some .int)) (by decide) rfl ?_
  intro p e s m args below meth c s₁ B hml hv
  obtain ⟨rfl, rfl, hP, hK, hD0, hN⟩ := hv
  have hl := lv_entry ([.ref (q 3), .int x1]) (n := 3) (Nat.le_of_ble_eq_true rfl)
  rw [lg_entry_eq]
  generalize (lg_sl ([.ref (q 3), .int x1]) ++ List.replicate (3 - (lg_sl ([.ref (q 3), .int x1])).length) Slot.unset).toArray = ls at hl ⊢
  exact bX_X9_putNode ⟨B.exec, B.bytes, hml, findClass_of_methodNamed B.named, fun w h => atoms_spec (ws := vsX9_putNode) B.pre w (List.mem_cons_of_mem _ h), B.returns, B.notSynchronized⟩ ⟨hK, fun q h => Or.inr h, hN⟩ x1 S s.heap [] ls ⟨hP, hD0.self, va_S.rf⟩ hl  h
def rmX_X9_takeOut : Room := { frames := 1, cells := 0, slots := 0, locals := 22 }
set_option maxHeartbeats 4000000 in
set_option maxRecDepth 100000 in
theorem bX_X9_takeOut_56 {p : Program} {l : Launch} {e : Env} {s : State} {m : MethodId} {args : Array Value} {below : List Frame} {meth : Method} {c : Code} {D : va_G} {cI cS cW : ClassId} {q : Nat → Nat} {A : Nat → Prop} {res : Int32 × zSt} (C : zCX p s m args meth c cX9_takeOut 5 (some .int) zU RX9) (hE : zE D (zyX cI cS cW) znX A s) (x1 t1 : Int32) (S : zSt) (H : Heap) (locs : List Loc) (ls : Array Slot) (hH : zH D (zwX cI cS cW q) A s S H locs) (hl : lv_has ls 5 [(1, .int x1)]) (h : fX_X9_takeOut_56  x1 t1 S = some res) : W p l e rmX_X9_takeOut s m args below meth c H locs 0 0 (zQi below D (zwX cI cS cW q) (zyX cI cS cW) A args s res.1 res.2) (F0 m 56 ls [.int t1, .ref (q 3)]) := by
  have hx := C.1
  have hb := C.2.1
  unfold fX_X9_takeOut_56 at h
  refine lv_iload_n hx hb dX9_takeOut_56 rfl (lv_at hl 0 rfl) ?_
  obtain ⟨u1, e2, h⟩ := zbd_s h
  refine z_callv (va_runV (As := [.int t1, .int x1]) (rest := []) (z_fix C) (cX_X9_hang l D cI cS cW q H.size  t1 x1 S e2) (cwV 2 C.2.2.2.2.1 (zGV zk16_0 zk16_1 zk16_2 zk2_2 zk16_3) rfl rfl rfl yd_X9_hang ⟨Nat.le_of_ble_eq_true rfl, Nat.le_of_ble_eq_true rfl⟩) (z_preV (zNmX hE) hE hH zX_o3 rfl) rfl rfl hl.1 rfl (lv_room (Nat.le_of_ble_eq_true rfl)) dX9_takeOut_57 ⟨Nat.le_refl 0, Nat.le_refl 0⟩) hE hH (fun H locs hH => ?_)
  refine lv_iconst (v := 0) hx hb dX9_takeOut_60 (by decide) ?_
  cases h
  exact z_iret C hE hH dX9_takeOut_61
set_option maxHeartbeats 4000000 in
set_option maxRecDepth 100000 in
theorem bX_X9_takeOut_30 {p : Program} {l : Launch} {e : Env} {s : State} {m : MethodId} {args : Array Value} {below : List Frame} {meth : Method} {c : Code} {D : va_G} {cI cS cW : ClassId} {q : Nat → Nat} {A : Nat → Prop} {res : Int32 × zSt} (C : zCX p s m args meth c cX9_takeOut 5 (some .int) zU RX9) (hE : zE D (zyX cI cS cW) znX A s) (x1 : Int32) (S : zSt) (H : Heap) (locs : List Loc) (ls : Array Slot) (hH : zH D (zwX cI cS cW q) A s S H locs) (hl : lv_has ls 5 [(0, .ref (q 3)), (1, .int x1)]) (h : fX_X9_takeOut_30  x1 S = some res) : W p l e rmX_X9_takeOut s m args below meth c H locs 0 0 (zQi below D (zwX cI cS cW q) (zyX cI cS cW) A args s res.1 res.2) (F0 m 30 ls []) := by
  have hx := C.1
  have hb := C.2.1
  unfold fX_X9_takeOut_30 at h
  refine lv_aload_n hx hb dX9_takeOut_30 rfl (lv_at hl 0 rfl) ?_
  refine lv_aload_n hx hb dX9_takeOut_31 rfl (lv_at hl 0 rfl) ?_
  refine z_get C hE hH zX_o3 rfl zh_X9 4 (by decide) zk4_7 (fun _ h9 => h9) (v := .ref (q 40)) rfl dX9_takeOut_32 ?_
  refine lv_iload_n hx hb dX9_takeOut_35 rfl (lv_at hl 1 rfl) ?_
  obtain ⟨g1, h⟩ := zgd_s h
  refine z_iald C hE hH zX_a40 (t0 := 0) rfl g1 dX9_takeOut_36 ?_
  refine lv_iconst (v := (-1)) hx hb dX9_takeOut_37 (by decide) ?_
  refine lv_icmp_ne (tgt := 50) hx hb dX9_takeOut_38 (by decide) (fun c2 => ?_) (fun c2 => ?_)
  · replace h := zif_f c2 h
    refine lv_aload_n hx hb dX9_takeOut_50 rfl (lv_at hl 0 rfl) ?_
    refine z_get C hE hH zX_o3 rfl zh_X9 4 (by decide) zk4_7 (fun _ h9 => h9) (v := .ref (q 40)) rfl dX9_takeOut_51 ?_
    refine lv_iload_n hx hb dX9_takeOut_54 rfl (lv_at hl 1 rfl) ?_
    obtain ⟨g3, h⟩ := zgd_s h
    refine z_iald C hE hH zX_a40 (t0 := 0) rfl g3 dX9_takeOut_55 ?_
    exact bX_X9_takeOut_56 C hE   x1 (S.2 40 x1.toNatClampNeg) S H locs ls hH (lv_sub hl [1] rfl) h
  · replace h := zif_t c2 h
    refine lv_aload_n hx hb dX9_takeOut_41 rfl (lv_at hl 0 rfl) ?_
    refine z_get C hE hH zX_o3 rfl zh_X9 5 (by decide) zk4_8 (fun _ h9 => h9) (v := .ref (q 41)) rfl dX9_takeOut_42 ?_
    refine lv_iload_n hx hb dX9_takeOut_45 rfl (lv_at hl 1 rfl) ?_
    obtain ⟨g4, h⟩ := zgd_s h
    refine z_iald C hE hH zX_a41 (t0 := 0) rfl g4 dX9_takeOut_46 ?_
    refine lv_goto (tgt := 56) hx hb dX9_takeOut_47 (by decide) ?_
    exact bX_X9_takeOut_56 C hE   x1 (S.2 41 x1.toNatClampNeg) S H locs ls hH (lv_sub hl [1] rfl) h
set_option maxHeartbeats 4000000 in
set_option maxRecDepth 100000 in
theorem bX_X9_takeOut_135 {p : Program} {l : Launch} {e : Env} {s : State} {m : MethodId} {args : Array Value} {below : List Frame} {meth : Method} {c : Code} {D : va_G} {cI cS cW : ClassId} {q : Nat → Nat} {A : Nat → Prop} {res : Int32 × zSt} (C : zCX p s m args meth c cX9_takeOut 5 (some .int) zU RX9) (hE : zE D (zyX cI cS cW) znX A s) (x1 x3 x4 : Int32) (S : zSt) (H : Heap) (locs : List Loc) (ls : Array Slot) (hH : zH D (zwX cI cS cW q) A s S H locs) (hl : lv_has ls 5 [(0, .ref (q 3)), (1, .int x1), (3, .int x3), (4, .int x4)]) (h : fX_X9_takeOut_135  x1 x3 x4 S = some res) : W p l e rmX_X9_takeOut s m args below meth c H locs 0 0 (zQi below D (zwX cI cS cW q) (zyX cI cS cW) A args s res.1 res.2) (F0 m 135 ls []) := by
  have hx := C.1
  have hb := C.2.1
  unfold fX_X9_takeOut_135 at h
  refine lv_aload_n hx hb dX9_takeOut_135 rfl (lv_at hl 0 rfl) ?_
  refine z_get C hE hH zX_o3 rfl zh_X9 4 (by decide) zk4_7 (fun _ h9 => h9) (v := .ref (q 40)) rfl dX9_takeOut_136 ?_
  refine lv_iload_n hx hb dX9_takeOut_139 rfl (lv_at hl 2 rfl) ?_
  refine lv_aload_n hx hb dX9_takeOut_140 rfl (lv_at hl 0 rfl) ?_
  refine z_get C hE hH zX_o3 rfl zh_X9 4 (by decide) zk4_7 (fun _ h9 => h9) (v := .ref (q 40)) rfl dX9_takeOut_141 ?_
  refine lv_iload_n hx hb dX9_takeOut_144 rfl (lv_at hl 1 rfl) ?_
  obtain ⟨g1, h⟩ := zgd_s h
  refine z_iald C hE hH zX_a40 (t0 := 0) rfl g1 dX9_takeOut_145 ?_
  obtain ⟨g2, h⟩ := zgd_s h
  refine z_iast C hE hH zX_a40 (t0 := 0) rfl g2 zX_r40 dX9_takeOut_146 (fun H locs hH => ?_)
  refine lv_aload_n hx hb dX9_takeOut_147 rfl (lv_at hl 0 rfl) ?_
  refine lv_iload_n hx hb dX9_takeOut_148 rfl (lv_at hl 2 rfl) ?_
  refine lv_iload_n hx hb dX9_takeOut_149 rfl (lv_at hl 1 rfl) ?_
  obtain ⟨u3, e4, h⟩ := zbd_s h
  refine z_callv (va_runV (As := [.int x3, .int x1]) (rest := []) (z_fix C) (cX_X9_hang l D cI cS cW q H.size  x3 x1 (zsR S 40 x3.toNatClampNeg (S.2 40 x1.toNatClampNeg)) e4) (cwV 2 C.2.2.2.2.1 (zGV zk16_0 zk16_1 zk16_2 zk2_2 zk16_3) rfl rfl rfl yd_X9_hang ⟨Nat.le_of_ble_eq_true rfl, Nat.le_of_ble_eq_true rfl⟩) (z_preV (zNmX hE) hE hH zX_o3 rfl) rfl rfl hl.1 rfl (lv_room (Nat.le_of_ble_eq_true rfl)) dX9_takeOut_150 ⟨Nat.le_refl 0, Nat.le_refl 0⟩) hE hH (fun H locs hH => ?_)
  refine lv_iload hx hb dX9_takeOut_153 (lv_at hl 3 rfl) ?_
  cases h
  exact z_iret C hE hH dX9_takeOut_155
set_option maxHeartbeats 4000000 in
set_option maxRecDepth 100000 in
theorem bX_X9_takeOut_106 {p : Program} {l : Launch} {e : Env} {s : State} {m : MethodId} {args : Array Value} {below : List Frame} {meth : Method} {c : Code} {D : va_G} {cI cS cW : ClassId} {q : Nat → Nat} {A : Nat → Prop} {res : Int32 × zSt} (C : zCX p s m args meth c cX9_takeOut 5 (some .int) zU RX9) (hE : zE D (zyX cI cS cW) znX A s) (x1 x2 x3 x4 : Int32) (S : zSt) (H : Heap) (locs : List Loc) (ls : Array Slot) (hH : zH D (zwX cI cS cW q) A s S H locs) (hl : lv_has ls 5 [(0, .ref (q 3)), (1, .int x1), (2, .int x2), (3, .int x3), (4, .int x4)]) (h : fX_X9_takeOut_106  x1 x2 x3 x4 S = some res) : W p l e rmX_X9_takeOut s m args below meth c H locs 0 0 (zQi below D (zwX cI cS cW q) (zyX cI cS cW) A args s res.1 res.2) (F0 m 106 ls []) := by
  have hx := C.1
  have hb := C.2.1
  unfold fX_X9_takeOut_106 at h
  refine lv_iload_n hx hb dX9_takeOut_106 rfl (lv_at hl 2 rfl) ?_
  refine lv_iload_n hx hb dX9_takeOut_107 rfl (lv_at hl 1 rfl) ?_
  refine lv_icmp_eq (tgt := 135) hx hb dX9_takeOut_108 (by decide) (fun c1 => ?_) (fun c1 => ?_)
  · replace h := zif_t c1 h
    exact bX_X9_takeOut_135 C hE   x1 x3 x4 S H locs ls hH (lv_sub hl [0, 1, 3, 4] rfl) h
  · replace h := zif_f c1 h
    refine lv_aload_n hx hb dX9_takeOut_111 rfl (lv_at hl 0 rfl) ?_
    refine z_get C hE hH zX_o3 rfl zh_X9 4 (by decide) zk4_7 (fun _ h9 => h9) (v := .ref (q 40)) rfl dX9_takeOut_112 ?_
    refine lv_iload_n hx hb dX9_takeOut_115 rfl (lv_at hl 2 rfl) ?_
    refine lv_aload_n hx hb dX9_takeOut_116 rfl (lv_at hl 0 rfl) ?_
    refine z_get C hE hH zX_o3 rfl zh_X9 5 (by decide) zk4_8 (fun _ h9 => h9) (v := .ref (q 41)) rfl dX9_takeOut_117 ?_
    refine lv_iload_n hx hb dX9_takeOut_120 rfl (lv_at hl 3 rfl) ?_
    obtain ⟨g2, h⟩ := zgd_s h
    refine z_iald C hE hH zX_a41 (t0 := 0) rfl g2 dX9_takeOut_121 ?_
    obtain ⟨g3, h⟩ := zgd_s h
    refine z_iast C hE hH zX_a40 (t0 := 0) rfl g3 zX_r40 dX9_takeOut_122 (fun H locs hH => ?_)
    refine lv_aload_n hx hb dX9_takeOut_123 rfl (lv_at hl 0 rfl) ?_
    refine z_get C hE hH zX_o3 rfl zh_X9 5 (by decide) zk4_8 (fun _ h9 => h9) (v := .ref (q 41)) rfl dX9_takeOut_124 ?_
    refine lv_iload_n hx hb dX9_takeOut_127 rfl (lv_at hl 3 rfl) ?_
    refine lv_aload_n hx hb dX9_takeOut_128 rfl (lv_at hl 0 rfl) ?_
    refine z_get C hE hH zX_o3 rfl zh_X9 5 (by decide) zk4_8 (fun _ h9 => h9) (v := .ref (q 41)) rfl dX9_takeOut_129 ?_
    refine lv_iload_n hx hb dX9_takeOut_132 rfl (lv_at hl 1 rfl) ?_
    obtain ⟨g4, h⟩ := zgd_s h
    refine z_iald C hE hH zX_a41 (t0 := 0) rfl g4 dX9_takeOut_133 ?_
    obtain ⟨g5, h⟩ := zgd_s h
    refine z_iast C hE hH zX_a41 (t0 := 0) rfl g5 zX_r41 dX9_takeOut_134 (fun H locs hH => ?_)
    exact bX_X9_takeOut_135 C hE   x1 x3 x4 (zsR (zsR S 40 x2.toNatClampNeg (S.2 41 x3.toNatClampNeg)) 41 x3.toNatClampNeg (S.2 41 x1.toNatClampNeg)) H locs ls hH (lv_sub hl [0, 1, 3, 4] rfl) h
set_option maxHeartbeats 4000000 in
set_option maxRecDepth 100000 in
theorem bX_X9_takeOut_74 {p : Program} {l : Launch} {e : Env} {s : State} {m : MethodId} {args : Array Value} {below : List Frame} {meth : Method} {c : Code} {D : va_G} {cI cS cW : ClassId} {q : Nat → Nat} {A : Nat → Prop} {res : Int32 × zSt} (C : zCX p s m args meth c cX9_takeOut 5 (some .int) zU RX9) (hE : zE D (zyX cI cS cW) znX A s) : ∀ (n : Nat) (x1 x2 x3 x4 : Int32) (S : zSt) (H : Heap) (locs : List Loc) (ls : Array Slot), zH D (zwX cI cS cW q) A s S H locs → lv_has ls 5 [(0, .ref (q 3)), (1, .int x1), (2, .int x2), (3, .int x3), (4, .int x4)] → fX_X9_takeOut_74  n x1 x2 x3 x4 S = some res → W p l e rmX_X9_takeOut s m args below meth c H locs 0 0 (zQi below D (zwX cI cS cW q) (zyX cI cS cW) A args s res.1 res.2) (F0 m 74 ls []) := by
  have hx := C.1
  have hb := C.2.1
  intro n
  induction n with
  | zero =>
    intro x1 x2 x3 x4 S H locs ls hH hl  h
    cases h
  | succ n hK74 =>
    intro x1 x2 x3 x4 S H locs ls hH hl  h
    rw [fX_X9_takeOut_74] at h
    refine lv_iload hx hb dX9_takeOut_74 (lv_at hl 4 rfl) ?_
    refine lv_bipush (v := 64) hx hb dX9_takeOut_76 (by decide) ?_
    refine lv_icmp_ge (tgt := 106) hx hb dX9_takeOut_78 (by decide) (fun c1 => ?_) (fun c1 => ?_)
    · replace h := zif_t c1 h
      exact bX_X9_takeOut_106 C hE   x1 x2 x3 x4 S H locs ls hH (lv_sub hl [0, 1, 2, 3, 4] rfl) h
    · replace h := zif_f c1 h
      refine lv_aload_n hx hb dX9_takeOut_81 rfl (lv_at hl 0 rfl) ?_
      refine z_get C hE hH zX_o3 rfl zh_X9 4 (by decide) zk4_7 (fun _ h9 => h9) (v := .ref (q 40)) rfl dX9_takeOut_82 ?_
      refine lv_iload_n hx hb dX9_takeOut_85 rfl (lv_at hl 3 rfl) ?_
      obtain ⟨g2, h⟩ := zgd_s h
      refine z_iald C hE hH zX_a40 (t0 := 0) rfl g2 dX9_takeOut_86 ?_
      refine lv_iconst (v := (-1)) hx hb dX9_takeOut_87 (by decide) ?_
      refine lv_icmp_eq (tgt := 106) hx hb dX9_takeOut_88 (by decide) (fun c3 => ?_) (fun c3 => ?_)
      · replace h := zif_t c3 h
        exact bX_X9_takeOut_106 C hE   x1 x2 x3 x4 S H locs ls hH (lv_sub hl [0, 1, 2, 3, 4] rfl) h
      · replace h := zif_f c3 h
        refine lv_iload_n hx hb dX9_takeOut_91 rfl (lv_at hl 3 rfl) ?_
        refine lv_istore_n (lv' := [(2, .int x3), (0, .ref (q 3)), (1, .int x1), (3, .int x3), (4, .int x4)]) hx hb dX9_takeOut_92 rfl hl (by decide) rfl (fun ls hl => ?_)
        refine lv_aload_n hx hb dX9_takeOut_93 rfl (lv_at hl 1 rfl) ?_
        refine z_get C hE hH zX_o3 rfl zh_X9 4 (by decide) zk4_7 (fun _ h9 => h9) (v := .ref (q 40)) rfl dX9_takeOut_94 ?_
        refine lv_iload_n hx hb dX9_takeOut_97 rfl (lv_at hl 3 rfl) ?_
        obtain ⟨g4, h⟩ := zgd_s h
        refine z_iald C hE hH zX_a40 (t0 := 0) rfl g4 dX9_takeOut_98 ?_
        refine lv_istore_n (lv' := [(3, .int (S.2 40 x3.toNatClampNeg)), (2, .int x3), (0, .ref (q 3)), (1, .int x1), (4, .int x4)]) hx hb dX9_takeOut_99 rfl hl (by decide) rfl (fun ls hl => ?_)
        refine lv_iinc (v := (x4 + 1)) (lv' := [(4, .int (x4 + 1)), (3, .int (S.2 40 x3.toNatClampNeg)), (2, .int x3), (0, .ref (q 3)), (1, .int x1)]) hx hb dX9_takeOut_100 hl (k := 4) rfl rfl (by decide) rfl (fun ls hl => ?_)
        refine lv_goto (tgt := 74) hx hb dX9_takeOut_103 (by decide) ?_
        exact hK74 x1 x3 (S.2 40 x3.toNatClampNeg) (x4 + 1) S H locs ls hH (lv_sub hl [3, 4, 2, 1, 0] rfl) h
set_option maxHeartbeats 4000000 in
set_option maxRecDepth 100000 in
theorem bX_X9_takeOut {p : Program} {l : Launch} {e : Env} {s : State} {m : MethodId} {args : Array Value} {below : List Frame} {meth : Method} {c : Code} {D : va_G} {cI cS cW : ClassId} {q : Nat → Nat} {A : Nat → Prop} {res : Int32 × zSt} (C : zCX p s m args meth c cX9_takeOut 5 (some .int) zU RX9) (hE : zE D (zyX cI cS cW) znX A s) (x1 : Int32) (S : zSt) (H : Heap) (locs : List Loc) (ls : Array Slot) (hH : zH D (zwX cI cS cW q) A s S H locs) (hl : lv_has ls 5 [(0, .ref (q 3)), (1, .int x1)]) (h : fX_X9_takeOut  x1 S = some res) : W p l e rmX_X9_takeOut s m args below meth c H locs 0 0 (zQi below D (zwX cI cS cW q) (zyX cI cS cW) A args s res.1 res.2) (F0 m 0 ls []) := by
  have hx := C.1
  have hb := C.2.1
  unfold fX_X9_takeOut at h
  refine lv_aload_n hx hb dX9_takeOut_0 rfl (lv_at hl 0 rfl) ?_
  refine lv_dup hx hb dX9_takeOut_1 rfl ?_
  refine z_get C hE hH zX_o3 rfl zh_X9 7 (by decide) zk4_10 (fun _ h9 => h9) (v := .int (S.1 32)) rfl dX9_takeOut_2 ?_
  refine lv_iconst (v := 1) hx hb dX9_takeOut_5 (by decide) ?_
  refine lv_isub hx hb dX9_takeOut_6 ?_
  refine z_put C hE hH zX_o3 rfl zh_X9 tyX9_ok nmX9 7 (by decide) zk4_10 (fun _ h9 => h9) rfl (ty := .int) rfl rfl rfl (Nat.le_of_ble_eq_true rfl) zX_i32 dX9_takeOut_7 (fun H locs hH => ?_)
  refine lv_aload_n hx hb dX9_takeOut_10 rfl (lv_at hl 0 rfl) ?_
  refine z_get C hE hH zX_o3 rfl zh_X9 4 (by decide) zk4_7 (fun _ h9 => h9) (v := .ref (q 40)) rfl dX9_takeOut_11 ?_
  refine lv_iload_n hx hb dX9_takeOut_14 rfl (lv_at hl 1 rfl) ?_
  obtain ⟨g1, h⟩ := zgd_s h
  refine z_iald C hE hH zX_a40 (t0 := 0) rfl g1 dX9_takeOut_15 ?_
  refine lv_iconst (v := (-1)) hx hb dX9_takeOut_16 (by decide) ?_
  refine lv_icmp_eq (tgt := 30) hx hb dX9_takeOut_17 (by decide) (fun c2 => ?_) (fun c2 => ?_)
  · replace h := zif_t c2 h
    exact bX_X9_takeOut_30 C hE   x1 (zsI S 32 ((S.1 32) - 1)) H locs ls hH (lv_sub hl [0, 1] rfl) h
  · replace h := zif_f c2 h
    refine lv_aload_n hx hb dX9_takeOut_20 rfl (lv_at hl 0 rfl) ?_
    refine z_get C hE hH zX_o3 rfl zh_X9 5 (by decide) zk4_8 (fun _ h9 => h9) (v := .ref (q 41)) rfl dX9_takeOut_21 ?_
    refine lv_iload_n hx hb dX9_takeOut_24 rfl (lv_at hl 1 rfl) ?_
    obtain ⟨g3, h⟩ := zgd_s h
    refine z_iald C hE hH zX_a41 (t0 := 0) rfl g3 dX9_takeOut_25 ?_
    refine lv_iconst (v := (-1)) hx hb dX9_takeOut_26 (by decide) ?_
    refine lv_icmp_ne (tgt := 62) hx hb dX9_takeOut_27 (by decide) (fun c4 => ?_) (fun c4 => ?_)
    · replace h := zif_f c4 h
      refine lv_iload_n hx hb dX9_takeOut_62 rfl (lv_at hl 1 rfl) ?_
      refine lv_istore_n (lv' := [(2, .int x1), (0, .ref (q 3)), (1, .int x1)]) hx hb dX9_takeOut_63 rfl hl (by decide) rfl (fun ls hl => ?_)
      refine lv_aload_n hx hb dX9_takeOut_64 rfl (lv_at hl 1 rfl) ?_
      refine z_get C hE hH zX_o3 rfl zh_X9 5 (by decide) zk4_8 (fun _ h9 => h9) (v := .ref (q 41)) rfl dX9_takeOut_65 ?_
      refine lv_iload_n hx hb dX9_takeOut_68 rfl (lv_at hl 2 rfl) ?_
      obtain ⟨g5, h⟩ := zgd_s h
      refine z_iald C hE hH zX_a41 (t0 := 0) rfl g5 dX9_takeOut_69 ?_
      refine lv_istore_n (lv' := [(3, .int (S.2 41 x1.toNatClampNeg)), (2, .int x1), (0, .ref (q 3)), (1, .int x1)]) hx hb dX9_takeOut_70 rfl hl (by decide) rfl (fun ls hl => ?_)
      refine lv_iconst (v := 1) hx hb dX9_takeOut_71 (by decide) ?_
      refine lv_istore (lv' := [(4, .int 1), (3, .int (S.2 41 x1.toNatClampNeg)), (2, .int x1), (0, .ref (q 3)), (1, .int x1)]) hx hb dX9_takeOut_72 hl (by decide) rfl (fun ls hl => ?_)
      exact bX_X9_takeOut_74 C hE   1000 x1 x1 (S.2 41 x1.toNatClampNeg) 1 (zsI S 32 ((S.1 32) - 1)) H locs ls hH (lv_sub hl [3, 4, 2, 1, 0] rfl) h
    · replace h := zif_t c4 h
      exact bX_X9_takeOut_30 C hE   x1 (zsI S 32 ((S.1 32) - 1)) H locs ls hH (lv_sub hl [0, 1] rfl) h
set_option maxHeartbeats 4000000 in
set_option maxRecDepth 100000 in
theorem cX_X9_takeOut (l : Launch) (D : va_G) (cI cS cW : ClassId) (q : Nat → Nat) (sz : Nat) (x1 : Int32) (S : zSt) {res : Int32 × zSt} (h : fX_X9_takeOut x1 S = some res) : zMi l yX9_takeOut vsX9_takeOut rmX_X9_takeOut [.ref (q 3), .int x1] D (zwX cI cS cW q) (zyX cI cS cW) znX sz S res.1 res.2 := by
  refine Met.ofW (cc := cX9_takeOut) (maxL := 5) (ret := (some .int)) (by decide) rfl ?_
  intro p e s m args below meth c s₁ B hml hv
  obtain ⟨rfl, rfl, hP, hK, hD0, hN⟩ := hv
  have hl := lv_entry ([.ref (q 3), .int x1]) (n := 5) (Nat.le_of_ble_eq_true rfl)
  rw [lg_entry_eq]
  generalize (lg_sl ([.ref (q 3), .int x1]) ++ List.replicate (5 - (lg_sl ([.ref (q 3), .int x1])).length) Slot.unset).toArray = ls at hl ⊢
  exact bX_X9_takeOut ⟨B.exec, B.bytes, hml, findClass_of_methodNamed B.named, fun w h => atoms_spec (ws := vsX9_takeOut) B.pre w (List.mem_cons_of_mem _ h), B.returns, B.notSynchronized⟩ ⟨hK, fun q h => Or.inr h, hN⟩ x1 S s.heap [] ls ⟨hP, hD0.self, va_S.rf⟩ hl  h

def vsX7_init : List Cond := .code yX7_init cX7_init 1 none :: zU
theorem yd_X7_init : yX7_init.cls ≠ "java/lang/invoke/MethodHandle" ∧ yX7_init.cls ≠ "java/lang/invoke/VarHandle" ∧ (parseMethodDescriptor yX7_init.desc).map (fun d => d.parameters.length) = some 0 := by decide +kernel
def rmC_7_X6 : Room := { frames := 1, cells := 2, slots := 400, locals := 12 }
abbrev w1_7_X6 (cI cS cW : ClassId) (h0 : Nat) (q : Nat → Nat) : va_W := [(h0, .inr (4, [.null, .int 0, .int 0, .int 0, .ref (q 1), .ref (q 2), .int 0])), (q 1, .inl (cI, 200, .inl (fun _ => 0))), (q 2, .inl (cI, 200, .inl (fun _ => 0)))]
set_option maxHeartbeats 4000000 in
set_option maxRecDepth 100000 in
theorem cC_7_X6 (l : Launch) (D : va_G) (cI cS cW : ClassId) (h0 sz : Nat) : yM l yX7_init vsX7_init rmC_7_X6 [.ref h0] D [(h0, .inr (4, [.null, .int 0, .int 0, .int 0, .null, .null, .int 0]))] (zyX cI cS cW) sz (w1_7_X6 cI cS cW h0) 2 400 := by
  refine Met.ofW (cc := cX7_init) (maxL := 1) (ret := none) (by decide) rfl ?_
  intro p e s m args below meth c s₁ B hml hv
  obtain ⟨rfl, rfl, hP, hK, hD0, hN⟩ := hv
  have C : zCX p s m _ meth c cX7_init 1 none zU RX7 := ⟨B.exec, B.bytes, hml, findClass_of_methodNamed B.named, fun w h => atoms_spec (ws := vsX7_init) B.pre w (List.mem_cons_of_mem _ h), B.returns, B.notSynchronized⟩
  have hx := C.1
  have hb := C.2.1
  have hts := C.2.2.2.2.1
  have hown := C.2.2.2.1
  have hin : meth.name = "<init>" := (name_of_methodNamed B.named B.method).1
  have hD := hD0.self (sz := s.heap.size)
  generalize hAe : va_A [(h0, .inr (4, [.null, .int 0, .int 0, .int 0, .null, .null, .int 0]))] s.heap.size = A at hD ⊢
  have hE : yE D (zyX cI cS cW) A s := ⟨hK, fun q h => by rw [← hAe]; exact Or.inr h, hN⟩
  have hH : yH D [(h0, .inr (4, [.null, .int 0, .int 0, .int 0, .null, .null, .int 0]))] A s s.heap [] := ⟨hP, hD, va_S.rf⟩
  have hl := lv_entry ([.ref h0]) (n := 1) (Nat.le_of_ble_eq_true rfl)
  rw [lg_entry_eq]
  generalize (lg_sl ([.ref h0]) ++ List.replicate (1 - (lg_sl ([.ref h0])).length) Slot.unset).toArray = ls at hl ⊢
  refine lv_aload_n hx hb dX7_init_0 rfl (lv_at hl 0 rfl) ?_
  refine y_objInit C zc0 zc1 zc2 hl.1 dX7_init_1 (Nat.le_of_ble_eq_true rfl) (Nat.le_of_ble_eq_true rfl) ?_
  refine lv_aload_n hx hb dX7_init_4 rfl (lv_at hl 0 rfl) ?_
  refine lv_sipush (v := 200) hx hb dX7_init_5 (by decide) ?_
  refine y_newi (N := 200) C hE hH zc3 0 rfl (by decide) (by decide) (by decide) (Nat.le_of_ble_eq_true rfl) (Nat.le_of_ble_eq_true rfl) dX7_init_8 (fun a8 H hH => ?_)
  have hH : yH D [(h0, .inr (4, [.null, .int 0, .int 0, .int 0, .null, .null, .int 0])), (a8, .inl (cI, 200, .inl (fun _ => 0)))] A s H _ := hH
  refine W.widen (k := 1) (n := 200) (by omega) (by omega) ?_
  refine y_putF (q0 := 0) (ty := .array .int) C hE hH rfl rfl zh_X6 tyX6_ok nmX6 4 (by decide) zc4 rfl rfl hin rfl rfl rfl rfl (Nat.le_of_ble_eq_true rfl) dX7_init_10 (fun H locs hH => ?_)
  have hH : yH D [(h0, .inr (4, [.null, .int 0, .int 0, .int 0, .ref a8, .null, .int 0])), (a8, .inl (cI, 200, .inl (fun _ => 0)))] A s H _ := hH
  refine lv_aload_n hx hb dX7_init_13 rfl (lv_at hl 0 rfl) ?_
  refine lv_sipush (v := 200) hx hb dX7_init_14 (by decide) ?_
  refine y_newi (N := 200) C hE hH zc3 0 rfl (by decide) (by decide) (by decide) (Nat.le_of_ble_eq_true rfl) (Nat.le_of_ble_eq_true rfl) dX7_init_17 (fun a17 H hH => ?_)
  have hH : yH D [(h0, .inr (4, [.null, .int 0, .int 0, .int 0, .ref a8, .null, .int 0])), (a8, .inl (cI, 200, .inl (fun _ => 0))), (a17, .inl (cI, 200, .inl (fun _ => 0)))] A s H _ := hH
  refine W.widen (k := 2) (n := 400) (by omega) (by omega) ?_
  refine y_putF (q0 := 0) (ty := .array .int) C hE hH rfl rfl zh_X6 tyX6_ok nmX6 5 (by decide) zc5 rfl rfl hin rfl rfl rfl rfl (Nat.le_of_ble_eq_true rfl) dX7_init_19 (fun H locs hH => ?_)
  have hH : yH D [(h0, .inr (4, [.null, .int 0, .int 0, .int 0, .ref a8, .ref a17, .int 0])), (a8, .inl (cI, 200, .inl (fun _ => 0))), (a17, .inl (cI, 200, .inl (fun _ => 0)))] A s H _ := hH
  refine lv_aload_n hx hb dX7_init_22 rfl (lv_at hl 0 rfl) ?_
  refine lv_iconst (v := 0) hx hb dX7_init_23 (by decide) ?_
  refine y_put (q0 := 0) (ty := .int) C hE hH rfl rfl zh_X6 tyX6_ok nmX6 6 (by decide) zc6 rfl rfl rfl rfl rfl (Nat.le_of_ble_eq_true rfl) dX7_init_24 (fun H locs hH => ?_)
  have hH : yH D [(h0, .inr (4, [.null, .int 0, .int 0, .int 0, .ref a8, .ref a17, .int 0])), (a8, .inl (cI, 200, .inl (fun _ => 0))), (a17, .inl (cI, 200, .inl (fun _ => 0)))] A s H _ := hH
  exact y_vret (w1 := w1_7_X6 cI cS cW h0) C hE (fun k => ([h0, a8, a17] : List Nat).getD k 0) hH dX7_init_27
def rmC_7_X8 : Room := { frames := 1, cells := 2, slots := 400, locals := 12 }
abbrev w1_7_X8 (cI cS cW : ClassId) (h0 : Nat) (q : Nat → Nat) : va_W := [(h0, .inr (5, [.null, .int 0, .int 0, .int 0, .ref (q 1), .ref (q 2), .int 0, .int 0])), (q 1, .inl (cI, 200, .inl (fun _ => 0))), (q 2, .inl (cI, 200, .inl (fun _ => 0)))]
set_option maxHeartbeats 4000000 in
set_option maxRecDepth 100000 in
theorem cC_7_X8 (l : Launch) (D : va_G) (cI cS cW : ClassId) (h0 sz : Nat) : yM l yX7_init vsX7_init rmC_7_X8 [.ref h0] D [(h0, .inr (5, [.null, .int 0, .int 0, .int 0, .null, .null, .int 0, .int 0]))] (zyX cI cS cW) sz (w1_7_X8 cI cS cW h0) 2 400 := by
  refine Met.ofW (cc := cX7_init) (maxL := 1) (ret := none) (by decide) rfl ?_
  intro p e s m args below meth c s₁ B hml hv
  obtain ⟨rfl, rfl, hP, hK, hD0, hN⟩ := hv
  have C : zCX p s m _ meth c cX7_init 1 none zU RX7 := ⟨B.exec, B.bytes, hml, findClass_of_methodNamed B.named, fun w h => atoms_spec (ws := vsX7_init) B.pre w (List.mem_cons_of_mem _ h), B.returns, B.notSynchronized⟩
  have hx := C.1
  have hb := C.2.1
  have hts := C.2.2.2.2.1
  have hown := C.2.2.2.1
  have hin : meth.name = "<init>" := (name_of_methodNamed B.named B.method).1
  have hD := hD0.self (sz := s.heap.size)
  generalize hAe : va_A [(h0, .inr (5, [.null, .int 0, .int 0, .int 0, .null, .null, .int 0, .int 0]))] s.heap.size = A at hD ⊢
  have hE : yE D (zyX cI cS cW) A s := ⟨hK, fun q h => by rw [← hAe]; exact Or.inr h, hN⟩
  have hH : yH D [(h0, .inr (5, [.null, .int 0, .int 0, .int 0, .null, .null, .int 0, .int 0]))] A s s.heap [] := ⟨hP, hD, va_S.rf⟩
  have hl := lv_entry ([.ref h0]) (n := 1) (Nat.le_of_ble_eq_true rfl)
  rw [lg_entry_eq]
  generalize (lg_sl ([.ref h0]) ++ List.replicate (1 - (lg_sl ([.ref h0])).length) Slot.unset).toArray = ls at hl ⊢
  refine lv_aload_n hx hb dX7_init_0 rfl (lv_at hl 0 rfl) ?_
  refine y_objInit C zc0 zc1 zc2 hl.1 dX7_init_1 (Nat.le_of_ble_eq_true rfl) (Nat.le_of_ble_eq_true rfl) ?_
  refine lv_aload_n hx hb dX7_init_4 rfl (lv_at hl 0 rfl) ?_
  refine lv_sipush (v := 200) hx hb dX7_init_5 (by decide) ?_
  refine y_newi (N := 200) C hE hH zc3 0 rfl (by decide) (by decide) (by decide) (Nat.le_of_ble_eq_true rfl) (Nat.le_of_ble_eq_true rfl) dX7_init_8 (fun a8 H hH => ?_)
  have hH : yH D [(h0, .inr (5, [.null, .int 0, .int 0, .int 0, .null, .null, .int 0, .int 0])), (a8, .inl (cI, 200, .inl (fun _ => 0)))] A s H _ := hH
  refine W.widen (k := 1) (n := 200) (by omega) (by omega) ?_
  refine y_putF (q0 := 0) (ty := .array .int) C hE hH rfl rfl zh_X8 tyX8_ok nmX8 4 (by decide) zc4 rfl rfl hin rfl rfl rfl rfl (Nat.le_of_ble_eq_true rfl) dX7_init_10 (fun H locs hH => ?_)
  have hH : yH D [(h0, .inr (5, [.null, .int 0, .int 0, .int 0, .ref a8, .null, .int 0, .int 0])), (a8, .inl (cI, 200, .inl (fun _ => 0)))] A s H _ := hH
  refine lv_aload_n hx hb dX7_init_13 rfl (lv_at hl 0 rfl) ?_
  refine lv_sipush (v := 200) hx hb dX7_init_14 (by decide) ?_
  refine y_newi (N := 200) C hE hH zc3 0 rfl (by decide) (by decide) (by decide) (Nat.le_of_ble_eq_true rfl) (Nat.le_of_ble_eq_true rfl) dX7_init_17 (fun a17 H hH => ?_)
  have hH : yH D [(h0, .inr (5, [.null, .int 0, .int 0, .int 0, .ref a8, .null, .int 0, .int 0])), (a8, .inl (cI, 200, .inl (fun _ => 0))), (a17, .inl (cI, 200, .inl (fun _ => 0)))] A s H _ := hH
  refine W.widen (k := 2) (n := 400) (by omega) (by omega) ?_
  refine y_putF (q0 := 0) (ty := .array .int) C hE hH rfl rfl zh_X8 tyX8_ok nmX8 5 (by decide) zc5 rfl rfl hin rfl rfl rfl rfl (Nat.le_of_ble_eq_true rfl) dX7_init_19 (fun H locs hH => ?_)
  have hH : yH D [(h0, .inr (5, [.null, .int 0, .int 0, .int 0, .ref a8, .ref a17, .int 0, .int 0])), (a8, .inl (cI, 200, .inl (fun _ => 0))), (a17, .inl (cI, 200, .inl (fun _ => 0)))] A s H _ := hH
  refine lv_aload_n hx hb dX7_init_22 rfl (lv_at hl 0 rfl) ?_
  refine lv_iconst (v := 0) hx hb dX7_init_23 (by decide) ?_
  refine y_put (q0 := 0) (ty := .int) C hE hH rfl rfl zh_X8 tyX8_ok nmX8 6 (by decide) zc6 rfl rfl rfl rfl rfl (Nat.le_of_ble_eq_true rfl) dX7_init_24 (fun H locs hH => ?_)
  have hH : yH D [(h0, .inr (5, [.null, .int 0, .int 0, .int 0, .ref a8, .ref a17, .int 0, .int 0])), (a8, .inl (cI, 200, .inl (fun _ => 0))), (a17, .inl (cI, 200, .inl (fun _ => 0)))] A s H _ := hH
  exact y_vret (w1 := w1_7_X8 cI cS cW h0) C hE (fun k => ([h0, a8, a17] : List Nat).getD k 0) hH dX7_init_27
def rmC_7_X2 : Room := { frames := 1, cells := 2, slots := 400, locals := 12 }
abbrev w1_7_X2 (cI cS cW : ClassId) (h0 : Nat) (q : Nat → Nat) : va_W := [(h0, .inr (1, [.null, .int 0, .int 0, .int 0, .ref (q 1), .ref (q 2), .int 0, .null])), (q 1, .inl (cI, 200, .inl (fun _ => 0))), (q 2, .inl (cI, 200, .inl (fun _ => 0)))]
set_option maxHeartbeats 4000000 in
set_option maxRecDepth 100000 in
theorem cC_7_X2 (l : Launch) (D : va_G) (cI cS cW : ClassId) (h0 sz : Nat) : yM l yX7_init vsX7_init rmC_7_X2 [.ref h0] D [(h0, .inr (1, [.null, .int 0, .int 0, .int 0, .null, .null, .int 0, .null]))] (zyX cI cS cW) sz (w1_7_X2 cI cS cW h0) 2 400 := by
  refine Met.ofW (cc := cX7_init) (maxL := 1) (ret := none) (by decide) rfl ?_
  intro p e s m args below meth c s₁ B hml hv
  obtain ⟨rfl, rfl, hP, hK, hD0, hN⟩ := hv
  have C : zCX p s m _ meth c cX7_init 1 none zU RX7 := ⟨B.exec, B.bytes, hml, findClass_of_methodNamed B.named, fun w h => atoms_spec (ws := vsX7_init) B.pre w (List.mem_cons_of_mem _ h), B.returns, B.notSynchronized⟩
  have hx := C.1
  have hb := C.2.1
  have hts := C.2.2.2.2.1
  have hown := C.2.2.2.1
  have hin : meth.name = "<init>" := (name_of_methodNamed B.named B.method).1
  have hD := hD0.self (sz := s.heap.size)
  generalize hAe : va_A [(h0, .inr (1, [.null, .int 0, .int 0, .int 0, .null, .null, .int 0, .null]))] s.heap.size = A at hD ⊢
  have hE : yE D (zyX cI cS cW) A s := ⟨hK, fun q h => by rw [← hAe]; exact Or.inr h, hN⟩
  have hH : yH D [(h0, .inr (1, [.null, .int 0, .int 0, .int 0, .null, .null, .int 0, .null]))] A s s.heap [] := ⟨hP, hD, va_S.rf⟩
  have hl := lv_entry ([.ref h0]) (n := 1) (Nat.le_of_ble_eq_true rfl)
  rw [lg_entry_eq]
  generalize (lg_sl ([.ref h0]) ++ List.replicate (1 - (lg_sl ([.ref h0])).length) Slot.unset).toArray = ls at hl ⊢
  refine lv_aload_n hx hb dX7_init_0 rfl (lv_at hl 0 rfl) ?_
  refine y_objInit C zc0 zc1 zc2 hl.1 dX7_init_1 (Nat.le_of_ble_eq_true rfl) (Nat.le_of_ble_eq_true rfl) ?_
  refine lv_aload_n hx hb dX7_init_4 rfl (lv_at hl 0 rfl) ?_
  refine lv_sipush (v := 200) hx hb dX7_init_5 (by decide) ?_
  refine y_newi (N := 200) C hE hH zc3 0 rfl (by decide) (by decide) (by decide) (Nat.le_of_ble_eq_true rfl) (Nat.le_of_ble_eq_true rfl) dX7_init_8 (fun a8 H hH => ?_)
  have hH : yH D [(h0, .inr (1, [.null, .int 0, .int 0, .int 0, .null, .null, .int 0, .null])), (a8, .inl (cI, 200, .inl (fun _ => 0)))] A s H _ := hH
  refine W.widen (k := 1) (n := 200) (by omega) (by omega) ?_
  refine y_putF (q0 := 0) (ty := .array .int) C hE hH rfl rfl zh_X2 tyX2_ok nmX2 4 (by decide) zc4 rfl rfl hin rfl rfl rfl rfl (Nat.le_of_ble_eq_true rfl) dX7_init_10 (fun H locs hH => ?_)
  have hH : yH D [(h0, .inr (1, [.null, .int 0, .int 0, .int 0, .ref a8, .null, .int 0, .null])), (a8, .inl (cI, 200, .inl (fun _ => 0)))] A s H _ := hH
  refine lv_aload_n hx hb dX7_init_13 rfl (lv_at hl 0 rfl) ?_
  refine lv_sipush (v := 200) hx hb dX7_init_14 (by decide) ?_
  refine y_newi (N := 200) C hE hH zc3 0 rfl (by decide) (by decide) (by decide) (Nat.le_of_ble_eq_true rfl) (Nat.le_of_ble_eq_true rfl) dX7_init_17 (fun a17 H hH => ?_)
  have hH : yH D [(h0, .inr (1, [.null, .int 0, .int 0, .int 0, .ref a8, .null, .int 0, .null])), (a8, .inl (cI, 200, .inl (fun _ => 0))), (a17, .inl (cI, 200, .inl (fun _ => 0)))] A s H _ := hH
  refine W.widen (k := 2) (n := 400) (by omega) (by omega) ?_
  refine y_putF (q0 := 0) (ty := .array .int) C hE hH rfl rfl zh_X2 tyX2_ok nmX2 5 (by decide) zc5 rfl rfl hin rfl rfl rfl rfl (Nat.le_of_ble_eq_true rfl) dX7_init_19 (fun H locs hH => ?_)
  have hH : yH D [(h0, .inr (1, [.null, .int 0, .int 0, .int 0, .ref a8, .ref a17, .int 0, .null])), (a8, .inl (cI, 200, .inl (fun _ => 0))), (a17, .inl (cI, 200, .inl (fun _ => 0)))] A s H _ := hH
  refine lv_aload_n hx hb dX7_init_22 rfl (lv_at hl 0 rfl) ?_
  refine lv_iconst (v := 0) hx hb dX7_init_23 (by decide) ?_
  refine y_put (q0 := 0) (ty := .int) C hE hH rfl rfl zh_X2 tyX2_ok nmX2 6 (by decide) zc6 rfl rfl rfl rfl rfl (Nat.le_of_ble_eq_true rfl) dX7_init_24 (fun H locs hH => ?_)
  have hH : yH D [(h0, .inr (1, [.null, .int 0, .int 0, .int 0, .ref a8, .ref a17, .int 0, .null])), (a8, .inl (cI, 200, .inl (fun _ => 0))), (a17, .inl (cI, 200, .inl (fun _ => 0)))] A s H _ := hH
  exact y_vret (w1 := w1_7_X2 cI cS cW h0) C hE (fun k => ([h0, a8, a17] : List Nat).getD k 0) hH dX7_init_27
def rmC_7_X3 : Room := { frames := 1, cells := 2, slots := 400, locals := 12 }
abbrev w1_7_X3 (cI cS cW : ClassId) (h0 : Nat) (q : Nat → Nat) : va_W := [(h0, .inr (2, [.null, .int 0, .int 0, .int 0, .ref (q 1), .ref (q 2), .int 0])), (q 1, .inl (cI, 200, .inl (fun _ => 0))), (q 2, .inl (cI, 200, .inl (fun _ => 0)))]
set_option maxHeartbeats 4000000 in
set_option maxRecDepth 100000 in
theorem cC_7_X3 (l : Launch) (D : va_G) (cI cS cW : ClassId) (h0 sz : Nat) : yM l yX7_init vsX7_init rmC_7_X3 [.ref h0] D [(h0, .inr (2, [.null, .int 0, .int 0, .int 0, .null, .null, .int 0]))] (zyX cI cS cW) sz (w1_7_X3 cI cS cW h0) 2 400 := by
  refine Met.ofW (cc := cX7_init) (maxL := 1) (ret := none) (by decide) rfl ?_
  intro p e s m args below meth c s₁ B hml hv
  obtain ⟨rfl, rfl, hP, hK, hD0, hN⟩ := hv
  have C : zCX p s m _ meth c cX7_init 1 none zU RX7 := ⟨B.exec, B.bytes, hml, findClass_of_methodNamed B.named, fun w h => atoms_spec (ws := vsX7_init) B.pre w (List.mem_cons_of_mem _ h), B.returns, B.notSynchronized⟩
  have hx := C.1
  have hb := C.2.1
  have hts := C.2.2.2.2.1
  have hown := C.2.2.2.1
  have hin : meth.name = "<init>" := (name_of_methodNamed B.named B.method).1
  have hD := hD0.self (sz := s.heap.size)
  generalize hAe : va_A [(h0, .inr (2, [.null, .int 0, .int 0, .int 0, .null, .null, .int 0]))] s.heap.size = A at hD ⊢
  have hE : yE D (zyX cI cS cW) A s := ⟨hK, fun q h => by rw [← hAe]; exact Or.inr h, hN⟩
  have hH : yH D [(h0, .inr (2, [.null, .int 0, .int 0, .int 0, .null, .null, .int 0]))] A s s.heap [] := ⟨hP, hD, va_S.rf⟩
  have hl := lv_entry ([.ref h0]) (n := 1) (Nat.le_of_ble_eq_true rfl)
  rw [lg_entry_eq]
  generalize (lg_sl ([.ref h0]) ++ List.replicate (1 - (lg_sl ([.ref h0])).length) Slot.unset).toArray = ls at hl ⊢
  refine lv_aload_n hx hb dX7_init_0 rfl (lv_at hl 0 rfl) ?_
  refine y_objInit C zc0 zc1 zc2 hl.1 dX7_init_1 (Nat.le_of_ble_eq_true rfl) (Nat.le_of_ble_eq_true rfl) ?_
  refine lv_aload_n hx hb dX7_init_4 rfl (lv_at hl 0 rfl) ?_
  refine lv_sipush (v := 200) hx hb dX7_init_5 (by decide) ?_
  refine y_newi (N := 200) C hE hH zc3 0 rfl (by decide) (by decide) (by decide) (Nat.le_of_ble_eq_true rfl) (Nat.le_of_ble_eq_true rfl) dX7_init_8 (fun a8 H hH => ?_)
  have hH : yH D [(h0, .inr (2, [.null, .int 0, .int 0, .int 0, .null, .null, .int 0])), (a8, .inl (cI, 200, .inl (fun _ => 0)))] A s H _ := hH
  refine W.widen (k := 1) (n := 200) (by omega) (by omega) ?_
  refine y_putF (q0 := 0) (ty := .array .int) C hE hH rfl rfl zh_X3 tyX3_ok nmX3 4 (by decide) zc4 rfl rfl hin rfl rfl rfl rfl (Nat.le_of_ble_eq_true rfl) dX7_init_10 (fun H locs hH => ?_)
  have hH : yH D [(h0, .inr (2, [.null, .int 0, .int 0, .int 0, .ref a8, .null, .int 0])), (a8, .inl (cI, 200, .inl (fun _ => 0)))] A s H _ := hH
  refine lv_aload_n hx hb dX7_init_13 rfl (lv_at hl 0 rfl) ?_
  refine lv_sipush (v := 200) hx hb dX7_init_14 (by decide) ?_
  refine y_newi (N := 200) C hE hH zc3 0 rfl (by decide) (by decide) (by decide) (Nat.le_of_ble_eq_true rfl) (Nat.le_of_ble_eq_true rfl) dX7_init_17 (fun a17 H hH => ?_)
  have hH : yH D [(h0, .inr (2, [.null, .int 0, .int 0, .int 0, .ref a8, .null, .int 0])), (a8, .inl (cI, 200, .inl (fun _ => 0))), (a17, .inl (cI, 200, .inl (fun _ => 0)))] A s H _ := hH
  refine W.widen (k := 2) (n := 400) (by omega) (by omega) ?_
  refine y_putF (q0 := 0) (ty := .array .int) C hE hH rfl rfl zh_X3 tyX3_ok nmX3 5 (by decide) zc5 rfl rfl hin rfl rfl rfl rfl (Nat.le_of_ble_eq_true rfl) dX7_init_19 (fun H locs hH => ?_)
  have hH : yH D [(h0, .inr (2, [.null, .int 0, .int 0, .int 0, .ref a8, .ref a17, .int 0])), (a8, .inl (cI, 200, .inl (fun _ => 0))), (a17, .inl (cI, 200, .inl (fun _ => 0)))] A s H _ := hH
  refine lv_aload_n hx hb dX7_init_22 rfl (lv_at hl 0 rfl) ?_
  refine lv_iconst (v := 0) hx hb dX7_init_23 (by decide) ?_
  refine y_put (q0 := 0) (ty := .int) C hE hH rfl rfl zh_X3 tyX3_ok nmX3 6 (by decide) zc6 rfl rfl rfl rfl rfl (Nat.le_of_ble_eq_true rfl) dX7_init_24 (fun H locs hH => ?_)
  have hH : yH D [(h0, .inr (2, [.null, .int 0, .int 0, .int 0, .ref a8, .ref a17, .int 0])), (a8, .inl (cI, 200, .inl (fun _ => 0))), (a17, .inl (cI, 200, .inl (fun _ => 0)))] A s H _ := hH
  exact y_vret (w1 := w1_7_X3 cI cS cW h0) C hE (fun k => ([h0, a8, a17] : List Nat).getD k 0) hH dX7_init_27
def rmC_7_X9 : Room := { frames := 1, cells := 2, slots := 400, locals := 12 }
abbrev w1_7_X9 (cI cS cW : ClassId) (h0 : Nat) (q : Nat → Nat) : va_W := [(h0, .inr (6, [.null, .ref (q 1), .ref (q 2), .int 0, .null, .null, .int 0, .int 0, .int 0])), (q 1, .inl (cI, 200, .inl (fun _ => 0))), (q 2, .inl (cI, 200, .inl (fun _ => 0)))]
set_option maxHeartbeats 4000000 in
set_option maxRecDepth 100000 in
theorem cC_7_X9 (l : Launch) (D : va_G) (cI cS cW : ClassId) (h0 sz : Nat) : yM l yX7_init vsX7_init rmC_7_X9 [.ref h0] D [(h0, .inr (6, [.null, .null, .null, .int 0, .null, .null, .int 0, .int 0, .int 0]))] (zyX cI cS cW) sz (w1_7_X9 cI cS cW h0) 2 400 := by
  refine Met.ofW (cc := cX7_init) (maxL := 1) (ret := none) (by decide) rfl ?_
  intro p e s m args below meth c s₁ B hml hv
  obtain ⟨rfl, rfl, hP, hK, hD0, hN⟩ := hv
  have C : zCX p s m _ meth c cX7_init 1 none zU RX7 := ⟨B.exec, B.bytes, hml, findClass_of_methodNamed B.named, fun w h => atoms_spec (ws := vsX7_init) B.pre w (List.mem_cons_of_mem _ h), B.returns, B.notSynchronized⟩
  have hx := C.1
  have hb := C.2.1
  have hts := C.2.2.2.2.1
  have hown := C.2.2.2.1
  have hin : meth.name = "<init>" := (name_of_methodNamed B.named B.method).1
  have hD := hD0.self (sz := s.heap.size)
  generalize hAe : va_A [(h0, .inr (6, [.null, .null, .null, .int 0, .null, .null, .int 0, .int 0, .int 0]))] s.heap.size = A at hD ⊢
  have hE : yE D (zyX cI cS cW) A s := ⟨hK, fun q h => by rw [← hAe]; exact Or.inr h, hN⟩
  have hH : yH D [(h0, .inr (6, [.null, .null, .null, .int 0, .null, .null, .int 0, .int 0, .int 0]))] A s s.heap [] := ⟨hP, hD, va_S.rf⟩
  have hl := lv_entry ([.ref h0]) (n := 1) (Nat.le_of_ble_eq_true rfl)
  rw [lg_entry_eq]
  generalize (lg_sl ([.ref h0]) ++ List.replicate (1 - (lg_sl ([.ref h0])).length) Slot.unset).toArray = ls at hl ⊢
  refine lv_aload_n hx hb dX7_init_0 rfl (lv_at hl 0 rfl) ?_
  refine y_objInit C zc0 zc1 zc2 hl.1 dX7_init_1 (Nat.le_of_ble_eq_true rfl) (Nat.le_of_ble_eq_true rfl) ?_
  refine lv_aload_n hx hb dX7_init_4 rfl (lv_at hl 0 rfl) ?_
  refine lv_sipush (v := 200) hx hb dX7_init_5 (by decide) ?_
  refine y_newi (N := 200) C hE hH zc3 0 rfl (by decide) (by decide) (by decide) (Nat.le_of_ble_eq_true rfl) (Nat.le_of_ble_eq_true rfl) dX7_init_8 (fun a8 H hH => ?_)
  have hH : yH D [(h0, .inr (6, [.null, .null, .null, .int 0, .null, .null, .int 0, .int 0, .int 0])), (a8, .inl (cI, 200, .inl (fun _ => 0)))] A s H _ := hH
  refine W.widen (k := 1) (n := 200) (by omega) (by omega) ?_
  refine y_putF (q0 := 0) (ty := .array .int) C hE hH rfl rfl zh_X9 tyX9_ok nmX9 1 (by decide) zc4 rfl rfl hin rfl rfl rfl rfl (Nat.le_of_ble_eq_true rfl) dX7_init_10 (fun H locs hH => ?_)
  have hH : yH D [(h0, .inr (6, [.null, .ref a8, .null, .int 0, .null, .null, .int 0, .int 0, .int 0])), (a8, .inl (cI, 200, .inl (fun _ => 0)))] A s H _ := hH
  refine lv_aload_n hx hb dX7_init_13 rfl (lv_at hl 0 rfl) ?_
  refine lv_sipush (v := 200) hx hb dX7_init_14 (by decide) ?_
  refine y_newi (N := 200) C hE hH zc3 0 rfl (by decide) (by decide) (by decide) (Nat.le_of_ble_eq_true rfl) (Nat.le_of_ble_eq_true rfl) dX7_init_17 (fun a17 H hH => ?_)
  have hH : yH D [(h0, .inr (6, [.null, .ref a8, .null, .int 0, .null, .null, .int 0, .int 0, .int 0])), (a8, .inl (cI, 200, .inl (fun _ => 0))), (a17, .inl (cI, 200, .inl (fun _ => 0)))] A s H _ := hH
  refine W.widen (k := 2) (n := 400) (by omega) (by omega) ?_
  refine y_putF (q0 := 0) (ty := .array .int) C hE hH rfl rfl zh_X9 tyX9_ok nmX9 2 (by decide) zc5 rfl rfl hin rfl rfl rfl rfl (Nat.le_of_ble_eq_true rfl) dX7_init_19 (fun H locs hH => ?_)
  have hH : yH D [(h0, .inr (6, [.null, .ref a8, .ref a17, .int 0, .null, .null, .int 0, .int 0, .int 0])), (a8, .inl (cI, 200, .inl (fun _ => 0))), (a17, .inl (cI, 200, .inl (fun _ => 0)))] A s H _ := hH
  refine lv_aload_n hx hb dX7_init_22 rfl (lv_at hl 0 rfl) ?_
  refine lv_iconst (v := 0) hx hb dX7_init_23 (by decide) ?_
  refine y_put (q0 := 0) (ty := .int) C hE hH rfl rfl zh_X9 tyX9_ok nmX9 3 (by decide) zc6 rfl rfl rfl rfl rfl (Nat.le_of_ble_eq_true rfl) dX7_init_24 (fun H locs hH => ?_)
  have hH : yH D [(h0, .inr (6, [.null, .ref a8, .ref a17, .int 0, .null, .null, .int 0, .int 0, .int 0])), (a8, .inl (cI, 200, .inl (fun _ => 0))), (a17, .inl (cI, 200, .inl (fun _ => 0)))] A s H _ := hH
  exact y_vret (w1 := w1_7_X9 cI cS cW h0) C hE (fun k => ([h0, a8, a17] : List Nat).getD k 0) hH dX7_init_27
def rmC_7_X0 : Room := { frames := 1, cells := 2, slots := 400, locals := 12 }
abbrev w1_7_X0 (cI cS cW : ClassId) (h0 : Nat) (q : Nat → Nat) : va_W := [(h0, .inr (0, [.null, .ref (q 1), .ref (q 2), .int 0])), (q 1, .inl (cI, 200, .inl (fun _ => 0))), (q 2, .inl (cI, 200, .inl (fun _ => 0)))]
set_option maxHeartbeats 4000000 in
set_option maxRecDepth 100000 in
theorem cC_7_X0 (l : Launch) (D : va_G) (cI cS cW : ClassId) (h0 sz : Nat) : yM l yX7_init vsX7_init rmC_7_X0 [.ref h0] D [(h0, .inr (0, [.null, .null, .null, .int 0]))] (zyX cI cS cW) sz (w1_7_X0 cI cS cW h0) 2 400 := by
  refine Met.ofW (cc := cX7_init) (maxL := 1) (ret := none) (by decide) rfl ?_
  intro p e s m args below meth c s₁ B hml hv
  obtain ⟨rfl, rfl, hP, hK, hD0, hN⟩ := hv
  have C : zCX p s m _ meth c cX7_init 1 none zU RX7 := ⟨B.exec, B.bytes, hml, findClass_of_methodNamed B.named, fun w h => atoms_spec (ws := vsX7_init) B.pre w (List.mem_cons_of_mem _ h), B.returns, B.notSynchronized⟩
  have hx := C.1
  have hb := C.2.1
  have hts := C.2.2.2.2.1
  have hown := C.2.2.2.1
  have hin : meth.name = "<init>" := (name_of_methodNamed B.named B.method).1
  have hD := hD0.self (sz := s.heap.size)
  generalize hAe : va_A [(h0, .inr (0, [.null, .null, .null, .int 0]))] s.heap.size = A at hD ⊢
  have hE : yE D (zyX cI cS cW) A s := ⟨hK, fun q h => by rw [← hAe]; exact Or.inr h, hN⟩
  have hH : yH D [(h0, .inr (0, [.null, .null, .null, .int 0]))] A s s.heap [] := ⟨hP, hD, va_S.rf⟩
  have hl := lv_entry ([.ref h0]) (n := 1) (Nat.le_of_ble_eq_true rfl)
  rw [lg_entry_eq]
  generalize (lg_sl ([.ref h0]) ++ List.replicate (1 - (lg_sl ([.ref h0])).length) Slot.unset).toArray = ls at hl ⊢
  refine lv_aload_n hx hb dX7_init_0 rfl (lv_at hl 0 rfl) ?_
  refine y_objInit C zc0 zc1 zc2 hl.1 dX7_init_1 (Nat.le_of_ble_eq_true rfl) (Nat.le_of_ble_eq_true rfl) ?_
  refine lv_aload_n hx hb dX7_init_4 rfl (lv_at hl 0 rfl) ?_
  refine lv_sipush (v := 200) hx hb dX7_init_5 (by decide) ?_
  refine y_newi (N := 200) C hE hH zc3 0 rfl (by decide) (by decide) (by decide) (Nat.le_of_ble_eq_true rfl) (Nat.le_of_ble_eq_true rfl) dX7_init_8 (fun a8 H hH => ?_)
  have hH : yH D [(h0, .inr (0, [.null, .null, .null, .int 0])), (a8, .inl (cI, 200, .inl (fun _ => 0)))] A s H _ := hH
  refine W.widen (k := 1) (n := 200) (by omega) (by omega) ?_
  refine y_putF (q0 := 0) (ty := .array .int) C hE hH rfl rfl zh_X0 tyX0_ok nmX0 1 (by decide) zc4 rfl rfl hin rfl rfl rfl rfl (Nat.le_of_ble_eq_true rfl) dX7_init_10 (fun H locs hH => ?_)
  have hH : yH D [(h0, .inr (0, [.null, .ref a8, .null, .int 0])), (a8, .inl (cI, 200, .inl (fun _ => 0)))] A s H _ := hH
  refine lv_aload_n hx hb dX7_init_13 rfl (lv_at hl 0 rfl) ?_
  refine lv_sipush (v := 200) hx hb dX7_init_14 (by decide) ?_
  refine y_newi (N := 200) C hE hH zc3 0 rfl (by decide) (by decide) (by decide) (Nat.le_of_ble_eq_true rfl) (Nat.le_of_ble_eq_true rfl) dX7_init_17 (fun a17 H hH => ?_)
  have hH : yH D [(h0, .inr (0, [.null, .ref a8, .null, .int 0])), (a8, .inl (cI, 200, .inl (fun _ => 0))), (a17, .inl (cI, 200, .inl (fun _ => 0)))] A s H _ := hH
  refine W.widen (k := 2) (n := 400) (by omega) (by omega) ?_
  refine y_putF (q0 := 0) (ty := .array .int) C hE hH rfl rfl zh_X0 tyX0_ok nmX0 2 (by decide) zc5 rfl rfl hin rfl rfl rfl rfl (Nat.le_of_ble_eq_true rfl) dX7_init_19 (fun H locs hH => ?_)
  have hH : yH D [(h0, .inr (0, [.null, .ref a8, .ref a17, .int 0])), (a8, .inl (cI, 200, .inl (fun _ => 0))), (a17, .inl (cI, 200, .inl (fun _ => 0)))] A s H _ := hH
  refine lv_aload_n hx hb dX7_init_22 rfl (lv_at hl 0 rfl) ?_
  refine lv_iconst (v := 0) hx hb dX7_init_23 (by decide) ?_
  refine y_put (q0 := 0) (ty := .int) C hE hH rfl rfl zh_X0 tyX0_ok nmX0 3 (by decide) zc6 rfl rfl rfl rfl rfl (Nat.le_of_ble_eq_true rfl) dX7_init_24 (fun H locs hH => ?_)
  have hH : yH D [(h0, .inr (0, [.null, .ref a8, .ref a17, .int 0])), (a8, .inl (cI, 200, .inl (fun _ => 0))), (a17, .inl (cI, 200, .inl (fun _ => 0)))] A s H _ := hH
  exact y_vret (w1 := w1_7_X0 cI cS cW h0) C hE (fun k => ([h0, a8, a17] : List Nat).getD k 0) hH dX7_init_27
def vsX4_init : List Cond := .code yX4_init cX4_init 2 none :: zU
theorem yd_X4_init : yX4_init.cls ≠ "java/lang/invoke/MethodHandle" ∧ yX4_init.cls ≠ "java/lang/invoke/VarHandle" ∧ (parseMethodDescriptor yX4_init.desc).map (fun d => d.parameters.length) = some 1 := by decide +kernel
def rmC_4_X6 : Room := { frames := 2, cells := 3, slots := 600, locals := 32 }
abbrev w1_4_X6 (cI cS cW : ClassId) (h0 : Nat) (q : Nat → Nat) : va_W := [(h0, .inr (4, [.ref (q 3), .int 4, .int 4, .int 0, .ref (q 1), .ref (q 2), .int 0])), (q 1, .inl (cI, 200, .inl (fun _ => 0))), (q 2, .inl (cI, 200, .inl (fun _ => 0))), (q 3, .inl (cI, 200, .inl (fun _ => 0)))]
set_option maxHeartbeats 4000000 in
set_option maxRecDepth 100000 in
theorem cC_4_X6 (l : Launch) (D : va_G) (cI cS cW : ClassId) (h0 sz : Nat) : yM l yX4_init vsX4_init rmC_4_X6 [.ref h0, .int 4] D [(h0, .inr (4, [.null, .int 0, .int 0, .int 0, .null, .null, .int 0]))] (zyX cI cS cW) sz (w1_4_X6 cI cS cW h0) 3 600 := by
  refine Met.ofW (cc := cX4_init) (maxL := 2) (ret := none) (by decide) rfl ?_
  intro p e s m args below meth c s₁ B hml hv
  obtain ⟨rfl, rfl, hP, hK, hD0, hN⟩ := hv
  have C : zCX p s m _ meth c cX4_init 2 none zU RX4 := ⟨B.exec, B.bytes, hml, findClass_of_methodNamed B.named, fun w h => atoms_spec (ws := vsX4_init) B.pre w (List.mem_cons_of_mem _ h), B.returns, B.notSynchronized⟩
  have hx := C.1
  have hb := C.2.1
  have hts := C.2.2.2.2.1
  have hown := C.2.2.2.1
  have hin : meth.name = "<init>" := (name_of_methodNamed B.named B.method).1
  have hD := hD0.self (sz := s.heap.size)
  generalize hAe : va_A [(h0, .inr (4, [.null, .int 0, .int 0, .int 0, .null, .null, .int 0]))] s.heap.size = A at hD ⊢
  have hE : yE D (zyX cI cS cW) A s := ⟨hK, fun q h => by rw [← hAe]; exact Or.inr h, hN⟩
  have hH : yH D [(h0, .inr (4, [.null, .int 0, .int 0, .int 0, .null, .null, .int 0]))] A s s.heap [] := ⟨hP, hD, va_S.rf⟩
  have hl := lv_entry ([.ref h0, .int 4]) (n := 2) (Nat.le_of_ble_eq_true rfl)
  rw [lg_entry_eq]
  generalize (lg_sl ([.ref h0, .int 4]) ++ List.replicate (2 - (lg_sl ([.ref h0, .int 4])).length) Slot.unset).toArray = ls at hl ⊢
  refine lv_aload_n hx hb dX4_init_0 rfl (lv_at hl 0 rfl) ?_
  have hPc := hH.1.sub (ws' := [(h0, .inr (4, [.null, .int 0, .int 0, .int 0, .null, .null, .int 0]))]) [0] rfl
  have hDc := hH.2.1.sub (ws' := [(h0, .inr (4, [.null, .int 0, .int 0, .int 0, .null, .null, .int 0]))]) [0] (by decide) rfl
  refine y_call (wr := []) (w1 := w1_7_X6 cI cS cW h0) (va_runIN (As := []) (rest := []) (z_fix C) (cC_7_X6 l D cI cS cW h0 _) (⟨va_cnB 0 hts (zGc zc7) rfl rfl rfl (hE.2.2.1 _ znC_0).2 (hts _ zc8) yd_X7_init ⟨Nat.le_of_ble_eq_true rfl, Nat.le_of_ble_eq_true rfl⟩, rfl, hts _ zc9⟩) (y_preS hE hPc hDc) rfl rfl hl.1 rfl (lv_room (Nat.le_of_ble_eq_true rfl)) dX4_init_1 ⟨Nat.le_of_ble_eq_true rfl, Nat.le_of_ble_eq_true rfl⟩) hE hH [0] [] rfl rfl (by decide) (by decide) (fun r1 H locs hH => ?_)
  have hH : yH D [(h0, .inr (4, [.null, .int 0, .int 0, .int 0, .ref (r1 1), .ref (r1 2), .int 0])), (r1 1, .inl (cI, 200, .inl (fun _ => 0))), (r1 2, .inl (cI, 200, .inl (fun _ => 0)))] A s H _ := hH
  refine W.widen (k := 2) (n := 400) (by omega) (by omega) ?_
  refine lv_aload_n hx hb dX4_init_4 rfl (lv_at hl 0 rfl) ?_
  refine lv_sipush (v := 200) hx hb dX4_init_5 (by decide) ?_
  refine y_newi (N := 200) C hE hH zc3 0 rfl (by decide) (by decide) (by decide) (Nat.le_of_ble_eq_true rfl) (Nat.le_of_ble_eq_true rfl) dX4_init_8 (fun a8 H hH => ?_)
  have hH : yH D [(h0, .inr (4, [.null, .int 0, .int 0, .int 0, .ref (r1 1), .ref (r1 2), .int 0])), (r1 1, .inl (cI, 200, .inl (fun _ => 0))), (r1 2, .inl (cI, 200, .inl (fun _ => 0))), (a8, .inl (cI, 200, .inl (fun _ => 0)))] A s H _ := hH
  refine W.widen (k := 3) (n := 600) (by omega) (by omega) ?_
  refine y_putF (q0 := 0) (ty := .array .int) C hE hH rfl rfl zh_X6 tyX6_ok nmX6 0 (by decide) zc10 rfl rfl hin rfl rfl rfl rfl (Nat.le_of_ble_eq_true rfl) dX4_init_10 (fun H locs hH => ?_)
  have hH : yH D [(h0, .inr (4, [.ref a8, .int 0, .int 0, .int 0, .ref (r1 1), .ref (r1 2), .int 0])), (r1 1, .inl (cI, 200, .inl (fun _ => 0))), (r1 2, .inl (cI, 200, .inl (fun _ => 0))), (a8, .inl (cI, 200, .inl (fun _ => 0)))] A s H _ := hH
  refine lv_aload_n hx hb dX4_init_13 rfl (lv_at hl 0 rfl) ?_
  refine lv_iconst (v := 0) hx hb dX4_init_14 (by decide) ?_
  refine y_put (q0 := 0) (ty := .int) C hE hH rfl rfl zh_X6 tyX6_ok nmX6 3 (by decide) zc11 rfl rfl rfl rfl rfl (Nat.le_of_ble_eq_true rfl) dX4_init_15 (fun H locs hH => ?_)
  have hH : yH D [(h0, .inr (4, [.ref a8, .int 0, .int 0, .int 0, .ref (r1 1), .ref (r1 2), .int 0])), (r1 1, .inl (cI, 200, .inl (fun _ => 0))), (r1 2, .inl (cI, 200, .inl (fun _ => 0))), (a8, .inl (cI, 200, .inl (fun _ => 0)))] A s H _ := hH
  refine lv_aload_n hx hb dX4_init_18 rfl (lv_at hl 0 rfl) ?_
  refine lv_iload_n hx hb dX4_init_19 rfl (lv_at hl 1 rfl) ?_
  refine y_putF (q0 := 0) (ty := .int) C hE hH rfl rfl zh_X6 tyX6_ok nmX6 1 (by decide) zc12 rfl rfl hin rfl rfl rfl rfl (Nat.le_of_ble_eq_true rfl) dX4_init_20 (fun H locs hH => ?_)
  have hH : yH D [(h0, .inr (4, [.ref a8, .int 4, .int 0, .int 0, .ref (r1 1), .ref (r1 2), .int 0])), (r1 1, .inl (cI, 200, .inl (fun _ => 0))), (r1 2, .inl (cI, 200, .inl (fun _ => 0))), (a8, .inl (cI, 200, .inl (fun _ => 0)))] A s H _ := hH
  refine lv_aload_n hx hb dX4_init_23 rfl (lv_at hl 0 rfl) ?_
  refine lv_iload_n hx hb dX4_init_24 rfl (lv_at hl 1 rfl) ?_
  refine y_put (q0 := 0) (ty := .int) C hE hH rfl rfl zh_X6 tyX6_ok nmX6 2 (by decide) zc13 rfl rfl rfl rfl rfl (Nat.le_of_ble_eq_true rfl) dX4_init_25 (fun H locs hH => ?_)
  have hH : yH D [(h0, .inr (4, [.ref a8, .int 4, .int 4, .int 0, .ref (r1 1), .ref (r1 2), .int 0])), (r1 1, .inl (cI, 200, .inl (fun _ => 0))), (r1 2, .inl (cI, 200, .inl (fun _ => 0))), (a8, .inl (cI, 200, .inl (fun _ => 0)))] A s H _ := hH
  exact y_vret (w1 := w1_4_X6 cI cS cW h0) C hE (fun k => ([h0, (r1 1), (r1 2), a8] : List Nat).getD k 0) hH dX4_init_28
def rmC_4_X8 : Room := { frames := 2, cells := 3, slots := 600, locals := 32 }
abbrev w1_4_X8 (cI cS cW : ClassId) (h0 : Nat) (q : Nat → Nat) : va_W := [(h0, .inr (5, [.ref (q 3), .int 4, .int 4, .int 0, .ref (q 1), .ref (q 2), .int 0, .int 0])), (q 1, .inl (cI, 200, .inl (fun _ => 0))), (q 2, .inl (cI, 200, .inl (fun _ => 0))), (q 3, .inl (cI, 200, .inl (fun _ => 0)))]
set_option maxHeartbeats 4000000 in
set_option maxRecDepth 100000 in
theorem cC_4_X8 (l : Launch) (D : va_G) (cI cS cW : ClassId) (h0 sz : Nat) : yM l yX4_init vsX4_init rmC_4_X8 [.ref h0, .int 4] D [(h0, .inr (5, [.null, .int 0, .int 0, .int 0, .null, .null, .int 0, .int 0]))] (zyX cI cS cW) sz (w1_4_X8 cI cS cW h0) 3 600 := by
  refine Met.ofW (cc := cX4_init) (maxL := 2) (ret := none) (by decide) rfl ?_
  intro p e s m args below meth c s₁ B hml hv
  obtain ⟨rfl, rfl, hP, hK, hD0, hN⟩ := hv
  have C : zCX p s m _ meth c cX4_init 2 none zU RX4 := ⟨B.exec, B.bytes, hml, findClass_of_methodNamed B.named, fun w h => atoms_spec (ws := vsX4_init) B.pre w (List.mem_cons_of_mem _ h), B.returns, B.notSynchronized⟩
  have hx := C.1
  have hb := C.2.1
  have hts := C.2.2.2.2.1
  have hown := C.2.2.2.1
  have hin : meth.name = "<init>" := (name_of_methodNamed B.named B.method).1
  have hD := hD0.self (sz := s.heap.size)
  generalize hAe : va_A [(h0, .inr (5, [.null, .int 0, .int 0, .int 0, .null, .null, .int 0, .int 0]))] s.heap.size = A at hD ⊢
  have hE : yE D (zyX cI cS cW) A s := ⟨hK, fun q h => by rw [← hAe]; exact Or.inr h, hN⟩
  have hH : yH D [(h0, .inr (5, [.null, .int 0, .int 0, .int 0, .null, .null, .int 0, .int 0]))] A s s.heap [] := ⟨hP, hD, va_S.rf⟩
  have hl := lv_entry ([.ref h0, .int 4]) (n := 2) (Nat.le_of_ble_eq_true rfl)
  rw [lg_entry_eq]
  generalize (lg_sl ([.ref h0, .int 4]) ++ List.replicate (2 - (lg_sl ([.ref h0, .int 4])).length) Slot.unset).toArray = ls at hl ⊢
  refine lv_aload_n hx hb dX4_init_0 rfl (lv_at hl 0 rfl) ?_
  have hPc := hH.1.sub (ws' := [(h0, .inr (5, [.null, .int 0, .int 0, .int 0, .null, .null, .int 0, .int 0]))]) [0] rfl
  have hDc := hH.2.1.sub (ws' := [(h0, .inr (5, [.null, .int 0, .int 0, .int 0, .null, .null, .int 0, .int 0]))]) [0] (by decide) rfl
  refine y_call (wr := []) (w1 := w1_7_X8 cI cS cW h0) (va_runIN (As := []) (rest := []) (z_fix C) (cC_7_X8 l D cI cS cW h0 _) (⟨va_cnB 0 hts (zGc zc7) rfl rfl rfl (hE.2.2.1 _ znC_0).2 (hts _ zc8) yd_X7_init ⟨Nat.le_of_ble_eq_true rfl, Nat.le_of_ble_eq_true rfl⟩, rfl, hts _ zc9⟩) (y_preS hE hPc hDc) rfl rfl hl.1 rfl (lv_room (Nat.le_of_ble_eq_true rfl)) dX4_init_1 ⟨Nat.le_of_ble_eq_true rfl, Nat.le_of_ble_eq_true rfl⟩) hE hH [0] [] rfl rfl (by decide) (by decide) (fun r1 H locs hH => ?_)
  have hH : yH D [(h0, .inr (5, [.null, .int 0, .int 0, .int 0, .ref (r1 1), .ref (r1 2), .int 0, .int 0])), (r1 1, .inl (cI, 200, .inl (fun _ => 0))), (r1 2, .inl (cI, 200, .inl (fun _ => 0)))] A s H _ := hH
  refine W.widen (k := 2) (n := 400) (by omega) (by omega) ?_
  refine lv_aload_n hx hb dX4_init_4 rfl (lv_at hl 0 rfl) ?_
  refine lv_sipush (v := 200) hx hb dX4_init_5 (by decide) ?_
  refine y_newi (N := 200) C hE hH zc3 0 rfl (by decide) (by decide) (by decide) (Nat.le_of_ble_eq_true rfl) (Nat.le_of_ble_eq_true rfl) dX4_init_8 (fun a8 H hH => ?_)
  have hH : yH D [(h0, .inr (5, [.null, .int 0, .int 0, .int 0, .ref (r1 1), .ref (r1 2), .int 0, .int 0])), (r1 1, .inl (cI, 200, .inl (fun _ => 0))), (r1 2, .inl (cI, 200, .inl (fun _ => 0))), (a8, .inl (cI, 200, .inl (fun _ => 0)))] A s H _ := hH
  refine W.widen (k := 3) (n := 600) (by omega) (by omega) ?_
  refine y_putF (q0 := 0) (ty := .array .int) C hE hH rfl rfl zh_X8 tyX8_ok nmX8 0 (by decide) zc10 rfl rfl hin rfl rfl rfl rfl (Nat.le_of_ble_eq_true rfl) dX4_init_10 (fun H locs hH => ?_)
  have hH : yH D [(h0, .inr (5, [.ref a8, .int 0, .int 0, .int 0, .ref (r1 1), .ref (r1 2), .int 0, .int 0])), (r1 1, .inl (cI, 200, .inl (fun _ => 0))), (r1 2, .inl (cI, 200, .inl (fun _ => 0))), (a8, .inl (cI, 200, .inl (fun _ => 0)))] A s H _ := hH
  refine lv_aload_n hx hb dX4_init_13 rfl (lv_at hl 0 rfl) ?_
  refine lv_iconst (v := 0) hx hb dX4_init_14 (by decide) ?_
  refine y_put (q0 := 0) (ty := .int) C hE hH rfl rfl zh_X8 tyX8_ok nmX8 3 (by decide) zc11 rfl rfl rfl rfl rfl (Nat.le_of_ble_eq_true rfl) dX4_init_15 (fun H locs hH => ?_)
  have hH : yH D [(h0, .inr (5, [.ref a8, .int 0, .int 0, .int 0, .ref (r1 1), .ref (r1 2), .int 0, .int 0])), (r1 1, .inl (cI, 200, .inl (fun _ => 0))), (r1 2, .inl (cI, 200, .inl (fun _ => 0))), (a8, .inl (cI, 200, .inl (fun _ => 0)))] A s H _ := hH
  refine lv_aload_n hx hb dX4_init_18 rfl (lv_at hl 0 rfl) ?_
  refine lv_iload_n hx hb dX4_init_19 rfl (lv_at hl 1 rfl) ?_
  refine y_putF (q0 := 0) (ty := .int) C hE hH rfl rfl zh_X8 tyX8_ok nmX8 1 (by decide) zc12 rfl rfl hin rfl rfl rfl rfl (Nat.le_of_ble_eq_true rfl) dX4_init_20 (fun H locs hH => ?_)
  have hH : yH D [(h0, .inr (5, [.ref a8, .int 4, .int 0, .int 0, .ref (r1 1), .ref (r1 2), .int 0, .int 0])), (r1 1, .inl (cI, 200, .inl (fun _ => 0))), (r1 2, .inl (cI, 200, .inl (fun _ => 0))), (a8, .inl (cI, 200, .inl (fun _ => 0)))] A s H _ := hH
  refine lv_aload_n hx hb dX4_init_23 rfl (lv_at hl 0 rfl) ?_
  refine lv_iload_n hx hb dX4_init_24 rfl (lv_at hl 1 rfl) ?_
  refine y_put (q0 := 0) (ty := .int) C hE hH rfl rfl zh_X8 tyX8_ok nmX8 2 (by decide) zc13 rfl rfl rfl rfl rfl (Nat.le_of_ble_eq_true rfl) dX4_init_25 (fun H locs hH => ?_)
  have hH : yH D [(h0, .inr (5, [.ref a8, .int 4, .int 4, .int 0, .ref (r1 1), .ref (r1 2), .int 0, .int 0])), (r1 1, .inl (cI, 200, .inl (fun _ => 0))), (r1 2, .inl (cI, 200, .inl (fun _ => 0))), (a8, .inl (cI, 200, .inl (fun _ => 0)))] A s H _ := hH
  exact y_vret (w1 := w1_4_X8 cI cS cW h0) C hE (fun k => ([h0, (r1 1), (r1 2), a8] : List Nat).getD k 0) hH dX4_init_28
def rmC_4_X2 : Room := { frames := 2, cells := 3, slots := 600, locals := 32 }
abbrev w1_4_X2 (cI cS cW : ClassId) (h0 : Nat) (q : Nat → Nat) : va_W := [(h0, .inr (1, [.ref (q 3), .int 8, .int 8, .int 0, .ref (q 1), .ref (q 2), .int 0, .null])), (q 1, .inl (cI, 200, .inl (fun _ => 0))), (q 2, .inl (cI, 200, .inl (fun _ => 0))), (q 3, .inl (cI, 200, .inl (fun _ => 0)))]
set_option maxHeartbeats 4000000 in
set_option maxRecDepth 100000 in
theorem cC_4_X2 (l : Launch) (D : va_G) (cI cS cW : ClassId) (h0 sz : Nat) : yM l yX4_init vsX4_init rmC_4_X2 [.ref h0, .int 8] D [(h0, .inr (1, [.null, .int 0, .int 0, .int 0, .null, .null, .int 0, .null]))] (zyX cI cS cW) sz (w1_4_X2 cI cS cW h0) 3 600 := by
  refine Met.ofW (cc := cX4_init) (maxL := 2) (ret := none) (by decide) rfl ?_
  intro p e s m args below meth c s₁ B hml hv
  obtain ⟨rfl, rfl, hP, hK, hD0, hN⟩ := hv
  have C : zCX p s m _ meth c cX4_init 2 none zU RX4 := ⟨B.exec, B.bytes, hml, findClass_of_methodNamed B.named, fun w h => atoms_spec (ws := vsX4_init) B.pre w (List.mem_cons_of_mem _ h), B.returns, B.notSynchronized⟩
  have hx := C.1
  have hb := C.2.1
  have hts := C.2.2.2.2.1
  have hown := C.2.2.2.1
  have hin : meth.name = "<init>" := (name_of_methodNamed B.named B.method).1
  have hD := hD0.self (sz := s.heap.size)
  generalize hAe : va_A [(h0, .inr (1, [.null, .int 0, .int 0, .int 0, .null, .null, .int 0, .null]))] s.heap.size = A at hD ⊢
  have hE : yE D (zyX cI cS cW) A s := ⟨hK, fun q h => by rw [← hAe]; exact Or.inr h, hN⟩
  have hH : yH D [(h0, .inr (1, [.null, .int 0, .int 0, .int 0, .null, .null, .int 0, .null]))] A s s.heap [] := ⟨hP, hD, va_S.rf⟩
  have hl := lv_entry ([.ref h0, .int 8]) (n := 2) (Nat.le_of_ble_eq_true rfl)
  rw [lg_entry_eq]
  generalize (lg_sl ([.ref h0, .int 8]) ++ List.replicate (2 - (lg_sl ([.ref h0, .int 8])).length) Slot.unset).toArray = ls at hl ⊢
  refine lv_aload_n hx hb dX4_init_0 rfl (lv_at hl 0 rfl) ?_
  have hPc := hH.1.sub (ws' := [(h0, .inr (1, [.null, .int 0, .int 0, .int 0, .null, .null, .int 0, .null]))]) [0] rfl
  have hDc := hH.2.1.sub (ws' := [(h0, .inr (1, [.null, .int 0, .int 0, .int 0, .null, .null, .int 0, .null]))]) [0] (by decide) rfl
  refine y_call (wr := []) (w1 := w1_7_X2 cI cS cW h0) (va_runIN (As := []) (rest := []) (z_fix C) (cC_7_X2 l D cI cS cW h0 _) (⟨va_cnB 0 hts (zGc zc7) rfl rfl rfl (hE.2.2.1 _ znC_0).2 (hts _ zc8) yd_X7_init ⟨Nat.le_of_ble_eq_true rfl, Nat.le_of_ble_eq_true rfl⟩, rfl, hts _ zc9⟩) (y_preS hE hPc hDc) rfl rfl hl.1 rfl (lv_room (Nat.le_of_ble_eq_true rfl)) dX4_init_1 ⟨Nat.le_of_ble_eq_true rfl, Nat.le_of_ble_eq_true rfl⟩) hE hH [0] [] rfl rfl (by decide) (by decide) (fun r1 H locs hH => ?_)
  have hH : yH D [(h0, .inr (1, [.null, .int 0, .int 0, .int 0, .ref (r1 1), .ref (r1 2), .int 0, .null])), (r1 1, .inl (cI, 200, .inl (fun _ => 0))), (r1 2, .inl (cI, 200, .inl (fun _ => 0)))] A s H _ := hH
  refine W.widen (k := 2) (n := 400) (by omega) (by omega) ?_
  refine lv_aload_n hx hb dX4_init_4 rfl (lv_at hl 0 rfl) ?_
  refine lv_sipush (v := 200) hx hb dX4_init_5 (by decide) ?_
  refine y_newi (N := 200) C hE hH zc3 0 rfl (by decide) (by decide) (by decide) (Nat.le_of_ble_eq_true rfl) (Nat.le_of_ble_eq_true rfl) dX4_init_8 (fun a8 H hH => ?_)
  have hH : yH D [(h0, .inr (1, [.null, .int 0, .int 0, .int 0, .ref (r1 1), .ref (r1 2), .int 0, .null])), (r1 1, .inl (cI, 200, .inl (fun _ => 0))), (r1 2, .inl (cI, 200, .inl (fun _ => 0))), (a8, .inl (cI, 200, .inl (fun _ => 0)))] A s H _ := hH
  refine W.widen (k := 3) (n := 600) (by omega) (by omega) ?_
  refine y_putF (q0 := 0) (ty := .array .int) C hE hH rfl rfl zh_X2 tyX2_ok nmX2 0 (by decide) zc10 rfl rfl hin rfl rfl rfl rfl (Nat.le_of_ble_eq_true rfl) dX4_init_10 (fun H locs hH => ?_)
  have hH : yH D [(h0, .inr (1, [.ref a8, .int 0, .int 0, .int 0, .ref (r1 1), .ref (r1 2), .int 0, .null])), (r1 1, .inl (cI, 200, .inl (fun _ => 0))), (r1 2, .inl (cI, 200, .inl (fun _ => 0))), (a8, .inl (cI, 200, .inl (fun _ => 0)))] A s H _ := hH
  refine lv_aload_n hx hb dX4_init_13 rfl (lv_at hl 0 rfl) ?_
  refine lv_iconst (v := 0) hx hb dX4_init_14 (by decide) ?_
  refine y_put (q0 := 0) (ty := .int) C hE hH rfl rfl zh_X2 tyX2_ok nmX2 3 (by decide) zc11 rfl rfl rfl rfl rfl (Nat.le_of_ble_eq_true rfl) dX4_init_15 (fun H locs hH => ?_)
  have hH : yH D [(h0, .inr (1, [.ref a8, .int 0, .int 0, .int 0, .ref (r1 1), .ref (r1 2), .int 0, .null])), (r1 1, .inl (cI, 200, .inl (fun _ => 0))), (r1 2, .inl (cI, 200, .inl (fun _ => 0))), (a8, .inl (cI, 200, .inl (fun _ => 0)))] A s H _ := hH
  refine lv_aload_n hx hb dX4_init_18 rfl (lv_at hl 0 rfl) ?_
  refine lv_iload_n hx hb dX4_init_19 rfl (lv_at hl 1 rfl) ?_
  refine y_putF (q0 := 0) (ty := .int) C hE hH rfl rfl zh_X2 tyX2_ok nmX2 1 (by decide) zc12 rfl rfl hin rfl rfl rfl rfl (Nat.le_of_ble_eq_true rfl) dX4_init_20 (fun H locs hH => ?_)
  have hH : yH D [(h0, .inr (1, [.ref a8, .int 8, .int 0, .int 0, .ref (r1 1), .ref (r1 2), .int 0, .null])), (r1 1, .inl (cI, 200, .inl (fun _ => 0))), (r1 2, .inl (cI, 200, .inl (fun _ => 0))), (a8, .inl (cI, 200, .inl (fun _ => 0)))] A s H _ := hH
  refine lv_aload_n hx hb dX4_init_23 rfl (lv_at hl 0 rfl) ?_
  refine lv_iload_n hx hb dX4_init_24 rfl (lv_at hl 1 rfl) ?_
  refine y_put (q0 := 0) (ty := .int) C hE hH rfl rfl zh_X2 tyX2_ok nmX2 2 (by decide) zc13 rfl rfl rfl rfl rfl (Nat.le_of_ble_eq_true rfl) dX4_init_25 (fun H locs hH => ?_)
  have hH : yH D [(h0, .inr (1, [.ref a8, .int 8, .int 8, .int 0, .ref (r1 1), .ref (r1 2), .int 0, .null])), (r1 1, .inl (cI, 200, .inl (fun _ => 0))), (r1 2, .inl (cI, 200, .inl (fun _ => 0))), (a8, .inl (cI, 200, .inl (fun _ => 0)))] A s H _ := hH
  exact y_vret (w1 := w1_4_X2 cI cS cW h0) C hE (fun k => ([h0, (r1 1), (r1 2), a8] : List Nat).getD k 0) hH dX4_init_28
def rmC_4_X3 : Room := { frames := 2, cells := 3, slots := 600, locals := 32 }
abbrev w1_4_X3 (cI cS cW : ClassId) (h0 : Nat) (q : Nat → Nat) : va_W := [(h0, .inr (2, [.ref (q 3), .int 4, .int 4, .int 0, .ref (q 1), .ref (q 2), .int 0])), (q 1, .inl (cI, 200, .inl (fun _ => 0))), (q 2, .inl (cI, 200, .inl (fun _ => 0))), (q 3, .inl (cI, 200, .inl (fun _ => 0)))]
set_option maxHeartbeats 4000000 in
set_option maxRecDepth 100000 in
theorem cC_4_X3 (l : Launch) (D : va_G) (cI cS cW : ClassId) (h0 sz : Nat) : yM l yX4_init vsX4_init rmC_4_X3 [.ref h0, .int 4] D [(h0, .inr (2, [.null, .int 0, .int 0, .int 0, .null, .null, .int 0]))] (zyX cI cS cW) sz (w1_4_X3 cI cS cW h0) 3 600 := by
  refine Met.ofW (cc := cX4_init) (maxL := 2) (ret := none) (by decide) rfl ?_
  intro p e s m args below meth c s₁ B hml hv
  obtain ⟨rfl, rfl, hP, hK, hD0, hN⟩ := hv
  have C : zCX p s m _ meth c cX4_init 2 none zU RX4 := ⟨B.exec, B.bytes, hml, findClass_of_methodNamed B.named, fun w h => atoms_spec (ws := vsX4_init) B.pre w (List.mem_cons_of_mem _ h), B.returns, B.notSynchronized⟩
  have hx := C.1
  have hb := C.2.1
  have hts := C.2.2.2.2.1
  have hown := C.2.2.2.1
  have hin : meth.name = "<init>" := (name_of_methodNamed B.named B.method).1
  have hD := hD0.self (sz := s.heap.size)
  generalize hAe : va_A [(h0, .inr (2, [.null, .int 0, .int 0, .int 0, .null, .null, .int 0]))] s.heap.size = A at hD ⊢
  have hE : yE D (zyX cI cS cW) A s := ⟨hK, fun q h => by rw [← hAe]; exact Or.inr h, hN⟩
  have hH : yH D [(h0, .inr (2, [.null, .int 0, .int 0, .int 0, .null, .null, .int 0]))] A s s.heap [] := ⟨hP, hD, va_S.rf⟩
  have hl := lv_entry ([.ref h0, .int 4]) (n := 2) (Nat.le_of_ble_eq_true rfl)
  rw [lg_entry_eq]
  generalize (lg_sl ([.ref h0, .int 4]) ++ List.replicate (2 - (lg_sl ([.ref h0, .int 4])).length) Slot.unset).toArray = ls at hl ⊢
  refine lv_aload_n hx hb dX4_init_0 rfl (lv_at hl 0 rfl) ?_
  have hPc := hH.1.sub (ws' := [(h0, .inr (2, [.null, .int 0, .int 0, .int 0, .null, .null, .int 0]))]) [0] rfl
  have hDc := hH.2.1.sub (ws' := [(h0, .inr (2, [.null, .int 0, .int 0, .int 0, .null, .null, .int 0]))]) [0] (by decide) rfl
  refine y_call (wr := []) (w1 := w1_7_X3 cI cS cW h0) (va_runIN (As := []) (rest := []) (z_fix C) (cC_7_X3 l D cI cS cW h0 _) (⟨va_cnB 0 hts (zGc zc7) rfl rfl rfl (hE.2.2.1 _ znC_0).2 (hts _ zc8) yd_X7_init ⟨Nat.le_of_ble_eq_true rfl, Nat.le_of_ble_eq_true rfl⟩, rfl, hts _ zc9⟩) (y_preS hE hPc hDc) rfl rfl hl.1 rfl (lv_room (Nat.le_of_ble_eq_true rfl)) dX4_init_1 ⟨Nat.le_of_ble_eq_true rfl, Nat.le_of_ble_eq_true rfl⟩) hE hH [0] [] rfl rfl (by decide) (by decide) (fun r1 H locs hH => ?_)
  have hH : yH D [(h0, .inr (2, [.null, .int 0, .int 0, .int 0, .ref (r1 1), .ref (r1 2), .int 0])), (r1 1, .inl (cI, 200, .inl (fun _ => 0))), (r1 2, .inl (cI, 200, .inl (fun _ => 0)))] A s H _ := hH
  refine W.widen (k := 2) (n := 400) (by omega) (by omega) ?_
  refine lv_aload_n hx hb dX4_init_4 rfl (lv_at hl 0 rfl) ?_
  refine lv_sipush (v := 200) hx hb dX4_init_5 (by decide) ?_
  refine y_newi (N := 200) C hE hH zc3 0 rfl (by decide) (by decide) (by decide) (Nat.le_of_ble_eq_true rfl) (Nat.le_of_ble_eq_true rfl) dX4_init_8 (fun a8 H hH => ?_)
  have hH : yH D [(h0, .inr (2, [.null, .int 0, .int 0, .int 0, .ref (r1 1), .ref (r1 2), .int 0])), (r1 1, .inl (cI, 200, .inl (fun _ => 0))), (r1 2, .inl (cI, 200, .inl (fun _ => 0))), (a8, .inl (cI, 200, .inl (fun _ => 0)))] A s H _ := hH
  refine W.widen (k := 3) (n := 600) (by omega) (by omega) ?_
  refine y_putF (q0 := 0) (ty := .array .int) C hE hH rfl rfl zh_X3 tyX3_ok nmX3 0 (by decide) zc10 rfl rfl hin rfl rfl rfl rfl (Nat.le_of_ble_eq_true rfl) dX4_init_10 (fun H locs hH => ?_)
  have hH : yH D [(h0, .inr (2, [.ref a8, .int 0, .int 0, .int 0, .ref (r1 1), .ref (r1 2), .int 0])), (r1 1, .inl (cI, 200, .inl (fun _ => 0))), (r1 2, .inl (cI, 200, .inl (fun _ => 0))), (a8, .inl (cI, 200, .inl (fun _ => 0)))] A s H _ := hH
  refine lv_aload_n hx hb dX4_init_13 rfl (lv_at hl 0 rfl) ?_
  refine lv_iconst (v := 0) hx hb dX4_init_14 (by decide) ?_
  refine y_put (q0 := 0) (ty := .int) C hE hH rfl rfl zh_X3 tyX3_ok nmX3 3 (by decide) zc11 rfl rfl rfl rfl rfl (Nat.le_of_ble_eq_true rfl) dX4_init_15 (fun H locs hH => ?_)
  have hH : yH D [(h0, .inr (2, [.ref a8, .int 0, .int 0, .int 0, .ref (r1 1), .ref (r1 2), .int 0])), (r1 1, .inl (cI, 200, .inl (fun _ => 0))), (r1 2, .inl (cI, 200, .inl (fun _ => 0))), (a8, .inl (cI, 200, .inl (fun _ => 0)))] A s H _ := hH
  refine lv_aload_n hx hb dX4_init_18 rfl (lv_at hl 0 rfl) ?_
  refine lv_iload_n hx hb dX4_init_19 rfl (lv_at hl 1 rfl) ?_
  refine y_putF (q0 := 0) (ty := .int) C hE hH rfl rfl zh_X3 tyX3_ok nmX3 1 (by decide) zc12 rfl rfl hin rfl rfl rfl rfl (Nat.le_of_ble_eq_true rfl) dX4_init_20 (fun H locs hH => ?_)
  have hH : yH D [(h0, .inr (2, [.ref a8, .int 4, .int 0, .int 0, .ref (r1 1), .ref (r1 2), .int 0])), (r1 1, .inl (cI, 200, .inl (fun _ => 0))), (r1 2, .inl (cI, 200, .inl (fun _ => 0))), (a8, .inl (cI, 200, .inl (fun _ => 0)))] A s H _ := hH
  refine lv_aload_n hx hb dX4_init_23 rfl (lv_at hl 0 rfl) ?_
  refine lv_iload_n hx hb dX4_init_24 rfl (lv_at hl 1 rfl) ?_
  refine y_put (q0 := 0) (ty := .int) C hE hH rfl rfl zh_X3 tyX3_ok nmX3 2 (by decide) zc13 rfl rfl rfl rfl rfl (Nat.le_of_ble_eq_true rfl) dX4_init_25 (fun H locs hH => ?_)
  have hH : yH D [(h0, .inr (2, [.ref a8, .int 4, .int 4, .int 0, .ref (r1 1), .ref (r1 2), .int 0])), (r1 1, .inl (cI, 200, .inl (fun _ => 0))), (r1 2, .inl (cI, 200, .inl (fun _ => 0))), (a8, .inl (cI, 200, .inl (fun _ => 0)))] A s H _ := hH
  exact y_vret (w1 := w1_4_X3 cI cS cW h0) C hE (fun k => ([h0, (r1 1), (r1 2), a8] : List Nat).getD k 0) hH dX4_init_28
def vsX1_init : List Cond := .code yX1_init cX1_init 1 none :: zU
theorem yd_X1_init : yX1_init.cls ≠ "java/lang/invoke/MethodHandle" ∧ yX1_init.cls ≠ "java/lang/invoke/VarHandle" ∧ (parseMethodDescriptor yX1_init.desc).map (fun d => d.parameters.length) = some 0 := by decide +kernel
def rmC_1_X9 : Room := { frames := 2, cells := 3, slots := 464, locals := 32 }
abbrev w1_1_X9 (cI cS cW : ClassId) (h0 : Nat) (q : Nat → Nat) : va_W := [(h0, .inr (6, [.ref (q 3), .ref (q 1), .ref (q 2), .int 0, .null, .null, .int 0, .int 0, .int 0])), (q 1, .inl (cI, 200, .inl (fun _ => 0))), (q 2, .inl (cI, 200, .inl (fun _ => 0))), (q 3, .inl (cI, 64, .inl (fun _ => 0)))]
set_option maxHeartbeats 4000000 in
set_option maxRecDepth 100000 in
theorem cC_1_X9 (l : Launch) (D : va_G) (cI cS cW : ClassId) (h0 sz : Nat) : yM l yX1_init vsX1_init rmC_1_X9 [.ref h0] D [(h0, .inr (6, [.null, .null, .null, .int 0, .null, .null, .int 0, .int 0, .int 0]))] (zyX cI cS cW) sz (w1_1_X9 cI cS cW h0) 3 464 := by
  refine Met.ofW (cc := cX1_init) (maxL := 1) (ret := none) (by decide) rfl ?_
  intro p e s m args below meth c s₁ B hml hv
  obtain ⟨rfl, rfl, hP, hK, hD0, hN⟩ := hv
  have C : zCX p s m _ meth c cX1_init 1 none zU RX1 := ⟨B.exec, B.bytes, hml, findClass_of_methodNamed B.named, fun w h => atoms_spec (ws := vsX1_init) B.pre w (List.mem_cons_of_mem _ h), B.returns, B.notSynchronized⟩
  have hx := C.1
  have hb := C.2.1
  have hts := C.2.2.2.2.1
  have hown := C.2.2.2.1
  have hin : meth.name = "<init>" := (name_of_methodNamed B.named B.method).1
  have hD := hD0.self (sz := s.heap.size)
  generalize hAe : va_A [(h0, .inr (6, [.null, .null, .null, .int 0, .null, .null, .int 0, .int 0, .int 0]))] s.heap.size = A at hD ⊢
  have hE : yE D (zyX cI cS cW) A s := ⟨hK, fun q h => by rw [← hAe]; exact Or.inr h, hN⟩
  have hH : yH D [(h0, .inr (6, [.null, .null, .null, .int 0, .null, .null, .int 0, .int 0, .int 0]))] A s s.heap [] := ⟨hP, hD, va_S.rf⟩
  have hl := lv_entry ([.ref h0]) (n := 1) (Nat.le_of_ble_eq_true rfl)
  rw [lg_entry_eq]
  generalize (lg_sl ([.ref h0]) ++ List.replicate (1 - (lg_sl ([.ref h0])).length) Slot.unset).toArray = ls at hl ⊢
  refine lv_aload_n hx hb dX1_init_0 rfl (lv_at hl 0 rfl) ?_
  have hPc := hH.1.sub (ws' := [(h0, .inr (6, [.null, .null, .null, .int 0, .null, .null, .int 0, .int 0, .int 0]))]) [0] rfl
  have hDc := hH.2.1.sub (ws' := [(h0, .inr (6, [.null, .null, .null, .int 0, .null, .null, .int 0, .int 0, .int 0]))]) [0] (by decide) rfl
  refine y_call (wr := []) (w1 := w1_7_X9 cI cS cW h0) (va_runIN (As := []) (rest := []) (z_fix C) (cC_7_X9 l D cI cS cW h0 _) (⟨va_cnB 0 hts (zGc zc7) rfl rfl rfl (hE.2.2.1 _ znC_1).2 (hts _ zc8) yd_X7_init ⟨Nat.le_of_ble_eq_true rfl, Nat.le_of_ble_eq_true rfl⟩, rfl, hts _ zc9⟩) (y_preS hE hPc hDc) rfl rfl hl.1 rfl (lv_room (Nat.le_of_ble_eq_true rfl)) dX1_init_1 ⟨Nat.le_of_ble_eq_true rfl, Nat.le_of_ble_eq_true rfl⟩) hE hH [0] [] rfl rfl (by decide) (by decide) (fun r1 H locs hH => ?_)
  have hH : yH D [(h0, .inr (6, [.null, .ref (r1 1), .ref (r1 2), .int 0, .null, .null, .int 0, .int 0, .int 0])), (r1 1, .inl (cI, 200, .inl (fun _ => 0))), (r1 2, .inl (cI, 200, .inl (fun _ => 0)))] A s H _ := hH
  refine W.widen (k := 2) (n := 400) (by omega) (by omega) ?_
  refine lv_aload_n hx hb dX1_init_4 rfl (lv_at hl 0 rfl) ?_
  refine lv_bipush (v := 64) hx hb dX1_init_5 (by decide) ?_
  refine y_newi (N := 64) C hE hH zc3 0 rfl (by decide) (by decide) (by decide) (Nat.le_of_ble_eq_true rfl) (Nat.le_of_ble_eq_true rfl) dX1_init_7 (fun a7 H hH => ?_)
  have hH : yH D [(h0, .inr (6, [.null, .ref (r1 1), .ref (r1 2), .int 0, .null, .null, .int 0, .int 0, .int 0])), (r1 1, .inl (cI, 200, .inl (fun _ => 0))), (r1 2, .inl (cI, 200, .inl (fun _ => 0))), (a7, .inl (cI, 64, .inl (fun _ => 0)))] A s H _ := hH
  refine W.widen (k := 3) (n := 464) (by omega) (by omega) ?_
  refine y_putF (q0 := 0) (ty := .array .int) C hE hH rfl rfl zh_X9 tyX9_ok nmX9 0 (by decide) zc14 rfl rfl hin rfl rfl rfl rfl (Nat.le_of_ble_eq_true rfl) dX1_init_9 (fun H locs hH => ?_)
  have hH : yH D [(h0, .inr (6, [.ref a7, .ref (r1 1), .ref (r1 2), .int 0, .null, .null, .int 0, .int 0, .int 0])), (r1 1, .inl (cI, 200, .inl (fun _ => 0))), (r1 2, .inl (cI, 200, .inl (fun _ => 0))), (a7, .inl (cI, 64, .inl (fun _ => 0)))] A s H _ := hH
  exact y_vret (w1 := w1_1_X9 cI cS cW h0) C hE (fun k => ([h0, (r1 1), (r1 2), a7] : List Nat).getD k 0) hH dX1_init_12
def rmC_1_X0 : Room := { frames := 2, cells := 3, slots := 464, locals := 32 }
abbrev w1_1_X0 (cI cS cW : ClassId) (h0 : Nat) (q : Nat → Nat) : va_W := [(h0, .inr (0, [.ref (q 3), .ref (q 1), .ref (q 2), .int 0])), (q 1, .inl (cI, 200, .inl (fun _ => 0))), (q 2, .inl (cI, 200, .inl (fun _ => 0))), (q 3, .inl (cI, 64, .inl (fun _ => 0)))]
set_option maxHeartbeats 4000000 in
set_option maxRecDepth 100000 in
theorem cC_1_X0 (l : Launch) (D : va_G) (cI cS cW : ClassId) (h0 sz : Nat) : yM l yX1_init vsX1_init rmC_1_X0 [.ref h0] D [(h0, .inr (0, [.null, .null, .null, .int 0]))] (zyX cI cS cW) sz (w1_1_X0 cI cS cW h0) 3 464 := by
  refine Met.ofW (cc := cX1_init) (maxL := 1) (ret := none) (by decide) rfl ?_
  intro p e s m args below meth c s₁ B hml hv
  obtain ⟨rfl, rfl, hP, hK, hD0, hN⟩ := hv
  have C : zCX p s m _ meth c cX1_init 1 none zU RX1 := ⟨B.exec, B.bytes, hml, findClass_of_methodNamed B.named, fun w h => atoms_spec (ws := vsX1_init) B.pre w (List.mem_cons_of_mem _ h), B.returns, B.notSynchronized⟩
  have hx := C.1
  have hb := C.2.1
  have hts := C.2.2.2.2.1
  have hown := C.2.2.2.1
  have hin : meth.name = "<init>" := (name_of_methodNamed B.named B.method).1
  have hD := hD0.self (sz := s.heap.size)
  generalize hAe : va_A [(h0, .inr (0, [.null, .null, .null, .int 0]))] s.heap.size = A at hD ⊢
  have hE : yE D (zyX cI cS cW) A s := ⟨hK, fun q h => by rw [← hAe]; exact Or.inr h, hN⟩
  have hH : yH D [(h0, .inr (0, [.null, .null, .null, .int 0]))] A s s.heap [] := ⟨hP, hD, va_S.rf⟩
  have hl := lv_entry ([.ref h0]) (n := 1) (Nat.le_of_ble_eq_true rfl)
  rw [lg_entry_eq]
  generalize (lg_sl ([.ref h0]) ++ List.replicate (1 - (lg_sl ([.ref h0])).length) Slot.unset).toArray = ls at hl ⊢
  refine lv_aload_n hx hb dX1_init_0 rfl (lv_at hl 0 rfl) ?_
  have hPc := hH.1.sub (ws' := [(h0, .inr (0, [.null, .null, .null, .int 0]))]) [0] rfl
  have hDc := hH.2.1.sub (ws' := [(h0, .inr (0, [.null, .null, .null, .int 0]))]) [0] (by decide) rfl
  refine y_call (wr := []) (w1 := w1_7_X0 cI cS cW h0) (va_runIN (As := []) (rest := []) (z_fix C) (cC_7_X0 l D cI cS cW h0 _) (⟨va_cnB 0 hts (zGc zc7) rfl rfl rfl (hE.2.2.1 _ znC_1).2 (hts _ zc8) yd_X7_init ⟨Nat.le_of_ble_eq_true rfl, Nat.le_of_ble_eq_true rfl⟩, rfl, hts _ zc9⟩) (y_preS hE hPc hDc) rfl rfl hl.1 rfl (lv_room (Nat.le_of_ble_eq_true rfl)) dX1_init_1 ⟨Nat.le_of_ble_eq_true rfl, Nat.le_of_ble_eq_true rfl⟩) hE hH [0] [] rfl rfl (by decide) (by decide) (fun r1 H locs hH => ?_)
  have hH : yH D [(h0, .inr (0, [.null, .ref (r1 1), .ref (r1 2), .int 0])), (r1 1, .inl (cI, 200, .inl (fun _ => 0))), (r1 2, .inl (cI, 200, .inl (fun _ => 0)))] A s H _ := hH
  refine W.widen (k := 2) (n := 400) (by omega) (by omega) ?_
  refine lv_aload_n hx hb dX1_init_4 rfl (lv_at hl 0 rfl) ?_
  refine lv_bipush (v := 64) hx hb dX1_init_5 (by decide) ?_
  refine y_newi (N := 64) C hE hH zc3 0 rfl (by decide) (by decide) (by decide) (Nat.le_of_ble_eq_true rfl) (Nat.le_of_ble_eq_true rfl) dX1_init_7 (fun a7 H hH => ?_)
  have hH : yH D [(h0, .inr (0, [.null, .ref (r1 1), .ref (r1 2), .int 0])), (r1 1, .inl (cI, 200, .inl (fun _ => 0))), (r1 2, .inl (cI, 200, .inl (fun _ => 0))), (a7, .inl (cI, 64, .inl (fun _ => 0)))] A s H _ := hH
  refine W.widen (k := 3) (n := 464) (by omega) (by omega) ?_
  refine y_putF (q0 := 0) (ty := .array .int) C hE hH rfl rfl zh_X0 tyX0_ok nmX0 0 (by decide) zc14 rfl rfl hin rfl rfl rfl rfl (Nat.le_of_ble_eq_true rfl) dX1_init_9 (fun H locs hH => ?_)
  have hH : yH D [(h0, .inr (0, [.ref a7, .ref (r1 1), .ref (r1 2), .int 0])), (r1 1, .inl (cI, 200, .inl (fun _ => 0))), (r1 2, .inl (cI, 200, .inl (fun _ => 0))), (a7, .inl (cI, 64, .inl (fun _ => 0)))] A s H _ := hH
  exact y_vret (w1 := w1_1_X0 cI cS cW h0) C hE (fun k => ([h0, (r1 1), (r1 2), a7] : List Nat).getD k 0) hH dX1_init_12
def vsX6_init : List Cond := .code yX6_init cX6_init 1 none :: zU
theorem yd_X6_init : yX6_init.cls ≠ "java/lang/invoke/MethodHandle" ∧ yX6_init.cls ≠ "java/lang/invoke/VarHandle" ∧ (parseMethodDescriptor yX6_init.desc).map (fun d => d.parameters.length) = some 0 := by decide +kernel
def rmC_X6 : Room := { frames := 3, cells := 3, slots := 600, locals := 53 }
abbrev w1_X6 (cI cS cW : ClassId) (h0 : Nat) (q : Nat → Nat) : va_W := [(h0, .inr (4, [.ref (q 3), .int 4, .int 4, .int 0, .ref (q 1), .ref (q 2), .int 0])), (q 1, .inl (cI, 200, .inl (fun _ => 0))), (q 2, .inl (cI, 200, .inl (fun _ => 0))), (q 3, .inl (cI, 200, .inl (fun _ => 0)))]
set_option maxHeartbeats 4000000 in
set_option maxRecDepth 100000 in
theorem cC_X6 (l : Launch) (D : va_G) (cI cS cW : ClassId) (h0 sz : Nat) : yM l yX6_init vsX6_init rmC_X6 [.ref h0] D [(h0, .inr (4, [.null, .int 0, .int 0, .int 0, .null, .null, .int 0]))] (zyX cI cS cW) sz (w1_X6 cI cS cW h0) 3 600 := by
  refine Met.ofW (cc := cX6_init) (maxL := 1) (ret := none) (by decide) rfl ?_
  intro p e s m args below meth c s₁ B hml hv
  obtain ⟨rfl, rfl, hP, hK, hD0, hN⟩ := hv
  have C : zCX p s m _ meth c cX6_init 1 none zU RX6 := ⟨B.exec, B.bytes, hml, findClass_of_methodNamed B.named, fun w h => atoms_spec (ws := vsX6_init) B.pre w (List.mem_cons_of_mem _ h), B.returns, B.notSynchronized⟩
  have hx := C.1
  have hb := C.2.1
  have hts := C.2.2.2.2.1
  have hown := C.2.2.2.1
  have hin : meth.name = "<init>" := (name_of_methodNamed B.named B.method).1
  have hD := hD0.self (sz := s.heap.size)
  generalize hAe : va_A [(h0, .inr (4, [.null, .int 0, .int 0, .int 0, .null, .null, .int 0]))] s.heap.size = A at hD ⊢
  have hE : yE D (zyX cI cS cW) A s := ⟨hK, fun q h => by rw [← hAe]; exact Or.inr h, hN⟩
  have hH : yH D [(h0, .inr (4, [.null, .int 0, .int 0, .int 0, .null, .null, .int 0]))] A s s.heap [] := ⟨hP, hD, va_S.rf⟩
  have hl := lv_entry ([.ref h0]) (n := 1) (Nat.le_of_ble_eq_true rfl)
  rw [lg_entry_eq]
  generalize (lg_sl ([.ref h0]) ++ List.replicate (1 - (lg_sl ([.ref h0])).length) Slot.unset).toArray = ls at hl ⊢
  refine lv_aload_n hx hb dX6_init_0 rfl (lv_at hl 0 rfl) ?_
  refine lv_iconst (v := 4) hx hb dX6_init_1 (by decide) ?_
  have hPc := hH.1.sub (ws' := [(h0, .inr (4, [.null, .int 0, .int 0, .int 0, .null, .null, .int 0]))]) [0] rfl
  have hDc := hH.2.1.sub (ws' := [(h0, .inr (4, [.null, .int 0, .int 0, .int 0, .null, .null, .int 0]))]) [0] (by decide) rfl
  refine y_call (wr := []) (w1 := w1_4_X6 cI cS cW h0) (va_runI (As := [.int 4]) (rest := []) (z_fix C) (cC_4_X6 l D cI cS cW h0 _) (cwI 1 hts (zGc zc15) rfl rfl rfl (hts _ zc16) (hts _ zc17) (hts _ zc18) rfl yd_X4_init ⟨Nat.le_of_ble_eq_true rfl, Nat.le_of_ble_eq_true rfl⟩) (y_preS hE hPc hDc) rfl rfl hl.1 rfl (lv_room (Nat.le_of_ble_eq_true rfl)) dX6_init_2 ⟨Nat.le_of_ble_eq_true rfl, Nat.le_of_ble_eq_true rfl⟩) hE hH [0] [] rfl rfl (by decide) (by decide) (fun r2 H locs hH => ?_)
  have hH : yH D [(h0, .inr (4, [.ref (r2 3), .int 4, .int 4, .int 0, .ref (r2 1), .ref (r2 2), .int 0])), (r2 1, .inl (cI, 200, .inl (fun _ => 0))), (r2 2, .inl (cI, 200, .inl (fun _ => 0))), (r2 3, .inl (cI, 200, .inl (fun _ => 0)))] A s H _ := hH
  refine W.widen (k := 3) (n := 600) (by omega) (by omega) ?_
  exact y_vret (w1 := w1_X6 cI cS cW h0) C hE (fun k => ([h0, (r2 1), (r2 2), (r2 3)] : List Nat).getD k 0) hH dX6_init_5
def vsX8_init : List Cond := .code yX8_init cX8_init 1 none :: zU
theorem yd_X8_init : yX8_init.cls ≠ "java/lang/invoke/MethodHandle" ∧ yX8_init.cls ≠ "java/lang/invoke/VarHandle" ∧ (parseMethodDescriptor yX8_init.desc).map (fun d => d.parameters.length) = some 0 := by decide +kernel
def rmC_X8 : Room := { frames := 3, cells := 3, slots := 600, locals := 53 }
abbrev w1_X8 (cI cS cW : ClassId) (h0 : Nat) (q : Nat → Nat) : va_W := [(h0, .inr (5, [.ref (q 3), .int 4, .int 4, .int 0, .ref (q 1), .ref (q 2), .int 0, .int 0])), (q 1, .inl (cI, 200, .inl (fun _ => 0))), (q 2, .inl (cI, 200, .inl (fun _ => 0))), (q 3, .inl (cI, 200, .inl (fun _ => 0)))]
set_option maxHeartbeats 4000000 in
set_option maxRecDepth 100000 in
theorem cC_X8 (l : Launch) (D : va_G) (cI cS cW : ClassId) (h0 sz : Nat) : yM l yX8_init vsX8_init rmC_X8 [.ref h0] D [(h0, .inr (5, [.null, .int 0, .int 0, .int 0, .null, .null, .int 0, .int 0]))] (zyX cI cS cW) sz (w1_X8 cI cS cW h0) 3 600 := by
  refine Met.ofW (cc := cX8_init) (maxL := 1) (ret := none) (by decide) rfl ?_
  intro p e s m args below meth c s₁ B hml hv
  obtain ⟨rfl, rfl, hP, hK, hD0, hN⟩ := hv
  have C : zCX p s m _ meth c cX8_init 1 none zU RX8 := ⟨B.exec, B.bytes, hml, findClass_of_methodNamed B.named, fun w h => atoms_spec (ws := vsX8_init) B.pre w (List.mem_cons_of_mem _ h), B.returns, B.notSynchronized⟩
  have hx := C.1
  have hb := C.2.1
  have hts := C.2.2.2.2.1
  have hown := C.2.2.2.1
  have hin : meth.name = "<init>" := (name_of_methodNamed B.named B.method).1
  have hD := hD0.self (sz := s.heap.size)
  generalize hAe : va_A [(h0, .inr (5, [.null, .int 0, .int 0, .int 0, .null, .null, .int 0, .int 0]))] s.heap.size = A at hD ⊢
  have hE : yE D (zyX cI cS cW) A s := ⟨hK, fun q h => by rw [← hAe]; exact Or.inr h, hN⟩
  have hH : yH D [(h0, .inr (5, [.null, .int 0, .int 0, .int 0, .null, .null, .int 0, .int 0]))] A s s.heap [] := ⟨hP, hD, va_S.rf⟩
  have hl := lv_entry ([.ref h0]) (n := 1) (Nat.le_of_ble_eq_true rfl)
  rw [lg_entry_eq]
  generalize (lg_sl ([.ref h0]) ++ List.replicate (1 - (lg_sl ([.ref h0])).length) Slot.unset).toArray = ls at hl ⊢
  refine lv_aload_n hx hb dX8_init_0 rfl (lv_at hl 0 rfl) ?_
  refine lv_iconst (v := 4) hx hb dX8_init_1 (by decide) ?_
  have hPc := hH.1.sub (ws' := [(h0, .inr (5, [.null, .int 0, .int 0, .int 0, .null, .null, .int 0, .int 0]))]) [0] rfl
  have hDc := hH.2.1.sub (ws' := [(h0, .inr (5, [.null, .int 0, .int 0, .int 0, .null, .null, .int 0, .int 0]))]) [0] (by decide) rfl
  refine y_call (wr := []) (w1 := w1_4_X8 cI cS cW h0) (va_runI (As := [.int 4]) (rest := []) (z_fix C) (cC_4_X8 l D cI cS cW h0 _) (cwI 1 hts (zGc zc15) rfl rfl rfl (hts _ zc16) (hts _ zc19) (hts _ zc18) rfl yd_X4_init ⟨Nat.le_of_ble_eq_true rfl, Nat.le_of_ble_eq_true rfl⟩) (y_preS hE hPc hDc) rfl rfl hl.1 rfl (lv_room (Nat.le_of_ble_eq_true rfl)) dX8_init_2 ⟨Nat.le_of_ble_eq_true rfl, Nat.le_of_ble_eq_true rfl⟩) hE hH [0] [] rfl rfl (by decide) (by decide) (fun r2 H locs hH => ?_)
  have hH : yH D [(h0, .inr (5, [.ref (r2 3), .int 4, .int 4, .int 0, .ref (r2 1), .ref (r2 2), .int 0, .int 0])), (r2 1, .inl (cI, 200, .inl (fun _ => 0))), (r2 2, .inl (cI, 200, .inl (fun _ => 0))), (r2 3, .inl (cI, 200, .inl (fun _ => 0)))] A s H _ := hH
  refine W.widen (k := 3) (n := 600) (by omega) (by omega) ?_
  refine lv_aload_n hx hb dX8_init_5 rfl (lv_at hl 0 rfl) ?_
  refine lv_iconst (v := 0) hx hb dX8_init_6 (by decide) ?_
  refine y_put (q0 := 0) (ty := .int) C hE hH rfl rfl zh_X8 tyX8_ok nmX8 7 (by decide) zc20 rfl rfl rfl rfl rfl (Nat.le_of_ble_eq_true rfl) dX8_init_7 (fun H locs hH => ?_)
  have hH : yH D [(h0, .inr (5, [.ref (r2 3), .int 4, .int 4, .int 0, .ref (r2 1), .ref (r2 2), .int 0, .int 0])), (r2 1, .inl (cI, 200, .inl (fun _ => 0))), (r2 2, .inl (cI, 200, .inl (fun _ => 0))), (r2 3, .inl (cI, 200, .inl (fun _ => 0)))] A s H _ := hH
  exact y_vret (w1 := w1_X8 cI cS cW h0) C hE (fun k => ([h0, (r2 1), (r2 2), (r2 3)] : List Nat).getD k 0) hH dX8_init_10
def vsX2_init : List Cond := .code yX2_init cX2_init 1 none :: zU
theorem yd_X2_init : yX2_init.cls ≠ "java/lang/invoke/MethodHandle" ∧ yX2_init.cls ≠ "java/lang/invoke/VarHandle" ∧ (parseMethodDescriptor yX2_init.desc).map (fun d => d.parameters.length) = some 0 := by decide +kernel
def rmC_X2 : Room := { frames := 3, cells := 4, slots := 800, locals := 53 }
abbrev w1_X2 (cI cS cW : ClassId) (h0 : Nat) (q : Nat → Nat) : va_W := [(h0, .inr (1, [.ref (q 3), .int 8, .int 8, .int 0, .ref (q 1), .ref (q 2), .int 0, .ref (q 4)])), (q 1, .inl (cI, 200, .inl (fun _ => 0))), (q 2, .inl (cI, 200, .inl (fun _ => 0))), (q 3, .inl (cI, 200, .inl (fun _ => 0))), (q 4, .inl (cI, 200, .inl (fun _ => 0)))]
set_option maxHeartbeats 4000000 in
set_option maxRecDepth 100000 in
theorem cC_X2 (l : Launch) (D : va_G) (cI cS cW : ClassId) (h0 sz : Nat) : yM l yX2_init vsX2_init rmC_X2 [.ref h0] D [(h0, .inr (1, [.null, .int 0, .int 0, .int 0, .null, .null, .int 0, .null]))] (zyX cI cS cW) sz (w1_X2 cI cS cW h0) 4 800 := by
  refine Met.ofW (cc := cX2_init) (maxL := 1) (ret := none) (by decide) rfl ?_
  intro p e s m args below meth c s₁ B hml hv
  obtain ⟨rfl, rfl, hP, hK, hD0, hN⟩ := hv
  have C : zCX p s m _ meth c cX2_init 1 none zU RX2 := ⟨B.exec, B.bytes, hml, findClass_of_methodNamed B.named, fun w h => atoms_spec (ws := vsX2_init) B.pre w (List.mem_cons_of_mem _ h), B.returns, B.notSynchronized⟩
  have hx := C.1
  have hb := C.2.1
  have hts := C.2.2.2.2.1
  have hown := C.2.2.2.1
  have hin : meth.name = "<init>" := (name_of_methodNamed B.named B.method).1
  have hD := hD0.self (sz := s.heap.size)
  generalize hAe : va_A [(h0, .inr (1, [.null, .int 0, .int 0, .int 0, .null, .null, .int 0, .null]))] s.heap.size = A at hD ⊢
  have hE : yE D (zyX cI cS cW) A s := ⟨hK, fun q h => by rw [← hAe]; exact Or.inr h, hN⟩
  have hH : yH D [(h0, .inr (1, [.null, .int 0, .int 0, .int 0, .null, .null, .int 0, .null]))] A s s.heap [] := ⟨hP, hD, va_S.rf⟩
  have hl := lv_entry ([.ref h0]) (n := 1) (Nat.le_of_ble_eq_true rfl)
  rw [lg_entry_eq]
  generalize (lg_sl ([.ref h0]) ++ List.replicate (1 - (lg_sl ([.ref h0])).length) Slot.unset).toArray = ls at hl ⊢
  refine lv_aload_n hx hb dX2_init_0 rfl (lv_at hl 0 rfl) ?_
  refine lv_bipush (v := 8) hx hb dX2_init_1 (by decide) ?_
  have hPc := hH.1.sub (ws' := [(h0, .inr (1, [.null, .int 0, .int 0, .int 0, .null, .null, .int 0, .null]))]) [0] rfl
  have hDc := hH.2.1.sub (ws' := [(h0, .inr (1, [.null, .int 0, .int 0, .int 0, .null, .null, .int 0, .null]))]) [0] (by decide) rfl
  refine y_call (wr := []) (w1 := w1_4_X2 cI cS cW h0) (va_runI (As := [.int 8]) (rest := []) (z_fix C) (cC_4_X2 l D cI cS cW h0 _) (cwI 1 hts (zGc zc15) rfl rfl rfl (hts _ zc16) (hts _ zc21) (hts _ zc18) rfl yd_X4_init ⟨Nat.le_of_ble_eq_true rfl, Nat.le_of_ble_eq_true rfl⟩) (y_preS hE hPc hDc) rfl rfl hl.1 rfl (lv_room (Nat.le_of_ble_eq_true rfl)) dX2_init_3 ⟨Nat.le_of_ble_eq_true rfl, Nat.le_of_ble_eq_true rfl⟩) hE hH [0] [] rfl rfl (by decide) (by decide) (fun r3 H locs hH => ?_)
  have hH : yH D [(h0, .inr (1, [.ref (r3 3), .int 8, .int 8, .int 0, .ref (r3 1), .ref (r3 2), .int 0, .null])), (r3 1, .inl (cI, 200, .inl (fun _ => 0))), (r3 2, .inl (cI, 200, .inl (fun _ => 0))), (r3 3, .inl (cI, 200, .inl (fun _ => 0)))] A s H _ := hH
  refine W.widen (k := 3) (n := 600) (by omega) (by omega) ?_
  refine lv_aload_n hx hb dX2_init_6 rfl (lv_at hl 0 rfl) ?_
  refine lv_sipush (v := 200) hx hb dX2_init_7 (by decide) ?_
  refine y_newi (N := 200) C hE hH zc3 0 rfl (by decide) (by decide) (by decide) (Nat.le_of_ble_eq_true rfl) (Nat.le_of_ble_eq_true rfl) dX2_init_10 (fun a10 H hH => ?_)
  have hH : yH D [(h0, .inr (1, [.ref (r3 3), .int 8, .int 8, .int 0, .ref (r3 1), .ref (r3 2), .int 0, .null])), (r3 1, .inl (cI, 200, .inl (fun _ => 0))), (r3 2, .inl (cI, 200, .inl (fun _ => 0))), (r3 3, .inl (cI, 200, .inl (fun _ => 0))), (a10, .inl (cI, 200, .inl (fun _ => 0)))] A s H _ := hH
  refine W.widen (k := 4) (n := 800) (by omega) (by omega) ?_
  refine y_putF (q0 := 0) (ty := .array .int) C hE hH rfl rfl zh_X2 tyX2_ok nmX2 7 (by decide) zc22 rfl rfl hin rfl rfl rfl rfl (Nat.le_of_ble_eq_true rfl) dX2_init_12 (fun H locs hH => ?_)
  have hH : yH D [(h0, .inr (1, [.ref (r3 3), .int 8, .int 8, .int 0, .ref (r3 1), .ref (r3 2), .int 0, .ref a10])), (r3 1, .inl (cI, 200, .inl (fun _ => 0))), (r3 2, .inl (cI, 200, .inl (fun _ => 0))), (r3 3, .inl (cI, 200, .inl (fun _ => 0))), (a10, .inl (cI, 200, .inl (fun _ => 0)))] A s H _ := hH
  exact y_vret (w1 := w1_X2 cI cS cW h0) C hE (fun k => ([h0, (r3 1), (r3 2), (r3 3), a10] : List Nat).getD k 0) hH dX2_init_15
def vsX3_init : List Cond := .code yX3_init cX3_init 1 none :: zU
theorem yd_X3_init : yX3_init.cls ≠ "java/lang/invoke/MethodHandle" ∧ yX3_init.cls ≠ "java/lang/invoke/VarHandle" ∧ (parseMethodDescriptor yX3_init.desc).map (fun d => d.parameters.length) = some 0 := by decide +kernel
def rmC_X3 : Room := { frames := 3, cells := 3, slots := 600, locals := 53 }
abbrev w1_X3 (cI cS cW : ClassId) (h0 : Nat) (q : Nat → Nat) : va_W := [(h0, .inr (2, [.ref (q 3), .int 4, .int 4, .int 0, .ref (q 1), .ref (q 2), .int 0])), (q 1, .inl (cI, 200, .inl (fun _ => 0))), (q 2, .inl (cI, 200, .inl (fun _ => 0))), (q 3, .inl (cI, 200, .inl (fun _ => 0)))]
set_option maxHeartbeats 4000000 in
set_option maxRecDepth 100000 in
theorem cC_X3 (l : Launch) (D : va_G) (cI cS cW : ClassId) (h0 sz : Nat) : yM l yX3_init vsX3_init rmC_X3 [.ref h0] D [(h0, .inr (2, [.null, .int 0, .int 0, .int 0, .null, .null, .int 0]))] (zyX cI cS cW) sz (w1_X3 cI cS cW h0) 3 600 := by
  refine Met.ofW (cc := cX3_init) (maxL := 1) (ret := none) (by decide) rfl ?_
  intro p e s m args below meth c s₁ B hml hv
  obtain ⟨rfl, rfl, hP, hK, hD0, hN⟩ := hv
  have C : zCX p s m _ meth c cX3_init 1 none zU RX3 := ⟨B.exec, B.bytes, hml, findClass_of_methodNamed B.named, fun w h => atoms_spec (ws := vsX3_init) B.pre w (List.mem_cons_of_mem _ h), B.returns, B.notSynchronized⟩
  have hx := C.1
  have hb := C.2.1
  have hts := C.2.2.2.2.1
  have hown := C.2.2.2.1
  have hin : meth.name = "<init>" := (name_of_methodNamed B.named B.method).1
  have hD := hD0.self (sz := s.heap.size)
  generalize hAe : va_A [(h0, .inr (2, [.null, .int 0, .int 0, .int 0, .null, .null, .int 0]))] s.heap.size = A at hD ⊢
  have hE : yE D (zyX cI cS cW) A s := ⟨hK, fun q h => by rw [← hAe]; exact Or.inr h, hN⟩
  have hH : yH D [(h0, .inr (2, [.null, .int 0, .int 0, .int 0, .null, .null, .int 0]))] A s s.heap [] := ⟨hP, hD, va_S.rf⟩
  have hl := lv_entry ([.ref h0]) (n := 1) (Nat.le_of_ble_eq_true rfl)
  rw [lg_entry_eq]
  generalize (lg_sl ([.ref h0]) ++ List.replicate (1 - (lg_sl ([.ref h0])).length) Slot.unset).toArray = ls at hl ⊢
  refine lv_aload_n hx hb dX3_init_0 rfl (lv_at hl 0 rfl) ?_
  refine lv_iconst (v := 4) hx hb dX3_init_1 (by decide) ?_
  have hPc := hH.1.sub (ws' := [(h0, .inr (2, [.null, .int 0, .int 0, .int 0, .null, .null, .int 0]))]) [0] rfl
  have hDc := hH.2.1.sub (ws' := [(h0, .inr (2, [.null, .int 0, .int 0, .int 0, .null, .null, .int 0]))]) [0] (by decide) rfl
  refine y_call (wr := []) (w1 := w1_4_X3 cI cS cW h0) (va_runI (As := [.int 4]) (rest := []) (z_fix C) (cC_4_X3 l D cI cS cW h0 _) (cwI 1 hts (zGc zc15) rfl rfl rfl (hts _ zc16) (hts _ zc23) (hts _ zc18) rfl yd_X4_init ⟨Nat.le_of_ble_eq_true rfl, Nat.le_of_ble_eq_true rfl⟩) (y_preS hE hPc hDc) rfl rfl hl.1 rfl (lv_room (Nat.le_of_ble_eq_true rfl)) dX3_init_2 ⟨Nat.le_of_ble_eq_true rfl, Nat.le_of_ble_eq_true rfl⟩) hE hH [0] [] rfl rfl (by decide) (by decide) (fun r2 H locs hH => ?_)
  have hH : yH D [(h0, .inr (2, [.ref (r2 3), .int 4, .int 4, .int 0, .ref (r2 1), .ref (r2 2), .int 0])), (r2 1, .inl (cI, 200, .inl (fun _ => 0))), (r2 2, .inl (cI, 200, .inl (fun _ => 0))), (r2 3, .inl (cI, 200, .inl (fun _ => 0)))] A s H _ := hH
  refine W.widen (k := 3) (n := 600) (by omega) (by omega) ?_
  exact y_vret (w1 := w1_X3 cI cS cW h0) C hE (fun k => ([h0, (r2 1), (r2 2), (r2 3)] : List Nat).getD k 0) hH dX3_init_5
def vsX9_init : List Cond := .code yX9_init cX9_init 1 none :: zU
theorem yd_X9_init : yX9_init.cls ≠ "java/lang/invoke/MethodHandle" ∧ yX9_init.cls ≠ "java/lang/invoke/VarHandle" ∧ (parseMethodDescriptor yX9_init.desc).map (fun d => d.parameters.length) = some 0 := by decide +kernel
def rmC_X9 : Room := { frames := 3, cells := 5, slots := 592, locals := 52 }
abbrev w1_X9 (cI cS cW : ClassId) (h0 : Nat) (q : Nat → Nat) : va_W := [(h0, .inr (6, [.ref (q 3), .ref (q 1), .ref (q 2), .int 0, .ref (q 4), .ref (q 5), .int (-1), .int 0, .int (-1)])), (q 1, .inl (cI, 200, .inl (fun _ => 0))), (q 2, .inl (cI, 200, .inl (fun _ => 0))), (q 3, .inl (cI, 64, .inl (fun _ => 0))), (q 4, .inl (cI, 64, .inl (fun _ => 0))), (q 5, .inl (cI, 64, .inl (fun _ => 0)))]
set_option maxHeartbeats 4000000 in
set_option maxRecDepth 100000 in
theorem cC_X9 (l : Launch) (D : va_G) (cI cS cW : ClassId) (h0 sz : Nat) : yM l yX9_init vsX9_init rmC_X9 [.ref h0] D [(h0, .inr (6, [.null, .null, .null, .int 0, .null, .null, .int 0, .int 0, .int 0]))] (zyX cI cS cW) sz (w1_X9 cI cS cW h0) 5 592 := by
  refine Met.ofW (cc := cX9_init) (maxL := 1) (ret := none) (by decide) rfl ?_
  intro p e s m args below meth c s₁ B hml hv
  obtain ⟨rfl, rfl, hP, hK, hD0, hN⟩ := hv
  have C : zCX p s m _ meth c cX9_init 1 none zU RX9 := ⟨B.exec, B.bytes, hml, findClass_of_methodNamed B.named, fun w h => atoms_spec (ws := vsX9_init) B.pre w (List.mem_cons_of_mem _ h), B.returns, B.notSynchronized⟩
  have hx := C.1
  have hb := C.2.1
  have hts := C.2.2.2.2.1
  have hown := C.2.2.2.1
  have hin : meth.name = "<init>" := (name_of_methodNamed B.named B.method).1
  have hD := hD0.self (sz := s.heap.size)
  generalize hAe : va_A [(h0, .inr (6, [.null, .null, .null, .int 0, .null, .null, .int 0, .int 0, .int 0]))] s.heap.size = A at hD ⊢
  have hE : yE D (zyX cI cS cW) A s := ⟨hK, fun q h => by rw [← hAe]; exact Or.inr h, hN⟩
  have hH : yH D [(h0, .inr (6, [.null, .null, .null, .int 0, .null, .null, .int 0, .int 0, .int 0]))] A s s.heap [] := ⟨hP, hD, va_S.rf⟩
  have hl := lv_entry ([.ref h0]) (n := 1) (Nat.le_of_ble_eq_true rfl)
  rw [lg_entry_eq]
  generalize (lg_sl ([.ref h0]) ++ List.replicate (1 - (lg_sl ([.ref h0])).length) Slot.unset).toArray = ls at hl ⊢
  refine lv_aload_n hx hb dX9_init_0 rfl (lv_at hl 0 rfl) ?_
  have hPc := hH.1.sub (ws' := [(h0, .inr (6, [.null, .null, .null, .int 0, .null, .null, .int 0, .int 0, .int 0]))]) [0] rfl
  have hDc := hH.2.1.sub (ws' := [(h0, .inr (6, [.null, .null, .null, .int 0, .null, .null, .int 0, .int 0, .int 0]))]) [0] (by decide) rfl
  refine y_call (wr := []) (w1 := w1_1_X9 cI cS cW h0) (va_runIN (As := []) (rest := []) (z_fix C) (cC_1_X9 l D cI cS cW h0 _) (⟨va_cnB 0 hts (zGc zc24) rfl rfl rfl (hE.2.2.1 _ znC_3).2 (hts _ zc25) yd_X1_init ⟨Nat.le_of_ble_eq_true rfl, Nat.le_of_ble_eq_true rfl⟩, rfl, hts _ zc26⟩) (y_preS hE hPc hDc) rfl rfl hl.1 rfl (lv_room (Nat.le_of_ble_eq_true rfl)) dX9_init_1 ⟨Nat.le_of_ble_eq_true rfl, Nat.le_of_ble_eq_true rfl⟩) hE hH [0] [] rfl rfl (by decide) (by decide) (fun r1 H locs hH => ?_)
  have hH : yH D [(h0, .inr (6, [.ref (r1 3), .ref (r1 1), .ref (r1 2), .int 0, .null, .null, .int 0, .int 0, .int 0])), (r1 1, .inl (cI, 200, .inl (fun _ => 0))), (r1 2, .inl (cI, 200, .inl (fun _ => 0))), (r1 3, .inl (cI, 64, .inl (fun _ => 0)))] A s H _ := hH
  refine W.widen (k := 3) (n := 464) (by omega) (by omega) ?_
  refine lv_aload_n hx hb dX9_init_4 rfl (lv_at hl 0 rfl) ?_
  refine lv_bipush (v := 64) hx hb dX9_init_5 (by decide) ?_
  refine y_newi (N := 64) C hE hH zc3 0 rfl (by decide) (by decide) (by decide) (Nat.le_of_ble_eq_true rfl) (Nat.le_of_ble_eq_true rfl) dX9_init_7 (fun a7 H hH => ?_)
  have hH : yH D [(h0, .inr (6, [.ref (r1 3), .ref (r1 1), .ref (r1 2), .int 0, .null, .null, .int 0, .int 0, .int 0])), (r1 1, .inl (cI, 200, .inl (fun _ => 0))), (r1 2, .inl (cI, 200, .inl (fun _ => 0))), (r1 3, .inl (cI, 64, .inl (fun _ => 0))), (a7, .inl (cI, 64, .inl (fun _ => 0)))] A s H _ := hH
  refine W.widen (k := 4) (n := 528) (by omega) (by omega) ?_
  refine y_putF (q0 := 0) (ty := .array .int) C hE hH rfl rfl zh_X9 tyX9_ok nmX9 4 (by decide) zc27 rfl rfl hin rfl rfl rfl rfl (Nat.le_of_ble_eq_true rfl) dX9_init_9 (fun H locs hH => ?_)
  have hH : yH D [(h0, .inr (6, [.ref (r1 3), .ref (r1 1), .ref (r1 2), .int 0, .ref a7, .null, .int 0, .int 0, .int 0])), (r1 1, .inl (cI, 200, .inl (fun _ => 0))), (r1 2, .inl (cI, 200, .inl (fun _ => 0))), (r1 3, .inl (cI, 64, .inl (fun _ => 0))), (a7, .inl (cI, 64, .inl (fun _ => 0)))] A s H _ := hH
  refine lv_aload_n hx hb dX9_init_12 rfl (lv_at hl 0 rfl) ?_
  refine lv_bipush (v := 64) hx hb dX9_init_13 (by decide) ?_
  refine y_newi (N := 64) C hE hH zc3 0 rfl (by decide) (by decide) (by decide) (Nat.le_of_ble_eq_true rfl) (Nat.le_of_ble_eq_true rfl) dX9_init_15 (fun a15 H hH => ?_)
  have hH : yH D [(h0, .inr (6, [.ref (r1 3), .ref (r1 1), .ref (r1 2), .int 0, .ref a7, .null, .int 0, .int 0, .int 0])), (r1 1, .inl (cI, 200, .inl (fun _ => 0))), (r1 2, .inl (cI, 200, .inl (fun _ => 0))), (r1 3, .inl (cI, 64, .inl (fun _ => 0))), (a7, .inl (cI, 64, .inl (fun _ => 0))), (a15, .inl (cI, 64, .inl (fun _ => 0)))] A s H _ := hH
  refine W.widen (k := 5) (n := 592) (by omega) (by omega) ?_
  refine y_putF (q0 := 0) (ty := .array .int) C hE hH rfl rfl zh_X9 tyX9_ok nmX9 5 (by decide) zc28 rfl rfl hin rfl rfl rfl rfl (Nat.le_of_ble_eq_true rfl) dX9_init_17 (fun H locs hH => ?_)
  have hH : yH D [(h0, .inr (6, [.ref (r1 3), .ref (r1 1), .ref (r1 2), .int 0, .ref a7, .ref a15, .int 0, .int 0, .int 0])), (r1 1, .inl (cI, 200, .inl (fun _ => 0))), (r1 2, .inl (cI, 200, .inl (fun _ => 0))), (r1 3, .inl (cI, 64, .inl (fun _ => 0))), (a7, .inl (cI, 64, .inl (fun _ => 0))), (a15, .inl (cI, 64, .inl (fun _ => 0)))] A s H _ := hH
  refine lv_aload_n hx hb dX9_init_20 rfl (lv_at hl 0 rfl) ?_
  refine lv_iconst (v := (-1)) hx hb dX9_init_21 (by decide) ?_
  refine y_put (q0 := 0) (ty := .int) C hE hH rfl rfl zh_X9 tyX9_ok nmX9 6 (by decide) zc29 rfl rfl rfl rfl rfl (Nat.le_of_ble_eq_true rfl) dX9_init_22 (fun H locs hH => ?_)
  have hH : yH D [(h0, .inr (6, [.ref (r1 3), .ref (r1 1), .ref (r1 2), .int 0, .ref a7, .ref a15, .int (-1), .int 0, .int 0])), (r1 1, .inl (cI, 200, .inl (fun _ => 0))), (r1 2, .inl (cI, 200, .inl (fun _ => 0))), (r1 3, .inl (cI, 64, .inl (fun _ => 0))), (a7, .inl (cI, 64, .inl (fun _ => 0))), (a15, .inl (cI, 64, .inl (fun _ => 0)))] A s H _ := hH
  refine lv_aload_n hx hb dX9_init_25 rfl (lv_at hl 0 rfl) ?_
  refine lv_iconst (v := 0) hx hb dX9_init_26 (by decide) ?_
  refine y_put (q0 := 0) (ty := .int) C hE hH rfl rfl zh_X9 tyX9_ok nmX9 7 (by decide) zc30 rfl rfl rfl rfl rfl (Nat.le_of_ble_eq_true rfl) dX9_init_27 (fun H locs hH => ?_)
  have hH : yH D [(h0, .inr (6, [.ref (r1 3), .ref (r1 1), .ref (r1 2), .int 0, .ref a7, .ref a15, .int (-1), .int 0, .int 0])), (r1 1, .inl (cI, 200, .inl (fun _ => 0))), (r1 2, .inl (cI, 200, .inl (fun _ => 0))), (r1 3, .inl (cI, 64, .inl (fun _ => 0))), (a7, .inl (cI, 64, .inl (fun _ => 0))), (a15, .inl (cI, 64, .inl (fun _ => 0)))] A s H _ := hH
  refine lv_aload_n hx hb dX9_init_30 rfl (lv_at hl 0 rfl) ?_
  refine lv_iconst (v := (-1)) hx hb dX9_init_31 (by decide) ?_
  refine y_put (q0 := 0) (ty := .int) C hE hH rfl rfl zh_X9 tyX9_ok nmX9 8 (by decide) zc31 rfl rfl rfl rfl rfl (Nat.le_of_ble_eq_true rfl) dX9_init_32 (fun H locs hH => ?_)
  have hH : yH D [(h0, .inr (6, [.ref (r1 3), .ref (r1 1), .ref (r1 2), .int 0, .ref a7, .ref a15, .int (-1), .int 0, .int (-1)])), (r1 1, .inl (cI, 200, .inl (fun _ => 0))), (r1 2, .inl (cI, 200, .inl (fun _ => 0))), (r1 3, .inl (cI, 64, .inl (fun _ => 0))), (a7, .inl (cI, 64, .inl (fun _ => 0))), (a15, .inl (cI, 64, .inl (fun _ => 0)))] A s H _ := hH
  exact y_vret (w1 := w1_X9 cI cS cW h0) C hE (fun k => ([h0, (r1 1), (r1 2), (r1 3), a7, a15] : List Nat).getD k 0) hH dX9_init_35
def vsX0_init : List Cond := .code yX0_init cX0_init 1 none :: zU
theorem yd_X0_init : yX0_init.cls ≠ "java/lang/invoke/MethodHandle" ∧ yX0_init.cls ≠ "java/lang/invoke/VarHandle" ∧ (parseMethodDescriptor yX0_init.desc).map (fun d => d.parameters.length) = some 0 := by decide +kernel
def rmC_X0 : Room := { frames := 3, cells := 3, slots := 464, locals := 52 }
abbrev w1_X0 (cI cS cW : ClassId) (h0 : Nat) (q : Nat → Nat) : va_W := [(h0, .inr (0, [.ref (q 3), .ref (q 1), .ref (q 2), .int 0])), (q 1, .inl (cI, 200, .inl (fun _ => 0))), (q 2, .inl (cI, 200, .inl (fun _ => 0))), (q 3, .inl (cI, 64, .inl (fun _ => 0)))]
set_option maxHeartbeats 4000000 in
set_option maxRecDepth 100000 in
theorem cC_X0 (l : Launch) (D : va_G) (cI cS cW : ClassId) (h0 sz : Nat) : yM l yX0_init vsX0_init rmC_X0 [.ref h0] D [(h0, .inr (0, [.null, .null, .null, .int 0]))] (zyX cI cS cW) sz (w1_X0 cI cS cW h0) 3 464 := by
  refine Met.ofW (cc := cX0_init) (maxL := 1) (ret := none) (by decide) rfl ?_
  intro p e s m args below meth c s₁ B hml hv
  obtain ⟨rfl, rfl, hP, hK, hD0, hN⟩ := hv
  have C : zCX p s m _ meth c cX0_init 1 none zU RX0 := ⟨B.exec, B.bytes, hml, findClass_of_methodNamed B.named, fun w h => atoms_spec (ws := vsX0_init) B.pre w (List.mem_cons_of_mem _ h), B.returns, B.notSynchronized⟩
  have hx := C.1
  have hb := C.2.1
  have hts := C.2.2.2.2.1
  have hown := C.2.2.2.1
  have hin : meth.name = "<init>" := (name_of_methodNamed B.named B.method).1
  have hD := hD0.self (sz := s.heap.size)
  generalize hAe : va_A [(h0, .inr (0, [.null, .null, .null, .int 0]))] s.heap.size = A at hD ⊢
  have hE : yE D (zyX cI cS cW) A s := ⟨hK, fun q h => by rw [← hAe]; exact Or.inr h, hN⟩
  have hH : yH D [(h0, .inr (0, [.null, .null, .null, .int 0]))] A s s.heap [] := ⟨hP, hD, va_S.rf⟩
  have hl := lv_entry ([.ref h0]) (n := 1) (Nat.le_of_ble_eq_true rfl)
  rw [lg_entry_eq]
  generalize (lg_sl ([.ref h0]) ++ List.replicate (1 - (lg_sl ([.ref h0])).length) Slot.unset).toArray = ls at hl ⊢
  refine lv_aload_n hx hb dX0_init_0 rfl (lv_at hl 0 rfl) ?_
  have hPc := hH.1.sub (ws' := [(h0, .inr (0, [.null, .null, .null, .int 0]))]) [0] rfl
  have hDc := hH.2.1.sub (ws' := [(h0, .inr (0, [.null, .null, .null, .int 0]))]) [0] (by decide) rfl
  refine y_call (wr := []) (w1 := w1_1_X0 cI cS cW h0) (va_runIN (As := []) (rest := []) (z_fix C) (cC_1_X0 l D cI cS cW h0 _) (⟨va_cnB 0 hts (zGc zc24) rfl rfl rfl (hE.2.2.1 _ znC_2).2 (hts _ zc25) yd_X1_init ⟨Nat.le_of_ble_eq_true rfl, Nat.le_of_ble_eq_true rfl⟩, rfl, hts _ zc26⟩) (y_preS hE hPc hDc) rfl rfl hl.1 rfl (lv_room (Nat.le_of_ble_eq_true rfl)) dX0_init_1 ⟨Nat.le_of_ble_eq_true rfl, Nat.le_of_ble_eq_true rfl⟩) hE hH [0] [] rfl rfl (by decide) (by decide) (fun r1 H locs hH => ?_)
  have hH : yH D [(h0, .inr (0, [.ref (r1 3), .ref (r1 1), .ref (r1 2), .int 0])), (r1 1, .inl (cI, 200, .inl (fun _ => 0))), (r1 2, .inl (cI, 200, .inl (fun _ => 0))), (r1 3, .inl (cI, 64, .inl (fun _ => 0)))] A s H _ := hH
  refine W.widen (k := 3) (n := 464) (by omega) (by omega) ?_
  exact y_vret (w1 := w1_X0 cI cS cW h0) C hE (fun k => ([h0, (r1 1), (r1 2), (r1 3)] : List Nat).getD k 0) hH dX0_init_4

def vsX5_init : List Cond := .code yX5_init cX5_init 1 none :: zU
theorem yd_X5_init : yX5_init.cls ≠ "java/lang/invoke/MethodHandle" ∧ yX5_init.cls ≠ "java/lang/invoke/VarHandle" ∧ (parseMethodDescriptor yX5_init.desc).map (fun d => d.parameters.length) = some 0 := by decide +kernel
def rmC_X5 : Room := { frames := 1, cells := 8, slots := 1406, locals := 12 }
abbrev w1_X5 (cI cS cW : ClassId) (h0 : Nat) (q : Nat → Nat) : va_W := [(h0, .inr (3, [.ref (q 1), .ref (q 2), .int 0, .int 0, .int 0, .int 0, .int 0])), (q 1, .inl (cI, 200, .inl (fun _ => 0))), (q 2, .inl (cW, 6, .inr (.inr (.inr (.inr (fun j => some (q (j + 3)))))))), (q 3, .inl (cI, 200, .inl (fun _ => 0))), (q 4, .inl (cI, 200, .inl (fun _ => 0))), (q 5, .inl (cI, 200, .inl (fun _ => 0))), (q 6, .inl (cI, 200, .inl (fun _ => 0))), (q 7, .inl (cI, 200, .inl (fun _ => 0))), (q 8, .inl (cI, 200, .inl (fun _ => 0)))]
set_option maxHeartbeats 4000000 in
set_option maxRecDepth 100000 in
theorem cC_X5 (l : Launch) (D : va_G) (cI cS cW : ClassId) (h0 sz : Nat) : yM l yX5_init vsX5_init rmC_X5 [.ref h0] D [(h0, .inr (3, [.null, .null, .int 0, .int 0, .int 0, .int 0, .int 0]))] (zyX cI cS cW) sz (w1_X5 cI cS cW h0) 8 1406 := by
  refine Met.ofW (cc := cX5_init) (maxL := 1) (ret := none) (by decide) rfl ?_
  intro p e s m args below meth c s₁ B hml hv
  obtain ⟨rfl, rfl, hP, hK, hD0, hN⟩ := hv
  have C : zCX p s m _ meth c cX5_init 1 none zU RX5 := ⟨B.exec, B.bytes, hml, findClass_of_methodNamed B.named, fun w h => atoms_spec (ws := vsX5_init) B.pre w (List.mem_cons_of_mem _ h), B.returns, B.notSynchronized⟩
  have hx := C.1
  have hb := C.2.1
  have hts := C.2.2.2.2.1
  have hown := C.2.2.2.1
  have hin : meth.name = "<init>" := (name_of_methodNamed B.named B.method).1
  have hD := hD0.self (sz := s.heap.size)
  generalize hAe : va_A [(h0, .inr (3, [.null, .null, .int 0, .int 0, .int 0, .int 0, .int 0]))] s.heap.size = A at hD ⊢
  have hE : yE D (zyX cI cS cW) A s := ⟨hK, fun q h => by rw [← hAe]; exact Or.inr h, hN⟩
  have hH : yH D [(h0, .inr (3, [.null, .null, .int 0, .int 0, .int 0, .int 0, .int 0]))] A s s.heap [] := ⟨hP, hD, va_S.rf⟩
  have hl := lv_entry ([.ref h0]) (n := 1) (Nat.le_of_ble_eq_true rfl)
  rw [lg_entry_eq]
  generalize (lg_sl ([.ref h0]) ++ List.replicate (1 - (lg_sl ([.ref h0])).length) Slot.unset).toArray = ls at hl ⊢
  refine lv_aload_n hx hb dX5_init_0 rfl (lv_at hl 0 rfl) ?_
  refine y_objInit C zc32 zc1 zc2 hl.1 dX5_init_1 (Nat.le_of_ble_eq_true rfl) (Nat.le_of_ble_eq_true rfl) ?_
  refine lv_aload_n hx hb dX5_init_4 rfl (lv_at hl 0 rfl) ?_
  refine lv_sipush (v := 200) hx hb dX5_init_5 (by decide) ?_
  refine y_newi (N := 200) C hE hH zc3 0 rfl (by decide) (by decide) (by decide) (Nat.le_of_ble_eq_true rfl) (Nat.le_of_ble_eq_true rfl) dX5_init_8 (fun a8 H hH => ?_)
  have hH : yH D [(h0, .inr (3, [.null, .null, .int 0, .int 0, .int 0, .int 0, .int 0])), (a8, .inl (cI, 200, .inl (fun _ => 0)))] A s H _ := hH
  refine W.widen (k := 1) (n := 200) (by omega) (by omega) ?_
  refine y_putF (q0 := 0) (ty := .array .int) C hE hH rfl rfl zh_X5 tyX5_ok nmX5 0 (by decide) zc33 rfl rfl hin rfl rfl rfl rfl (Nat.le_of_ble_eq_true rfl) dX5_init_10 (fun H locs hH => ?_)
  have hH : yH D [(h0, .inr (3, [.ref a8, .null, .int 0, .int 0, .int 0, .int 0, .int 0])), (a8, .inl (cI, 200, .inl (fun _ => 0)))] A s H _ := hH
  refine lv_aload_n hx hb dX5_init_13 rfl (lv_at hl 0 rfl) ?_
  refine lv_bipush (v := 6) hx hb dX5_init_14 (by decide) ?_
  refine lv_sipush (v := 200) hx hb dX5_init_16 (by decide) ?_
  refine y_mna C hE hH zc34 zc3 (Nat.le_of_ble_eq_true rfl) (Nat.le_of_ble_eq_true rfl) dX5_init_19 (fun a19 r19 H hH => ?_)
  have hH : yH D [(h0, .inr (3, [.ref a8, .null, .int 0, .int 0, .int 0, .int 0, .int 0])), (a8, .inl (cI, 200, .inl (fun _ => 0))), (a19, .inl (cW, 6, .inr (.inr (.inr (.inr (fun j => some (r19 j))))))), (r19 0, .inl (cI, 200, .inl (fun _ => 0))), (r19 1, .inl (cI, 200, .inl (fun _ => 0))), (r19 2, .inl (cI, 200, .inl (fun _ => 0))), (r19 3, .inl (cI, 200, .inl (fun _ => 0))), (r19 4, .inl (cI, 200, .inl (fun _ => 0))), (r19 5, .inl (cI, 200, .inl (fun _ => 0)))] A s H _ := hH
  refine W.widen (k := 8) (n := 1406) (by omega) (by omega) ?_
  refine y_putF (q0 := 0) (ty := .array (.array .int)) C hE hH rfl rfl zh_X5 tyX5_ok nmX5 1 (by decide) zc35 rfl rfl hin rfl rfl rfl rfl (Nat.le_of_ble_eq_true rfl) dX5_init_23 (fun H locs hH => ?_)
  have hH : yH D [(h0, .inr (3, [.ref a8, .ref a19, .int 0, .int 0, .int 0, .int 0, .int 0])), (a8, .inl (cI, 200, .inl (fun _ => 0))), (a19, .inl (cW, 6, .inr (.inr (.inr (.inr (fun j => some (r19 j))))))), (r19 0, .inl (cI, 200, .inl (fun _ => 0))), (r19 1, .inl (cI, 200, .inl (fun _ => 0))), (r19 2, .inl (cI, 200, .inl (fun _ => 0))), (r19 3, .inl (cI, 200, .inl (fun _ => 0))), (r19 4, .inl (cI, 200, .inl (fun _ => 0))), (r19 5, .inl (cI, 200, .inl (fun _ => 0)))] A s H _ := hH
  refine lv_aload_n hx hb dX5_init_26 rfl (lv_at hl 0 rfl) ?_
  refine lv_iconst (v := 0) hx hb dX5_init_27 (by decide) ?_
  refine y_put (q0 := 0) (ty := .int) C hE hH rfl rfl zh_X5 tyX5_ok nmX5 2 (by decide) zc36 rfl rfl rfl rfl rfl (Nat.le_of_ble_eq_true rfl) dX5_init_28 (fun H locs hH => ?_)
  have hH : yH D [(h0, .inr (3, [.ref a8, .ref a19, .int 0, .int 0, .int 0, .int 0, .int 0])), (a8, .inl (cI, 200, .inl (fun _ => 0))), (a19, .inl (cW, 6, .inr (.inr (.inr (.inr (fun j => some (r19 j))))))), (r19 0, .inl (cI, 200, .inl (fun _ => 0))), (r19 1, .inl (cI, 200, .inl (fun _ => 0))), (r19 2, .inl (cI, 200, .inl (fun _ => 0))), (r19 3, .inl (cI, 200, .inl (fun _ => 0))), (r19 4, .inl (cI, 200, .inl (fun _ => 0))), (r19 5, .inl (cI, 200, .inl (fun _ => 0)))] A s H _ := hH
  refine lv_aload_n hx hb dX5_init_31 rfl (lv_at hl 0 rfl) ?_
  refine lv_iconst (v := 0) hx hb dX5_init_32 (by decide) ?_
  refine y_put (q0 := 0) (ty := .int) C hE hH rfl rfl zh_X5 tyX5_ok nmX5 3 (by decide) zc37 rfl rfl rfl rfl rfl (Nat.le_of_ble_eq_true rfl) dX5_init_33 (fun H locs hH => ?_)
  have hH : yH D [(h0, .inr (3, [.ref a8, .ref a19, .int 0, .int 0, .int 0, .int 0, .int 0])), (a8, .inl (cI, 200, .inl (fun _ => 0))), (a19, .inl (cW, 6, .inr (.inr (.inr (.inr (fun j => some (r19 j))))))), (r19 0, .inl (cI, 200, .inl (fun _ => 0))), (r19 1, .inl (cI, 200, .inl (fun _ => 0))), (r19 2, .inl (cI, 200, .inl (fun _ => 0))), (r19 3, .inl (cI, 200, .inl (fun _ => 0))), (r19 4, .inl (cI, 200, .inl (fun _ => 0))), (r19 5, .inl (cI, 200, .inl (fun _ => 0)))] A s H _ := hH
  refine lv_aload_n hx hb dX5_init_36 rfl (lv_at hl 0 rfl) ?_
  refine lv_iconst (v := 0) hx hb dX5_init_37 (by decide) ?_
  refine y_put (q0 := 0) (ty := .int) C hE hH rfl rfl zh_X5 tyX5_ok nmX5 4 (by decide) zc38 rfl rfl rfl rfl rfl (Nat.le_of_ble_eq_true rfl) dX5_init_38 (fun H locs hH => ?_)
  have hH : yH D [(h0, .inr (3, [.ref a8, .ref a19, .int 0, .int 0, .int 0, .int 0, .int 0])), (a8, .inl (cI, 200, .inl (fun _ => 0))), (a19, .inl (cW, 6, .inr (.inr (.inr (.inr (fun j => some (r19 j))))))), (r19 0, .inl (cI, 200, .inl (fun _ => 0))), (r19 1, .inl (cI, 200, .inl (fun _ => 0))), (r19 2, .inl (cI, 200, .inl (fun _ => 0))), (r19 3, .inl (cI, 200, .inl (fun _ => 0))), (r19 4, .inl (cI, 200, .inl (fun _ => 0))), (r19 5, .inl (cI, 200, .inl (fun _ => 0)))] A s H _ := hH
  refine lv_aload_n hx hb dX5_init_41 rfl (lv_at hl 0 rfl) ?_
  refine lv_iconst (v := 0) hx hb dX5_init_42 (by decide) ?_
  refine y_put (q0 := 0) (ty := .int) C hE hH rfl rfl zh_X5 tyX5_ok nmX5 5 (by decide) zc39 rfl rfl rfl rfl rfl (Nat.le_of_ble_eq_true rfl) dX5_init_43 (fun H locs hH => ?_)
  have hH : yH D [(h0, .inr (3, [.ref a8, .ref a19, .int 0, .int 0, .int 0, .int 0, .int 0])), (a8, .inl (cI, 200, .inl (fun _ => 0))), (a19, .inl (cW, 6, .inr (.inr (.inr (.inr (fun j => some (r19 j))))))), (r19 0, .inl (cI, 200, .inl (fun _ => 0))), (r19 1, .inl (cI, 200, .inl (fun _ => 0))), (r19 2, .inl (cI, 200, .inl (fun _ => 0))), (r19 3, .inl (cI, 200, .inl (fun _ => 0))), (r19 4, .inl (cI, 200, .inl (fun _ => 0))), (r19 5, .inl (cI, 200, .inl (fun _ => 0)))] A s H _ := hH
  refine lv_aload_n hx hb dX5_init_46 rfl (lv_at hl 0 rfl) ?_
  refine lv_iconst (v := 0) hx hb dX5_init_47 (by decide) ?_
  refine y_put (q0 := 0) (ty := .int) C hE hH rfl rfl zh_X5 tyX5_ok nmX5 6 (by decide) zc40 rfl rfl rfl rfl rfl (Nat.le_of_ble_eq_true rfl) dX5_init_48 (fun H locs hH => ?_)
  have hH : yH D [(h0, .inr (3, [.ref a8, .ref a19, .int 0, .int 0, .int 0, .int 0, .int 0])), (a8, .inl (cI, 200, .inl (fun _ => 0))), (a19, .inl (cW, 6, .inr (.inr (.inr (.inr (fun j => some (r19 j))))))), (r19 0, .inl (cI, 200, .inl (fun _ => 0))), (r19 1, .inl (cI, 200, .inl (fun _ => 0))), (r19 2, .inl (cI, 200, .inl (fun _ => 0))), (r19 3, .inl (cI, 200, .inl (fun _ => 0))), (r19 4, .inl (cI, 200, .inl (fun _ => 0))), (r19 5, .inl (cI, 200, .inl (fun _ => 0)))] A s H _ := hH
  exact y_vret (w1 := w1_X5 cI cS cW h0) C hE (fun k => match k with | 0 => h0 | 1 => a8 | 2 => a19 | k + 3 => r19 k) hH dX5_init_51

def rmM_X11_thrown : Room := { frames := 0, cells := 0, slots := 0, locals := 0 }
set_option maxHeartbeats 4000000 in
set_option maxRecDepth 100000 in
theorem bM_X11_thrown {p : Program} {l : Launch} {e : Env} {s : State} {m : MethodId} {args : Array Value} {below : List Frame} {meth : Method} {c : Code} {D : va_G} {cI : ClassId} {q : Nat → Nat} {A : Nat → Prop} {res : Int32} (C : zCX p s m args meth c cX11_thrown 1 (some .int) zU RX11) (hE : zE D [(cI, .int)] [] A s) (S : zSt) (H : Heap) (locs : List Loc) (ls : Array Slot) (hH : zH D (zwM cI q) A s S H locs) (hl : lv_has ls 1 [(0, .ref (q 32))]) (h : fM_X11_thrown   S = some res) : W p l e rmM_X11_thrown s m args below meth c H locs 0 0 (zQi below D (zwM cI q) [(cI, .int)] A args s res S) (F0 m 0 ls []) := by
  have hx := C.1
  have hb := C.2.1
  unfold fM_X11_thrown at h
  refine lv_aload_n hx hb dX11_thrown_0 rfl (lv_at hl 0 rfl) ?_
  refine z_get C hE hH zM_o rfl zh_X11 7 (by decide) zk17_17 (fun _ h9 => h9) (v := .int (S.1 7)) rfl dX11_thrown_1 ?_
  cases h
  exact z_iret C hE hH dX11_thrown_4
set_option maxHeartbeats 4000000 in
set_option maxRecDepth 100000 in
theorem cM_X11_thrown (l : Launch) (D : va_G) (cI : ClassId) (q : Nat → Nat) (sz : Nat) (S : zSt) {res : Int32} (h : fM_X11_thrown  S = some res) : zMi l yX11_thrown vsX11_thrown rmM_X11_thrown [.ref (q 32)] D (zwM cI q) [(cI, .int)] [] sz S res S := by
  refine Met.ofW (cc := cX11_thrown) (maxL := 1) (ret := (some .int)) (by decide) rfl ?_
  intro p e s m args below meth c s₁ B hml hv
  obtain ⟨rfl, rfl, hP, hK, hD0, hN⟩ := hv
  have hl := lv_entry ([.ref (q 32)]) (n := 1) (Nat.le_of_ble_eq_true rfl)
  rw [lg_entry_eq]
  generalize (lg_sl ([.ref (q 32)]) ++ List.replicate (1 - (lg_sl ([.ref (q 32)])).length) Slot.unset).toArray = ls at hl ⊢
  exact bM_X11_thrown ⟨B.exec, B.bytes, hml, findClass_of_methodNamed B.named, fun w h => atoms_spec (ws := vsX11_thrown) B.pre w (List.mem_cons_of_mem _ h), B.returns, B.notSynchronized⟩ ⟨hK, fun q h => Or.inr h, hN⟩  S s.heap [] ls ⟨hP, hD0.self, va_S.rf⟩ hl  h
def rmM_X11_in : Room := { frames := 0, cells := 0, slots := 0, locals := 0 }
set_option maxHeartbeats 4000000 in
set_option maxRecDepth 100000 in
theorem bM_X11_in {p : Program} {l : Launch} {e : Env} {s : State} {m : MethodId} {args : Array Value} {below : List Frame} {meth : Method} {c : Code} {D : va_G} {cI : ClassId} {q : Nat → Nat} {A : Nat → Prop} {res : Int32} (C : zCX p s m args meth c cX11_in 3 (some .boolean) zU RX11) (hE : zE D [(cI, .int)] [] A s) (x0 x1 x2 : Int32) (S : zSt) (H : Heap) (locs : List Loc) (ls : Array Slot) (hH : zH D (zwM cI q) A s S H locs) (hl : lv_has ls 3 [(0, .int x0), (1, .int x1), (2, .int x2)]) (h : fM_X11_in  x0 x1 x2 S = some res) : W p l e rmM_X11_in s m args below meth c H locs 0 0 (zQi below D (zwM cI q) [(cI, .int)] A args s res S) (F0 m 0 ls []) := by
  have hx := C.1
  have hb := C.2.1
  unfold fM_X11_in at h
  refine lv_iload_n hx hb dX11_in_0 rfl (lv_at hl 0 rfl) ?_
  refine lv_iload_n hx hb dX11_in_1 rfl (lv_at hl 1 rfl) ?_
  refine lv_icmp_lt (tgt := 14) hx hb dX11_in_2 (by decide) (fun c1 => ?_) (fun c1 => ?_)
  · replace h := zif_t c1 h
    refine lv_iconst (v := 0) hx hb dX11_in_14 (by decide) ?_
    cases h
    exact z_zret (v := 0) C hE hH zb_0 dX11_in_15
  · replace h := zif_f c1 h
    refine lv_iload_n hx hb dX11_in_5 rfl (lv_at hl 0 rfl) ?_
    refine lv_iload_n hx hb dX11_in_6 rfl (lv_at hl 2 rfl) ?_
    refine lv_icmp_gt (tgt := 14) hx hb dX11_in_7 (by decide) (fun c2 => ?_) (fun c2 => ?_)
    · replace h := zif_t c2 h
      refine lv_iconst (v := 0) hx hb dX11_in_14 (by decide) ?_
      cases h
      exact z_zret (v := 0) C hE hH zb_0 dX11_in_15
    · replace h := zif_f c2 h
      refine lv_iconst (v := 1) hx hb dX11_in_10 (by decide) ?_
      refine lv_goto (tgt := 15) hx hb dX11_in_11 (by decide) ?_
      cases h
      exact z_zret (v := 1) C hE hH zb_1 dX11_in_15
set_option maxHeartbeats 4000000 in
set_option maxRecDepth 100000 in
theorem cM_X11_in (l : Launch) (D : va_G) (cI : ClassId) (q : Nat → Nat) (sz : Nat) (x0 : Int32) (x1 : Int32) (x2 : Int32) (S : zSt) {res : Int32} (h : fM_X11_in x0 x1 x2 S = some res) : zMi l yX11_in vsX11_in rmM_X11_in [.int x0, .int x1, .int x2] D (zwM cI q) [(cI, .int)] [] sz S res S := by
  refine Met.ofW (cc := cX11_in) (maxL := 3) (ret := (some .boolean)) (by decide) rfl ?_
  intro p e s m args below meth c s₁ B hml hv
  obtain ⟨rfl, rfl, hP, hK, hD0, hN⟩ := hv
  have hl := lv_entry ([.int x0, .int x1, .int x2]) (n := 3) (Nat.le_of_ble_eq_true rfl)
  rw [lg_entry_eq]
  generalize (lg_sl ([.int x0, .int x1, .int x2]) ++ List.replicate (3 - (lg_sl ([.int x0, .int x1, .int x2])).length) Slot.unset).toArray = ls at hl ⊢
  exact bM_X11_in ⟨B.exec, B.bytes, hml, findClass_of_methodNamed B.named, fun w h => atoms_spec (ws := vsX11_in) B.pre w (List.mem_cons_of_mem _ h), B.returns, B.notSynchronized⟩ ⟨hK, fun q h => Or.inr h, hN⟩ x0 x1 x2 S s.heap [] ls ⟨hP, hD0.self, va_S.rf⟩ hl  h
def rmM_X11_add : Room := { frames := 0, cells := 0, slots := 0, locals := 0 }
set_option maxHeartbeats 4000000 in
set_option maxRecDepth 100000 in
theorem bM_X11_add {p : Program} {l : Launch} {e : Env} {s : State} {m : MethodId} {args : Array Value} {below : List Frame} {meth : Method} {c : Code} {D : va_G} {cI : ClassId} {q : Nat → Nat} {A : Nat → Prop} {res : zSt} (C : zCX p s m args meth c cX11_add 3 none zU RX11) (hE : zE D [(cI, .int)] [] A s) (x1 x2 : Int32) (S : zSt) (H : Heap) (locs : List Loc) (ls : Array Slot) (hH : zH D (zwM cI q) A s S H locs) (hl : lv_has ls 3 [(0, .ref (q 32)), (1, .int x1), (2, .int x2)]) (h : fM_X11_add  x1 x2 S = some res) : W p l e rmM_X11_add s m args below meth c H locs 0 0 (zQv below D (zwM cI q) [(cI, .int)] A args s res) (F0 m 0 ls []) := by
  have hx := C.1
  have hb := C.2.1
  unfold fM_X11_add at h
  refine lv_aload_n hx hb dX11_add_0 rfl (lv_at hl 0 rfl) ?_
  refine z_get C hE hH zM_o rfl zh_X11 0 (by decide) zk5_13 (fun _ h9 => h9) (v := .ref (q 0)) rfl dX11_add_1 ?_
  refine lv_aload_n hx hb dX11_add_4 rfl (lv_at hl 0 rfl) ?_
  refine z_get C hE hH zM_o rfl zh_X11 2 (by decide) zk17_18 (fun _ h9 => h9) (v := .int (S.1 2)) rfl dX11_add_5 ?_
  refine lv_iload_n hx hb dX11_add_8 rfl (lv_at hl 1 rfl) ?_
  obtain ⟨g1, h⟩ := zgd_s h
  refine z_iast C hE hH zM_a0 (t0 := 0) rfl g1 zM_r0 dX11_add_9 (fun H locs hH => ?_)
  refine lv_aload_n hx hb dX11_add_10 rfl (lv_at hl 0 rfl) ?_
  refine z_get C hE hH zM_o rfl zh_X11 1 (by decide) zk5_14 (fun _ h9 => h9) (v := .ref (q 1)) rfl dX11_add_11 ?_
  refine lv_aload_n hx hb dX11_add_14 rfl (lv_at hl 0 rfl) ?_
  refine z_get C hE hH zM_o rfl zh_X11 2 (by decide) zk17_18 (fun _ h9 => h9) (v := .int (S.1 2)) rfl dX11_add_15 ?_
  refine lv_iload_n hx hb dX11_add_18 rfl (lv_at hl 2 rfl) ?_
  obtain ⟨g2, h⟩ := zgd_s h
  refine z_iast C hE hH zM_a1 (t0 := 0) rfl g2 zM_r1 dX11_add_19 (fun H locs hH => ?_)
  refine lv_aload_n hx hb dX11_add_20 rfl (lv_at hl 0 rfl) ?_
  refine lv_dup hx hb dX11_add_21 rfl ?_
  refine z_get C hE hH zM_o rfl zh_X11 2 (by decide) zk17_18 (fun _ h9 => h9) (v := .int (S.1 2)) rfl dX11_add_22 ?_
  refine lv_iconst (v := 1) hx hb dX11_add_25 (by decide) ?_
  refine lv_iadd hx hb dX11_add_26 ?_
  refine z_put C hE hH zM_o rfl zh_X11 tyX11_ok nmX11 2 (by decide) zk17_18 (fun _ h9 => h9) rfl (ty := .int) rfl rfl rfl (Nat.le_of_ble_eq_true rfl) zM_i2 dX11_add_27 (fun H locs hH => ?_)
  refine lv_aload_n hx hb dX11_add_30 rfl (lv_at hl 0 rfl) ?_
  refine lv_iconst (v := 0) hx hb dX11_add_31 (by decide) ?_
  refine z_put C hE hH zM_o rfl zh_X11 tyX11_ok nmX11 8 (by decide) zk18_2 (fun _ h9 => h9) rfl (ty := .boolean) rfl rfl rfl (Nat.le_of_ble_eq_true rfl) zM_i8 dX11_add_32 (fun H locs hH => ?_)
  cases h
  exact z_vret C hE hH dX11_add_35
set_option maxHeartbeats 4000000 in
set_option maxRecDepth 100000 in
theorem cM_X11_add (l : Launch) (D : va_G) (cI : ClassId) (q : Nat → Nat) (sz : Nat) (x1 : Int32) (x2 : Int32) (S : zSt) {res : zSt} (h : fM_X11_add x1 x2 S = some res) : zMv l yX11_add vsX11_add rmM_X11_add [.ref (q 32), .int x1, .int x2] D (zwM cI q) [(cI, .int)] [] sz S res := by
  refine Met.ofW (cc := cX11_add) (maxL := 3) (ret := none) (by decide) rfl ?_
  intro p e s m args below meth c s₁ B hml hv
  obtain ⟨rfl, rfl, hP, hK, hD0, hN⟩ := hv
  have hl := lv_entry ([.ref (q 32), .int x1, .int x2]) (n := 3) (Nat.le_of_ble_eq_true rfl)
  rw [lg_entry_eq]
  generalize (lg_sl ([.ref (q 32), .int x1, .int x2]) ++ List.replicate (3 - (lg_sl ([.ref (q 32), .int x1, .int x2])).length) Slot.unset).toArray = ls at hl ⊢
  exact bM_X11_add ⟨B.exec, B.bytes, hml, findClass_of_methodNamed B.named, fun w h => atoms_spec (ws := vsX11_add) B.pre w (List.mem_cons_of_mem _ h), B.returns, B.notSynchronized⟩ ⟨hK, fun q h => Or.inr h, hN⟩ x1 x2 S s.heap [] ls ⟨hP, hD0.self, va_S.rf⟩ hl  h
def rmM_X11_call : Room := { frames := 1, cells := 0, slots := 0, locals := 22 }
set_option maxHeartbeats 4000000 in
set_option maxRecDepth 100000 in
theorem bM_X11_call {p : Program} {l : Launch} {e : Env} {s : State} {m : MethodId} {args : Array Value} {below : List Frame} {meth : Method} {c : Code} {D : va_G} {cI : ClassId} {q : Nat → Nat} {A : Nat → Prop} {res : Int32 × zSt} (C : zCX p s m args meth c cX11_call 3 (some .int) zU RX11) (hE : zE D [(cI, .int)] [] A s) (x1 x2 : Int32) (S : zSt) (H : Heap) (locs : List Loc) (ls : Array Slot) (hH : zH D (zwM cI q) A s S H locs) (hl : lv_has ls 3 [(0, .ref (q 32)), (1, .int x1), (2, .int x2)]) (h : fM_X11_call  x1 x2 S = some res) : W p l e rmM_X11_call s m args below meth c H locs 0 0 (zQi below D (zwM cI q) [(cI, .int)] A args s res.1 res.2) (F0 m 0 ls []) := by
  have hx := C.1
  have hb := C.2.1
  unfold fM_X11_call at h
  refine lv_aload_n hx hb dX11_call_0 rfl (lv_at hl 0 rfl) ?_
  refine lv_iconst (v := 0) hx hb dX11_call_1 (by decide) ?_
  refine z_put C hE hH zM_o rfl zh_X11 tyX11_ok nmX11 7 (by decide) zk17_17 (fun _ h9 => h9) rfl (ty := .int) rfl rfl rfl (Nat.le_of_ble_eq_true rfl) zM_i7 dX11_call_2 (fun H locs hH => ?_)
  refine lv_iload_n hx hb dX11_call_5 rfl (lv_at hl 1 rfl) ?_
  refine lv_iconst (v := 0) hx hb dX11_call_6 (by decide) ?_
  refine lv_bipush (v := 7) hx hb dX11_call_7 (by decide) ?_
  obtain ⟨u1, e2, h⟩ := zbd_s h
  refine z_calli (va_runS (As := [.int x1, .int 0, .int 7]) (rest := []) (z_fix C) (cM_X11_in l D cI q H.size x1 0 7 (zsI S 7 0) e2) (va_cwS 3 C.2.2.2.2.1 (zGS zk17_19 zk17_20 zk1_5 zk17_21) rfl rfl rfl yd_X11_in ⟨Nat.le_of_ble_eq_true rfl, Nat.le_of_ble_eq_true rfl⟩) (z_preS zNm0 hE hH) rfl rfl hl.1 rfl (lv_room (Nat.le_of_ble_eq_true rfl)) dX11_call_9 ⟨Nat.le_refl 0, Nat.le_refl 0⟩) hE hH (fun H locs hH => ?_)
  refine lv_if_eq (tgt := 35) hx hb dX11_call_12 (by decide) (fun c3 => ?_) (fun c3 => ?_)
  · replace h := zif_t c3 h
    refine lv_iconst (v := (-1)) hx hb dX11_call_35 (by decide) ?_
    cases h
    exact z_iret C hE hH dX11_call_36
  · replace h := zif_f c3 h
    refine lv_iload_n hx hb dX11_call_15 rfl (lv_at hl 2 rfl) ?_
    refine lv_iconst (v := 0) hx hb dX11_call_16 (by decide) ?_
    refine lv_bipush (v := 63) hx hb dX11_call_17 (by decide) ?_
    obtain ⟨u4, e5, h⟩ := zbd_s h
    refine z_calli (va_runS (As := [.int x2, .int 0, .int 63]) (rest := []) (z_fix C) (cM_X11_in l D cI q H.size x2 0 63 (zsI S 7 0) e5) (va_cwS 3 C.2.2.2.2.1 (zGS zk17_19 zk17_20 zk1_5 zk17_21) rfl rfl rfl yd_X11_in ⟨Nat.le_of_ble_eq_true rfl, Nat.le_of_ble_eq_true rfl⟩) (z_preS zNm0 hE hH) rfl rfl hl.1 rfl (lv_room (Nat.le_of_ble_eq_true rfl)) dX11_call_19 ⟨Nat.le_refl 0, Nat.le_refl 0⟩) hE hH (fun H locs hH => ?_)
    refine lv_if_eq (tgt := 35) hx hb dX11_call_22 (by decide) (fun c6 => ?_) (fun c6 => ?_)
    · replace h := zif_t c6 h
      refine lv_iconst (v := (-1)) hx hb dX11_call_35 (by decide) ?_
      cases h
      exact z_iret C hE hH dX11_call_36
    · replace h := zif_f c6 h
      refine lv_aload_n hx hb dX11_call_25 rfl (lv_at hl 0 rfl) ?_
      refine z_get C hE hH zM_o rfl zh_X11 2 (by decide) zk17_18 (fun _ h9 => h9) (v := .int (S.1 2)) rfl dX11_call_26 ?_
      refine lv_sipush (v := 200) hx hb dX11_call_29 (by decide) ?_
      refine lv_icmp_ne (tgt := 37) hx hb dX11_call_32 (by decide) (fun c7 => ?_) (fun c7 => ?_)
      · replace h := zif_f c7 h
        refine lv_aload_n hx hb dX11_call_37 rfl (lv_at hl 0 rfl) ?_
        refine lv_iload_n hx hb dX11_call_38 rfl (lv_at hl 1 rfl) ?_
        refine lv_iload_n hx hb dX11_call_39 rfl (lv_at hl 2 rfl) ?_
        obtain ⟨u8, e9, h⟩ := zbd_s h
        refine z_callv (va_runV (As := [.int x1, .int x2]) (rest := []) (z_fix C) (cM_X11_add l D cI q H.size x1 x2 (zsI S 7 0) e9) (cwV 2 C.2.2.2.2.1 (zGV zk17_22 zk17_23 zk18_0 zk1_5 zk18_1) rfl rfl rfl yd_X11_add ⟨Nat.le_of_ble_eq_true rfl, Nat.le_of_ble_eq_true rfl⟩) (z_preV zNm0 hE hH zM_o rfl) rfl rfl hl.1 rfl (lv_room (Nat.le_of_ble_eq_true rfl)) dX11_call_40 ⟨Nat.le_refl 0, Nat.le_refl 0⟩) hE hH (fun H locs hH => ?_)
        refine lv_aload_n hx hb dX11_call_43 rfl (lv_at hl 0 rfl) ?_
        refine z_get C hE hH zM_o rfl zh_X11 2 (by decide) zk17_18 (fun _ h9 => h9) (v := .int (u8.1 2)) rfl dX11_call_44 ?_
        refine lv_iconst (v := 1) hx hb dX11_call_47 (by decide) ?_
        refine lv_isub hx hb dX11_call_48 ?_
        cases h
        exact z_iret C hE hH dX11_call_49
      · replace h := zif_t c7 h
        refine lv_iconst (v := (-1)) hx hb dX11_call_35 (by decide) ?_
        cases h
        exact z_iret C hE hH dX11_call_36
set_option maxHeartbeats 4000000 in
set_option maxRecDepth 100000 in
theorem cM_X11_call (l : Launch) (D : va_G) (cI : ClassId) (q : Nat → Nat) (sz : Nat) (x1 : Int32) (x2 : Int32) (S : zSt) {res : Int32 × zSt} (h : fM_X11_call x1 x2 S = some res) : zMi l yX11_call vsX11_call rmM_X11_call [.ref (q 32), .int x1, .int x2] D (zwM cI q) [(cI, .int)] [] sz S res.1 res.2 := by
  refine Met.ofW (cc := cX11_call) (maxL := 3) (ret := (some .int)) (by decide) rfl ?_
  intro p e s m args below meth c s₁ B hml hv
  obtain ⟨rfl, rfl, hP, hK, hD0, hN⟩ := hv
  have hl := lv_entry ([.ref (q 32), .int x1, .int x2]) (n := 3) (Nat.le_of_ble_eq_true rfl)
  rw [lg_entry_eq]
  generalize (lg_sl ([.ref (q 32), .int x1, .int x2]) ++ List.replicate (3 - (lg_sl ([.ref (q 32), .int x1, .int x2])).length) Slot.unset).toArray = ls at hl ⊢
  exact bM_X11_call ⟨B.exec, B.bytes, hml, findClass_of_methodNamed B.named, fun w h => atoms_spec (ws := vsX11_call) B.pre w (List.mem_cons_of_mem _ h), B.returns, B.notSynchronized⟩ ⟨hK, fun q h => Or.inr h, hN⟩ x1 x2 S s.heap [] ls ⟨hP, hD0.self, va_S.rf⟩ hl  h
def rmM_X11_draw : Room := { frames := 1, cells := 0, slots := 0, locals := 22 }
set_option maxHeartbeats 4000000 in
set_option maxRecDepth 100000 in
theorem bM_X11_draw_112 {p : Program} {l : Launch} {e : Env} {s : State} {m : MethodId} {args : Array Value} {below : List Frame} {meth : Method} {c : Code} {D : va_G} {cI : ClassId} {q : Nat → Nat} {A : Nat → Prop} {res : Int32 × zSt} (C : zCX p s m args meth c cX11_draw 8 (some .int) zU RX11) (hE : zE D [(cI, .int)] [] A s) (K57 : (Int32 → Int32 → Int32 → Int32 → Int32 → zSt → Option (Int32 × zSt))) (hK57 : ∀ (x2 x3 x4 x5 x6 : Int32) (S : zSt) (H : Heap) (locs : List Loc) (ls : Array Slot), zH D (zwM cI q) A s S H locs → lv_has ls 8 [(0, .ref (q 32)), (2, .int x2), (3, .int x3), (4, .int x4), (5, .int x5), (6, .int x6)] → K57 x2 x3 x4 x5 x6 S = some res → W p l e rmM_X11_draw s m args below meth c H locs 0 0 (zQi below D (zwM cI q) [(cI, .int)] A args s res.1 res.2) (F0 m 57 ls [])) (x2 x3 x4 x5 x6 t1 : Int32) (S : zSt) (H : Heap) (locs : List Loc) (ls : Array Slot) (hH : zH D (zwM cI q) A s S H locs) (hl : lv_has ls 8 [(0, .ref (q 32)), (2, .int x2), (3, .int x3), (4, .int x4), (5, .int x5), (6, .int x6)]) (h : fM_X11_draw_112 K57 x2 x3 x4 x5 x6 t1 S = some res) : W p l e rmM_X11_draw s m args below meth c H locs 0 0 (zQi below D (zwM cI q) [(cI, .int)] A args s res.1 res.2) (F0 m 112 ls [.int t1, .ref (q 32)]) := by
  have hx := C.1
  have hb := C.2.1
  unfold fM_X11_draw_112 at h
  refine lv_iload hx hb dX11_draw_112 (lv_at hl 4 rfl) ?_
  refine lv_bipush (v := 16) hx hb dX11_draw_114 (by decide) ?_
  refine lv_iushr (v := zush x5 16) hx hb dX11_draw_116 rfl ?_
  refine lv_iload_n hx hb dX11_draw_117 rfl (lv_at hl 2 rfl) ?_
  obtain ⟨g1, h⟩ := zgd_s h
  refine lv_irem hx hb dX11_draw_118 (znz_v g1) ?_
  obtain ⟨u2, e3, h⟩ := zbd_s h
  refine z_callv (va_runV (As := [.int t1, .int (zrem (zush x5 16) x3)]) (rest := []) (z_fix C) (cM_X11_add l D cI q H.size t1 (zrem (zush x5 16) x3) S e3) (cwV 2 C.2.2.2.2.1 (zGV zk17_22 zk17_23 zk18_0 zk1_5 zk18_1) rfl rfl rfl yd_X11_add ⟨Nat.le_of_ble_eq_true rfl, Nat.le_of_ble_eq_true rfl⟩) (z_preV zNm0 hE hH zM_o rfl) rfl rfl hl.1 rfl (lv_room (Nat.le_of_ble_eq_true rfl)) dX11_draw_119 ⟨Nat.le_refl 0, Nat.le_refl 0⟩) hE hH (fun H locs hH => ?_)
  refine lv_iinc (v := (x6 + 1)) (lv' := [(6, .int (x6 + 1)), (0, .ref (q 32)), (2, .int x2), (3, .int x3), (4, .int x4), (5, .int x5)]) hx hb dX11_draw_122 hl (k := 5) rfl rfl (by decide) rfl (fun ls hl => ?_)
  refine lv_goto (tgt := 57) hx hb dX11_draw_125 (by decide) ?_
  exact hK57 x2 x3 x4 x5 (x6 + 1) u2 H locs ls hH (lv_sub hl [1, 2, 3, 4, 5, 0] rfl) h
set_option maxHeartbeats 4000000 in
set_option maxRecDepth 100000 in
theorem bM_X11_draw_57 {p : Program} {l : Launch} {e : Env} {s : State} {m : MethodId} {args : Array Value} {below : List Frame} {meth : Method} {c : Code} {D : va_G} {cI : ClassId} {q : Nat → Nat} {A : Nat → Prop} {res : Int32 × zSt} (C : zCX p s m args meth c cX11_draw 8 (some .int) zU RX11) (hE : zE D [(cI, .int)] [] A s) : ∀ (n : Nat) (x2 x3 x4 x5 x6 : Int32) (S : zSt) (H : Heap) (locs : List Loc) (ls : Array Slot), zH D (zwM cI q) A s S H locs → lv_has ls 8 [(0, .ref (q 32)), (2, .int x2), (3, .int x3), (4, .int x4), (5, .int x5), (6, .int x6)] → fM_X11_draw_57  n x2 x3 x4 x5 x6 S = some res → W p l e rmM_X11_draw s m args below meth c H locs 0 0 (zQi below D (zwM cI q) [(cI, .int)] A args s res.1 res.2) (F0 m 57 ls []) := by
  have hx := C.1
  have hb := C.2.1
  intro n
  induction n with
  | zero =>
    intro x2 x3 x4 x5 x6 S H locs ls hH hl  h
    cases h
  | succ n hK57 =>
    intro x2 x3 x4 x5 x6 S H locs ls hH hl  h
    rw [fM_X11_draw_57] at h
    refine lv_iload hx hb dX11_draw_57 (lv_at hl 5 rfl) ?_
    refine lv_iload_n hx hb dX11_draw_59 rfl (lv_at hl 1 rfl) ?_
    refine lv_icmp_ge (tgt := 128) hx hb dX11_draw_60 (by decide) (fun c1 => ?_) (fun c1 => ?_)
    · replace h := zif_t c1 h
      refine lv_aload_n hx hb dX11_draw_128 rfl (lv_at hl 0 rfl) ?_
      refine z_get C hE hH zM_o rfl zh_X11 2 (by decide) zk17_18 (fun _ h9 => h9) (v := .int (S.1 2)) rfl dX11_draw_129 ?_
      cases h
      exact z_iret C hE hH dX11_draw_132
    · replace h := zif_f c1 h
      refine lv_iload hx hb dX11_draw_63 (lv_at hl 4 rfl) ?_
      refine lv_ldc (v := 1103515245) hx hb C.2.2.2.1 (C.2.2.2.2.1 _ zk18_15) dX11_draw_65 ?_
      refine lv_imul hx hb dX11_draw_67 ?_
      refine lv_sipush (v := 12345) hx hb dX11_draw_68 (by decide) ?_
      refine lv_iadd hx hb dX11_draw_71 ?_
      refine lv_istore (lv' := [(5, .int ((x5 * 1103515245) + 12345)), (0, .ref (q 32)), (2, .int x2), (3, .int x3), (4, .int x4), (6, .int x6)]) hx hb dX11_draw_72 hl (by decide) rfl (fun ls hl => ?_)
      refine lv_iload hx hb dX11_draw_74 (lv_at hl 0 rfl) ?_
      refine lv_bipush (v := 16) hx hb dX11_draw_76 (by decide) ?_
      refine lv_iushr (v := zush ((x5 * 1103515245) + 12345) 16) hx hb dX11_draw_78 rfl ?_
      refine lv_bipush (v := 8) hx hb dX11_draw_79 (by decide) ?_
      refine lv_irem hx hb dX11_draw_81 (by decide) ?_
      refine lv_istore (lv' := [(7, .int (zrem (zush ((x5 * 1103515245) + 12345) 16) 8)), (5, .int ((x5 * 1103515245) + 12345)), (0, .ref (q 32)), (2, .int x2), (3, .int x3), (4, .int x4), (6, .int x6)]) hx hb dX11_draw_82 hl (by decide) rfl (fun ls hl => ?_)
      refine lv_iload hx hb dX11_draw_84 (lv_at hl 1 rfl) ?_
      refine lv_ldc (v := 1103515245) hx hb C.2.2.2.1 (C.2.2.2.2.1 _ zk18_15) dX11_draw_86 ?_
      refine lv_imul hx hb dX11_draw_88 ?_
      refine lv_sipush (v := 12345) hx hb dX11_draw_89 (by decide) ?_
      refine lv_iadd hx hb dX11_draw_92 ?_
      refine lv_istore (lv' := [(5, .int ((((x5 * 1103515245) + 12345) * 1103515245) + 12345)), (7, .int (zrem (zush ((x5 * 1103515245) + 12345) 16) 8)), (0, .ref (q 32)), (2, .int x2), (3, .int x3), (4, .int x4), (6, .int x6)]) hx hb dX11_draw_93 hl (by decide) rfl (fun ls hl => ?_)
      refine lv_aload_n hx hb dX11_draw_95 rfl (lv_at hl 2 rfl) ?_
      refine lv_iload hx hb dX11_draw_96 (lv_at hl 5 rfl) ?_
      refine lv_iload hx hb dX11_draw_98 (lv_at hl 1 rfl) ?_
      refine lv_ishr hx hb dX11_draw_100 ?_
      refine lv_iconst (v := 1) hx hb dX11_draw_101 (by decide) ?_
      refine lv_iand hx hb dX11_draw_102 ?_
      refine lv_if_ne (tgt := 110) hx hb dX11_draw_103 (by decide) (fun c2 => ?_) (fun c2 => ?_)
      · replace h := zif_f c2 h
        refine lv_iload hx hb dX11_draw_110 (lv_at hl 1 rfl) ?_
        exact bM_X11_draw_112 C hE (fM_X11_draw_57  n) hK57 x2 x3 x4 ((((x5 * 1103515245) + 12345) * 1103515245) + 12345) x6 (zrem (zush ((x5 * 1103515245) + 12345) 16) 8) S H locs ls hH (lv_sub hl [2, 3, 4, 5, 0, 6] rfl) h
      · replace h := zif_t c2 h
        refine lv_iconst (v := 0) hx hb dX11_draw_106 (by decide) ?_
        refine lv_goto (tgt := 112) hx hb dX11_draw_107 (by decide) ?_
        exact bM_X11_draw_112 C hE (fM_X11_draw_57  n) hK57 x2 x3 x4 ((((x5 * 1103515245) + 12345) * 1103515245) + 12345) x6 0 S H locs ls hH (lv_sub hl [2, 3, 4, 5, 0, 6] rfl) h
set_option maxHeartbeats 4000000 in
set_option maxRecDepth 100000 in
theorem bM_X11_draw {p : Program} {l : Launch} {e : Env} {s : State} {m : MethodId} {args : Array Value} {below : List Frame} {meth : Method} {c : Code} {D : va_G} {cI : ClassId} {q : Nat → Nat} {A : Nat → Prop} {res : Int32 × zSt} (C : zCX p s m args meth c cX11_draw 8 (some .int) zU RX11) (hE : zE D [(cI, .int)] [] A s) (x1 x2 x3 x4 : Int32) (S : zSt) (H : Heap) (locs : List Loc) (ls : Array Slot) (hH : zH D (zwM cI q) A s S H locs) (hl : lv_has ls 8 [(0, .ref (q 32)), (1, .int x1), (2, .int x2), (3, .int x3), (4, .int x4)]) (h : fM_X11_draw  x1 x2 x3 x4 S = some res) : W p l e rmM_X11_draw s m args below meth c H locs 0 0 (zQi below D (zwM cI q) [(cI, .int)] A args s res.1 res.2) (F0 m 0 ls []) := by
  have hx := C.1
  have hb := C.2.1
  unfold fM_X11_draw at h
  refine lv_aload_n hx hb dX11_draw_0 rfl (lv_at hl 0 rfl) ?_
  refine lv_iconst (v := 0) hx hb dX11_draw_1 (by decide) ?_
  refine z_put C hE hH zM_o rfl zh_X11 tyX11_ok nmX11 7 (by decide) zk17_17 (fun _ h9 => h9) rfl (ty := .int) rfl rfl rfl (Nat.le_of_ble_eq_true rfl) zM_i7 dX11_draw_2 (fun H locs hH => ?_)
  refine lv_iload_n hx hb dX11_draw_5 rfl (lv_at hl 2 rfl) ?_
  refine lv_iconst (v := 0) hx hb dX11_draw_6 (by decide) ?_
  refine lv_bipush (v := 100) hx hb dX11_draw_7 (by decide) ?_
  obtain ⟨u1, e2, h⟩ := zbd_s h
  refine z_calli (va_runS (As := [.int x2, .int 0, .int 100]) (rest := []) (z_fix C) (cM_X11_in l D cI q H.size x2 0 100 (zsI S 7 0) e2) (va_cwS 3 C.2.2.2.2.1 (zGS zk17_19 zk17_20 zk1_5 zk17_21) rfl rfl rfl yd_X11_in ⟨Nat.le_of_ble_eq_true rfl, Nat.le_of_ble_eq_true rfl⟩) (z_preS zNm0 hE hH) rfl rfl hl.1 rfl (lv_room (Nat.le_of_ble_eq_true rfl)) dX11_draw_9 ⟨Nat.le_refl 0, Nat.le_refl 0⟩) hE hH (fun H locs hH => ?_)
  refine lv_if_eq (tgt := 49) hx hb dX11_draw_12 (by decide) (fun c3 => ?_) (fun c3 => ?_)
  · replace h := zif_t c3 h
    refine lv_iconst (v := (-1)) hx hb dX11_draw_49 (by decide) ?_
    cases h
    exact z_iret C hE hH dX11_draw_50
  · replace h := zif_f c3 h
    refine lv_iload_n hx hb dX11_draw_15 rfl (lv_at hl 3 rfl) ?_
    refine lv_iconst (v := 1) hx hb dX11_draw_16 (by decide) ?_
    refine lv_bipush (v := 64) hx hb dX11_draw_17 (by decide) ?_
    obtain ⟨u4, e5, h⟩ := zbd_s h
    refine z_calli (va_runS (As := [.int x3, .int 1, .int 64]) (rest := []) (z_fix C) (cM_X11_in l D cI q H.size x3 1 64 (zsI S 7 0) e5) (va_cwS 3 C.2.2.2.2.1 (zGS zk17_19 zk17_20 zk1_5 zk17_21) rfl rfl rfl yd_X11_in ⟨Nat.le_of_ble_eq_true rfl, Nat.le_of_ble_eq_true rfl⟩) (z_preS zNm0 hE hH) rfl rfl hl.1 rfl (lv_room (Nat.le_of_ble_eq_true rfl)) dX11_draw_19 ⟨Nat.le_refl 0, Nat.le_refl 0⟩) hE hH (fun H locs hH => ?_)
    refine lv_if_eq (tgt := 49) hx hb dX11_draw_22 (by decide) (fun c6 => ?_) (fun c6 => ?_)
    · replace h := zif_t c6 h
      refine lv_iconst (v := (-1)) hx hb dX11_draw_49 (by decide) ?_
      cases h
      exact z_iret C hE hH dX11_draw_50
    · replace h := zif_f c6 h
      refine lv_iload hx hb dX11_draw_25 (lv_at hl 4 rfl) ?_
      refine lv_iconst (v := 0) hx hb dX11_draw_27 (by decide) ?_
      refine lv_sipush (v := 255) hx hb dX11_draw_28 (by decide) ?_
      obtain ⟨u7, e8, h⟩ := zbd_s h
      refine z_calli (va_runS (As := [.int x4, .int 0, .int 255]) (rest := []) (z_fix C) (cM_X11_in l D cI q H.size x4 0 255 (zsI S 7 0) e8) (va_cwS 3 C.2.2.2.2.1 (zGS zk17_19 zk17_20 zk1_5 zk17_21) rfl rfl rfl yd_X11_in ⟨Nat.le_of_ble_eq_true rfl, Nat.le_of_ble_eq_true rfl⟩) (z_preS zNm0 hE hH) rfl rfl hl.1 rfl (lv_room (Nat.le_of_ble_eq_true rfl)) dX11_draw_31 ⟨Nat.le_refl 0, Nat.le_refl 0⟩) hE hH (fun H locs hH => ?_)
      refine lv_if_eq (tgt := 49) hx hb dX11_draw_34 (by decide) (fun c9 => ?_) (fun c9 => ?_)
      · replace h := zif_t c9 h
        refine lv_iconst (v := (-1)) hx hb dX11_draw_49 (by decide) ?_
        cases h
        exact z_iret C hE hH dX11_draw_50
      · replace h := zif_f c9 h
        refine lv_aload_n hx hb dX11_draw_37 rfl (lv_at hl 0 rfl) ?_
        refine z_get C hE hH zM_o rfl zh_X11 2 (by decide) zk17_18 (fun _ h9 => h9) (v := .int (S.1 2)) rfl dX11_draw_38 ?_
        refine lv_iload_n hx hb dX11_draw_41 rfl (lv_at hl 2 rfl) ?_
        refine lv_iadd hx hb dX11_draw_42 ?_
        refine lv_sipush (v := 200) hx hb dX11_draw_43 (by decide) ?_
        refine lv_icmp_le (tgt := 51) hx hb dX11_draw_46 (by decide) (fun c10 => ?_) (fun c10 => ?_)
        · replace h := zif_t c10 h
          refine lv_iload_n hx hb dX11_draw_51 rfl (lv_at hl 1 rfl) ?_
          refine lv_istore (lv' := [(5, .int x1), (0, .ref (q 32)), (1, .int x1), (2, .int x2), (3, .int x3), (4, .int x4)]) hx hb dX11_draw_52 hl (by decide) rfl (fun ls hl => ?_)
          refine lv_iconst (v := 0) hx hb dX11_draw_54 (by decide) ?_
          refine lv_istore (lv' := [(6, .int 0), (5, .int x1), (0, .ref (q 32)), (1, .int x1), (2, .int x2), (3, .int x3), (4, .int x4)]) hx hb dX11_draw_55 hl (by decide) rfl (fun ls hl => ?_)
          exact bM_X11_draw_57 C hE   1000 x2 x3 x4 x1 0 (zsI S 7 0) H locs ls hH (lv_sub hl [2, 4, 5, 6, 1, 0] rfl) h
        · replace h := zif_f c10 h
          refine lv_iconst (v := (-1)) hx hb dX11_draw_49 (by decide) ?_
          cases h
          exact z_iret C hE hH dX11_draw_50
set_option maxHeartbeats 4000000 in
set_option maxRecDepth 100000 in
theorem cM_X11_draw (l : Launch) (D : va_G) (cI : ClassId) (q : Nat → Nat) (sz : Nat) (x1 : Int32) (x2 : Int32) (x3 : Int32) (x4 : Int32) (S : zSt) {res : Int32 × zSt} (h : fM_X11_draw x1 x2 x3 x4 S = some res) : zMi l yX11_draw vsX11_draw rmM_X11_draw [.ref (q 32), .int x1, .int x2, .int x3, .int x4] D (zwM cI q) [(cI, .int)] [] sz S res.1 res.2 := by
  refine Met.ofW (cc := cX11_draw) (maxL := 8) (ret := (some .int)) (by decide) rfl ?_
  intro p e s m args below meth c s₁ B hml hv
  obtain ⟨rfl, rfl, hP, hK, hD0, hN⟩ := hv
  have hl := lv_entry ([.ref (q 32), .int x1, .int x2, .int x3, .int x4]) (n := 8) (Nat.le_of_ble_eq_true rfl)
  rw [lg_entry_eq]
  generalize (lg_sl ([.ref (q 32), .int x1, .int x2, .int x3, .int x4]) ++ List.replicate (8 - (lg_sl ([.ref (q 32), .int x1, .int x2, .int x3, .int x4])).length) Slot.unset).toArray = ls at hl ⊢
  exact bM_X11_draw ⟨B.exec, B.bytes, hml, findClass_of_methodNamed B.named, fun w h => atoms_spec (ws := vsX11_draw) B.pre w (List.mem_cons_of_mem _ h), B.returns, B.notSynchronized⟩ ⟨hK, fun q h => Or.inr h, hN⟩ x1 x2 x3 x4 S s.heap [] ls ⟨hP, hD0.self, va_S.rf⟩ hl  h
def rmM_X11_drop : Room := { frames := 1, cells := 0, slots := 0, locals := 22 }
set_option maxHeartbeats 4000000 in
set_option maxRecDepth 100000 in
theorem bM_X11_drop {p : Program} {l : Launch} {e : Env} {s : State} {m : MethodId} {args : Array Value} {below : List Frame} {meth : Method} {c : Code} {D : va_G} {cI : ClassId} {q : Nat → Nat} {A : Nat → Prop} {res : Int32 × zSt} (C : zCX p s m args meth c cX11_drop 2 (some .int) zU RX11) (hE : zE D [(cI, .int)] [] A s) (x1 : Int32) (S : zSt) (H : Heap) (locs : List Loc) (ls : Array Slot) (hH : zH D (zwM cI q) A s S H locs) (hl : lv_has ls 2 [(0, .ref (q 32)), (1, .int x1)]) (h : fM_X11_drop  x1 S = some res) : W p l e rmM_X11_drop s m args below meth c H locs 0 0 (zQi below D (zwM cI q) [(cI, .int)] A args s res.1 res.2) (F0 m 0 ls []) := by
  have hx := C.1
  have hb := C.2.1
  unfold fM_X11_drop at h
  refine lv_aload_n hx hb dX11_drop_0 rfl (lv_at hl 0 rfl) ?_
  refine lv_iconst (v := 0) hx hb dX11_drop_1 (by decide) ?_
  refine z_put C hE hH zM_o rfl zh_X11 tyX11_ok nmX11 7 (by decide) zk17_17 (fun _ h9 => h9) rfl (ty := .int) rfl rfl rfl (Nat.le_of_ble_eq_true rfl) zM_i7 dX11_drop_2 (fun H locs hH => ?_)
  refine lv_iload_n hx hb dX11_drop_5 rfl (lv_at hl 1 rfl) ?_
  refine lv_iconst (v := 0) hx hb dX11_drop_6 (by decide) ?_
  refine lv_aload_n hx hb dX11_drop_7 rfl (lv_at hl 0 rfl) ?_
  refine z_get C hE hH zM_o rfl zh_X11 2 (by decide) zk17_18 (fun _ h9 => h9) (v := .int (S.1 2)) rfl dX11_drop_8 ?_
  obtain ⟨u1, e2, h⟩ := zbd_s h
  refine z_calli (va_runS (As := [.int x1, .int 0, .int (S.1 2)]) (rest := []) (z_fix C) (cM_X11_in l D cI q H.size x1 0 (S.1 2) (zsI S 7 0) e2) (va_cwS 3 C.2.2.2.2.1 (zGS zk17_19 zk17_20 zk1_5 zk17_21) rfl rfl rfl yd_X11_in ⟨Nat.le_of_ble_eq_true rfl, Nat.le_of_ble_eq_true rfl⟩) (z_preS zNm0 hE hH) rfl rfl hl.1 rfl (lv_room (Nat.le_of_ble_eq_true rfl)) dX11_drop_11 ⟨Nat.le_refl 0, Nat.le_refl 0⟩) hE hH (fun H locs hH => ?_)
  refine lv_if_ne (tgt := 19) hx hb dX11_drop_14 (by decide) (fun c3 => ?_) (fun c3 => ?_)
  · replace h := zif_f c3 h
    refine lv_aload_n hx hb dX11_drop_19 rfl (lv_at hl 0 rfl) ?_
    refine lv_dup hx hb dX11_drop_20 rfl ?_
    refine z_get C hE hH zM_o rfl zh_X11 2 (by decide) zk17_18 (fun _ h9 => h9) (v := .int (S.1 2)) rfl dX11_drop_21 ?_
    refine lv_iload_n hx hb dX11_drop_24 rfl (lv_at hl 1 rfl) ?_
    refine lv_isub hx hb dX11_drop_25 ?_
    refine z_put C hE hH zM_o rfl zh_X11 tyX11_ok nmX11 2 (by decide) zk17_18 (fun _ h9 => h9) rfl (ty := .int) rfl rfl rfl (Nat.le_of_ble_eq_true rfl) zM_i2 dX11_drop_26 (fun H locs hH => ?_)
    refine lv_aload_n hx hb dX11_drop_29 rfl (lv_at hl 0 rfl) ?_
    refine lv_iconst (v := 0) hx hb dX11_drop_30 (by decide) ?_
    refine z_put C hE hH zM_o rfl zh_X11 tyX11_ok nmX11 8 (by decide) zk18_2 (fun _ h9 => h9) rfl (ty := .boolean) rfl rfl rfl (Nat.le_of_ble_eq_true rfl) zM_i8 dX11_drop_31 (fun H locs hH => ?_)
    refine lv_aload_n hx hb dX11_drop_34 rfl (lv_at hl 0 rfl) ?_
    refine z_get C hE hH zM_o rfl zh_X11 2 (by decide) zk17_18 (fun _ h9 => h9) (v := .int ((S.1 2) - x1)) rfl dX11_drop_35 ?_
    cases h
    exact z_iret C hE hH dX11_drop_38
  · replace h := zif_t c3 h
    refine lv_iconst (v := (-1)) hx hb dX11_drop_17 (by decide) ?_
    cases h
    exact z_iret C hE hH dX11_drop_18
set_option maxHeartbeats 4000000 in
set_option maxRecDepth 100000 in
theorem cM_X11_drop (l : Launch) (D : va_G) (cI : ClassId) (q : Nat → Nat) (sz : Nat) (x1 : Int32) (S : zSt) {res : Int32 × zSt} (h : fM_X11_drop x1 S = some res) : zMi l yX11_drop vsX11_drop rmM_X11_drop [.ref (q 32), .int x1] D (zwM cI q) [(cI, .int)] [] sz S res.1 res.2 := by
  refine Met.ofW (cc := cX11_drop) (maxL := 2) (ret := (some .int)) (by decide) rfl ?_
  intro p e s m args below meth c s₁ B hml hv
  obtain ⟨rfl, rfl, hP, hK, hD0, hN⟩ := hv
  have hl := lv_entry ([.ref (q 32), .int x1]) (n := 2) (Nat.le_of_ble_eq_true rfl)
  rw [lg_entry_eq]
  generalize (lg_sl ([.ref (q 32), .int x1]) ++ List.replicate (2 - (lg_sl ([.ref (q 32), .int x1])).length) Slot.unset).toArray = ls at hl ⊢
  exact bM_X11_drop ⟨B.exec, B.bytes, hml, findClass_of_methodNamed B.named, fun w h => atoms_spec (ws := vsX11_drop) B.pre w (List.mem_cons_of_mem _ h), B.returns, B.notSynchronized⟩ ⟨hK, fun q h => Or.inr h, hN⟩ x1 S s.heap [] ls ⟨hP, hD0.self, va_S.rf⟩ hl  h
def rmM_X11_law : Room := { frames := 1, cells := 0, slots := 0, locals := 22 }
set_option maxHeartbeats 4000000 in
set_option maxRecDepth 100000 in
theorem bM_X11_law {p : Program} {l : Launch} {e : Env} {s : State} {m : MethodId} {args : Array Value} {below : List Frame} {meth : Method} {c : Code} {D : va_G} {cI : ClassId} {q : Nat → Nat} {A : Nat → Prop} {res : Int32 × zSt} (C : zCX p s m args meth c cX11_law 3 (some .boolean) zU RX11) (hE : zE D [(cI, .int)] [] A s) (x1 x2 : Int32) (S : zSt) (H : Heap) (locs : List Loc) (ls : Array Slot) (hH : zH D (zwM cI q) A s S H locs) (hl : lv_has ls 3 [(0, .ref (q 32)), (1, .int x1), (2, .int x2)]) (h : fM_X11_law  x1 x2 S = some res) : W p l e rmM_X11_law s m args below meth c H locs 0 0 (zQi below D (zwM cI q) [(cI, .int)] A args s res.1 res.2) (F0 m 0 ls []) := by
  have hx := C.1
  have hb := C.2.1
  unfold fM_X11_law at h
  refine lv_aload_n hx hb dX11_law_0 rfl (lv_at hl 0 rfl) ?_
  refine lv_iconst (v := 0) hx hb dX11_law_1 (by decide) ?_
  refine z_put C hE hH zM_o rfl zh_X11 tyX11_ok nmX11 7 (by decide) zk17_17 (fun _ h9 => h9) rfl (ty := .int) rfl rfl rfl (Nat.le_of_ble_eq_true rfl) zM_i7 dX11_law_2 (fun H locs hH => ?_)
  refine lv_iload_n hx hb dX11_law_5 rfl (lv_at hl 1 rfl) ?_
  refine lv_iconst (v := 1) hx hb dX11_law_6 (by decide) ?_
  refine lv_iconst (v := 2) hx hb dX11_law_7 (by decide) ?_
  obtain ⟨u1, e2, h⟩ := zbd_s h
  refine z_calli (va_runS (As := [.int x1, .int 1, .int 2]) (rest := []) (z_fix C) (cM_X11_in l D cI q H.size x1 1 2 (zsI S 7 0) e2) (va_cwS 3 C.2.2.2.2.1 (zGS zk17_19 zk17_20 zk1_5 zk17_21) rfl rfl rfl yd_X11_in ⟨Nat.le_of_ble_eq_true rfl, Nat.le_of_ble_eq_true rfl⟩) (z_preS zNm0 hE hH) rfl rfl hl.1 rfl (lv_room (Nat.le_of_ble_eq_true rfl)) dX11_law_8 ⟨Nat.le_refl 0, Nat.le_refl 0⟩) hE hH (fun H locs hH => ?_)
  refine lv_if_ne (tgt := 16) hx hb dX11_law_11 (by decide) (fun c3 => ?_) (fun c3 => ?_)
  · replace h := zif_f c3 h
    refine lv_iload_n hx hb dX11_law_16 rfl (lv_at hl 1 rfl) ?_
    refine lv_iconst (v := 1) hx hb dX11_law_17 (by decide) ?_
    refine lv_icmp_ne (tgt := 29) hx hb dX11_law_18 (by decide) (fun c4 => ?_) (fun c4 => ?_)
    · replace h := zif_f c4 h
      refine lv_aload_n hx hb dX11_law_29 rfl (lv_at hl 0 rfl) ?_
      refine lv_iload_n hx hb dX11_law_30 rfl (lv_at hl 2 rfl) ?_
      obtain ⟨g5, h⟩ := zgd_s h
      refine z_put C hE hH zM_o rfl zh_X11 tyX11_ok nmX11 4 (by decide) zk20_20 (fun _ h9 => h9) rfl (ty := .boolean) rfl (zbo_n g5) (zbo_f g5) (Nat.le_of_ble_eq_true rfl) zM_i4 dX11_law_31 (fun H locs hH => ?_)
      refine lv_iconst (v := 1) hx hb dX11_law_34 (by decide) ?_
      cases h
      exact z_zret (v := 1) C hE hH zb_1 dX11_law_35
    · replace h := zif_t c4 h
      refine lv_aload_n hx hb dX11_law_21 rfl (lv_at hl 0 rfl) ?_
      refine lv_iload_n hx hb dX11_law_22 rfl (lv_at hl 2 rfl) ?_
      obtain ⟨g6, h⟩ := zgd_s h
      refine z_put C hE hH zM_o rfl zh_X11 tyX11_ok nmX11 3 (by decide) zk20_19 (fun _ h9 => h9) rfl (ty := .boolean) rfl (zbo_n g6) (zbo_f g6) (Nat.le_of_ble_eq_true rfl) zM_i3 dX11_law_23 (fun H locs hH => ?_)
      refine lv_goto (tgt := 34) hx hb dX11_law_26 (by decide) ?_
      refine lv_iconst (v := 1) hx hb dX11_law_34 (by decide) ?_
      cases h
      exact z_zret (v := 1) C hE hH zb_1 dX11_law_35
  · replace h := zif_t c3 h
    refine lv_iconst (v := 0) hx hb dX11_law_14 (by decide) ?_
    cases h
    exact z_zret (v := 0) C hE hH zb_0 dX11_law_15
set_option maxHeartbeats 4000000 in
set_option maxRecDepth 100000 in
theorem cM_X11_law (l : Launch) (D : va_G) (cI : ClassId) (q : Nat → Nat) (sz : Nat) (x1 : Int32) (x2 : Int32) (S : zSt) {res : Int32 × zSt} (h : fM_X11_law x1 x2 S = some res) : zMi l yX11_law vsX11_law rmM_X11_law [.ref (q 32), .int x1, .int x2] D (zwM cI q) [(cI, .int)] [] sz S res.1 res.2 := by
  refine Met.ofW (cc := cX11_law) (maxL := 3) (ret := (some .boolean)) (by decide) rfl ?_
  intro p e s m args below meth c s₁ B hml hv
  obtain ⟨rfl, rfl, hP, hK, hD0, hN⟩ := hv
  have hl := lv_entry ([.ref (q 32), .int x1, .int x2]) (n := 3) (Nat.le_of_ble_eq_true rfl)
  rw [lg_entry_eq]
  generalize (lg_sl ([.ref (q 32), .int x1, .int x2]) ++ List.replicate (3 - (lg_sl ([.ref (q 32), .int x1, .int x2])).length) Slot.unset).toArray = ls at hl ⊢
  exact bM_X11_law ⟨B.exec, B.bytes, hml, findClass_of_methodNamed B.named, fun w h => atoms_spec (ws := vsX11_law) B.pre w (List.mem_cons_of_mem _ h), B.returns, B.notSynchronized⟩ ⟨hK, fun q h => Or.inr h, hN⟩ x1 x2 S s.heap [] ls ⟨hP, hD0.self, va_S.rf⟩ hl  h
def rmM_X11_set : Room := { frames := 1, cells := 0, slots := 0, locals := 22 }
set_option maxHeartbeats 4000000 in
set_option maxRecDepth 100000 in
theorem bM_X11_set_42 {p : Program} {l : Launch} {e : Env} {s : State} {m : MethodId} {args : Array Value} {below : List Frame} {meth : Method} {c : Code} {D : va_G} {cI : ClassId} {q : Nat → Nat} {A : Nat → Prop} {res : Int32 × zSt} (C : zCX p s m args meth c cX11_set 4 (some .int) zU RX11) (hE : zE D [(cI, .int)] [] A s) (x1 x2 t0 : Int32) (S : zSt) (H : Heap) (locs : List Loc) (ls : Array Slot) (hH : zH D (zwM cI q) A s S H locs) (hl : lv_has ls 4 [(0, .ref (q 32)), (1, .int x1), (2, .int x2)]) (h : fM_X11_set_42  x1 x2 t0 S = some res) : W p l e rmM_X11_set s m args below meth c H locs 0 0 (zQi below D (zwM cI q) [(cI, .int)] A args s res.1 res.2) (F0 m 42 ls [.int t0]) := by
  have hx := C.1
  have hb := C.2.1
  unfold fM_X11_set_42 at h
  refine lv_istore_n (lv' := [(3, .int t0), (0, .ref (q 32)), (1, .int x1), (2, .int x2)]) hx hb dX11_set_42 rfl hl (by decide) rfl (fun ls hl => ?_)
  refine lv_iload_n hx hb dX11_set_43 rfl (lv_at hl 2 rfl) ?_
  refine lv_if_ne (tgt := 55) hx hb dX11_set_44 (by decide) (fun c1 => ?_) (fun c1 => ?_)
  · replace h := zif_f c1 h
    refine lv_aload_n hx hb dX11_set_55 rfl (lv_at hl 1 rfl) ?_
    refine lv_iload_n hx hb dX11_set_56 rfl (lv_at hl 3 rfl) ?_
    refine z_put C hE hH zM_o rfl zh_X11 tyX11_ok nmX11 6 (by decide) zk5_16 (fun _ h9 => h9) rfl (ty := .int) rfl rfl rfl (Nat.le_of_ble_eq_true rfl) zM_i6 dX11_set_57 (fun H locs hH => ?_)
    refine lv_iload_n hx hb dX11_set_60 rfl (lv_at hl 0 rfl) ?_
    cases h
    exact z_iret C hE hH dX11_set_61
  · replace h := zif_t c1 h
    refine lv_aload_n hx hb dX11_set_47 rfl (lv_at hl 1 rfl) ?_
    refine lv_iload_n hx hb dX11_set_48 rfl (lv_at hl 3 rfl) ?_
    refine z_put C hE hH zM_o rfl zh_X11 tyX11_ok nmX11 5 (by decide) zk5_15 (fun _ h9 => h9) rfl (ty := .int) rfl rfl rfl (Nat.le_of_ble_eq_true rfl) zM_i5 dX11_set_49 (fun H locs hH => ?_)
    refine lv_goto (tgt := 60) hx hb dX11_set_52 (by decide) ?_
    refine lv_iload_n hx hb dX11_set_60 rfl (lv_at hl 0 rfl) ?_
    cases h
    exact z_iret C hE hH dX11_set_61
set_option maxHeartbeats 4000000 in
set_option maxRecDepth 100000 in
theorem bM_X11_set {p : Program} {l : Launch} {e : Env} {s : State} {m : MethodId} {args : Array Value} {below : List Frame} {meth : Method} {c : Code} {D : va_G} {cI : ClassId} {q : Nat → Nat} {A : Nat → Prop} {res : Int32 × zSt} (C : zCX p s m args meth c cX11_set 4 (some .int) zU RX11) (hE : zE D [(cI, .int)] [] A s) (x1 x2 : Int32) (S : zSt) (H : Heap) (locs : List Loc) (ls : Array Slot) (hH : zH D (zwM cI q) A s S H locs) (hl : lv_has ls 4 [(0, .ref (q 32)), (1, .int x1), (2, .int x2)]) (h : fM_X11_set  x1 x2 S = some res) : W p l e rmM_X11_set s m args below meth c H locs 0 0 (zQi below D (zwM cI q) [(cI, .int)] A args s res.1 res.2) (F0 m 0 ls []) := by
  have hx := C.1
  have hb := C.2.1
  unfold fM_X11_set at h
  refine lv_aload_n hx hb dX11_set_0 rfl (lv_at hl 0 rfl) ?_
  refine lv_iconst (v := 0) hx hb dX11_set_1 (by decide) ?_
  refine z_put C hE hH zM_o rfl zh_X11 tyX11_ok nmX11 7 (by decide) zk17_17 (fun _ h9 => h9) rfl (ty := .int) rfl rfl rfl (Nat.le_of_ble_eq_true rfl) zM_i7 dX11_set_2 (fun H locs hH => ?_)
  refine lv_iload_n hx hb dX11_set_5 rfl (lv_at hl 1 rfl) ?_
  refine lv_iconst (v := 0) hx hb dX11_set_6 (by decide) ?_
  refine lv_iconst (v := 1) hx hb dX11_set_7 (by decide) ?_
  obtain ⟨u1, e2, h⟩ := zbd_s h
  refine z_calli (va_runS (As := [.int x1, .int 0, .int 1]) (rest := []) (z_fix C) (cM_X11_in l D cI q H.size x1 0 1 (zsI S 7 0) e2) (va_cwS 3 C.2.2.2.2.1 (zGS zk17_19 zk17_20 zk1_5 zk17_21) rfl rfl rfl yd_X11_in ⟨Nat.le_of_ble_eq_true rfl, Nat.le_of_ble_eq_true rfl⟩) (z_preS zNm0 hE hH) rfl rfl hl.1 rfl (lv_room (Nat.le_of_ble_eq_true rfl)) dX11_set_8 ⟨Nat.le_refl 0, Nat.le_refl 0⟩) hE hH (fun H locs hH => ?_)
  refine lv_if_eq (tgt := 25) hx hb dX11_set_11 (by decide) (fun c3 => ?_) (fun c3 => ?_)
  · replace h := zif_t c3 h
    refine lv_iconst (v := (-1)) hx hb dX11_set_25 (by decide) ?_
    cases h
    exact z_iret C hE hH dX11_set_26
  · replace h := zif_f c3 h
    refine lv_iload_n hx hb dX11_set_14 rfl (lv_at hl 2 rfl) ?_
    refine lv_iconst (v := 0) hx hb dX11_set_15 (by decide) ?_
    refine lv_sipush (v := 1000) hx hb dX11_set_16 (by decide) ?_
    obtain ⟨u4, e5, h⟩ := zbd_s h
    refine z_calli (va_runS (As := [.int x2, .int 0, .int 1000]) (rest := []) (z_fix C) (cM_X11_in l D cI q H.size x2 0 1000 (zsI S 7 0) e5) (va_cwS 3 C.2.2.2.2.1 (zGS zk17_19 zk17_20 zk1_5 zk17_21) rfl rfl rfl yd_X11_in ⟨Nat.le_of_ble_eq_true rfl, Nat.le_of_ble_eq_true rfl⟩) (z_preS zNm0 hE hH) rfl rfl hl.1 rfl (lv_room (Nat.le_of_ble_eq_true rfl)) dX11_set_19 ⟨Nat.le_refl 0, Nat.le_refl 0⟩) hE hH (fun H locs hH => ?_)
    refine lv_if_ne (tgt := 27) hx hb dX11_set_22 (by decide) (fun c6 => ?_) (fun c6 => ?_)
    · replace h := zif_f c6 h
      refine lv_iload_n hx hb dX11_set_27 rfl (lv_at hl 1 rfl) ?_
      refine lv_if_ne (tgt := 38) hx hb dX11_set_28 (by decide) (fun c7 => ?_) (fun c7 => ?_)
      · replace h := zif_f c7 h
        refine lv_aload_n hx hb dX11_set_38 rfl (lv_at hl 0 rfl) ?_
        refine z_get C hE hH zM_o rfl zh_X11 6 (by decide) zk5_16 (fun _ h9 => h9) (v := .int (S.1 6)) rfl dX11_set_39 ?_
        exact bM_X11_set_42 C hE   x1 x2 (S.1 6) (zsI S 7 0) H locs ls hH (lv_sub hl [0, 1, 2] rfl) h
      · replace h := zif_t c7 h
        refine lv_aload_n hx hb dX11_set_31 rfl (lv_at hl 0 rfl) ?_
        refine z_get C hE hH zM_o rfl zh_X11 5 (by decide) zk5_15 (fun _ h9 => h9) (v := .int (S.1 5)) rfl dX11_set_32 ?_
        refine lv_goto (tgt := 42) hx hb dX11_set_35 (by decide) ?_
        exact bM_X11_set_42 C hE   x1 x2 (S.1 5) (zsI S 7 0) H locs ls hH (lv_sub hl [0, 1, 2] rfl) h
    · replace h := zif_t c6 h
      refine lv_iconst (v := (-1)) hx hb dX11_set_25 (by decide) ?_
      cases h
      exact z_iret C hE hH dX11_set_26
set_option maxHeartbeats 4000000 in
set_option maxRecDepth 100000 in
theorem cM_X11_set (l : Launch) (D : va_G) (cI : ClassId) (q : Nat → Nat) (sz : Nat) (x1 : Int32) (x2 : Int32) (S : zSt) {res : Int32 × zSt} (h : fM_X11_set x1 x2 S = some res) : zMi l yX11_set vsX11_set rmM_X11_set [.ref (q 32), .int x1, .int x2] D (zwM cI q) [(cI, .int)] [] sz S res.1 res.2 := by
  refine Met.ofW (cc := cX11_set) (maxL := 4) (ret := (some .int)) (by decide) rfl ?_
  intro p e s m args below meth c s₁ B hml hv
  obtain ⟨rfl, rfl, hP, hK, hD0, hN⟩ := hv
  have hl := lv_entry ([.ref (q 32), .int x1, .int x2]) (n := 4) (Nat.le_of_ble_eq_true rfl)
  rw [lg_entry_eq]
  generalize (lg_sl ([.ref (q 32), .int x1, .int x2]) ++ List.replicate (4 - (lg_sl ([.ref (q 32), .int x1, .int x2])).length) Slot.unset).toArray = ls at hl ⊢
  exact bM_X11_set ⟨B.exec, B.bytes, hml, findClass_of_methodNamed B.named, fun w h => atoms_spec (ws := vsX11_set) B.pre w (List.mem_cons_of_mem _ h), B.returns, B.notSynchronized⟩ ⟨hK, fun q h => Or.inr h, hN⟩ x1 x2 S s.heap [] ls ⟨hP, hD0.self, va_S.rf⟩ hl  h
def rmM_X11_nextKey : Room := { frames := 0, cells := 0, slots := 0, locals := 0 }
set_option maxHeartbeats 4000000 in
set_option maxRecDepth 100000 in
theorem bM_X11_nextKey_2 {p : Program} {l : Launch} {e : Env} {s : State} {m : MethodId} {args : Array Value} {below : List Frame} {meth : Method} {c : Code} {D : va_G} {cI : ClassId} {q : Nat → Nat} {A : Nat → Prop} {res : Int32} (C : zCX p s m args meth c cX11_nextKey 3 (some .int) zU RX11) (hE : zE D [(cI, .int)] [] A s) : ∀ (n : Nat) (x2 : Int32) (S : zSt) (H : Heap) (locs : List Loc) (ls : Array Slot), zH D (zwM cI q) A s S H locs → lv_has ls 3 [(0, .ref (q 32)), (2, .int x2)] → fM_X11_nextKey_2  n x2 S = some res → W p l e rmM_X11_nextKey s m args below meth c H locs 0 0 (zQi below D (zwM cI q) [(cI, .int)] A args s res S) (F0 m 2 ls []) := by
  have hx := C.1
  have hb := C.2.1
  intro n
  induction n with
  | zero =>
    intro x2 S H locs ls hH hl  h
    cases h
  | succ n hK2 =>
    intro x2 S H locs ls hH hl  h
    rw [fM_X11_nextKey_2] at h
    refine lv_iload_n hx hb dX11_nextKey_2 rfl (lv_at hl 1 rfl) ?_
    refine lv_bipush (v := 64) hx hb dX11_nextKey_3 (by decide) ?_
    refine lv_icmp_ge (tgt := 25) hx hb dX11_nextKey_5 (by decide) (fun c1 => ?_) (fun c1 => ?_)
    · replace h := zif_t c1 h
      refine lv_iconst (v := (-1)) hx hb dX11_nextKey_25 (by decide) ?_
      cases h
      exact z_iret C hE hH dX11_nextKey_26
    · replace h := zif_f c1 h
      refine lv_aload_n hx hb dX11_nextKey_8 rfl (lv_at hl 0 rfl) ?_
      refine z_get C hE hH zM_o rfl zh_X11 24 (by decide) zk6_5 (fun _ h9 => h9) (v := .ref (q 24)) rfl dX11_nextKey_9 ?_
      refine lv_iload_n hx hb dX11_nextKey_12 rfl (lv_at hl 1 rfl) ?_
      obtain ⟨g2, h⟩ := zgd_s h
      refine z_iald C hE hH zM_a24 (t0 := 0) rfl g2 dX11_nextKey_13 ?_
      refine lv_if_le (tgt := 19) hx hb dX11_nextKey_14 (by decide) (fun c3 => ?_) (fun c3 => ?_)
      · replace h := zif_t c3 h
        refine lv_iinc (v := (x2 + 1)) (lv' := [(2, .int (x2 + 1)), (0, .ref (q 32))]) hx hb dX11_nextKey_19 hl (k := 1) rfl rfl (by decide) rfl (fun ls hl => ?_)
        refine lv_goto (tgt := 2) hx hb dX11_nextKey_22 (by decide) ?_
        exact hK2 (x2 + 1) S H locs ls hH (lv_sub hl [1, 0] rfl) h
      · replace h := zif_f c3 h
        refine lv_iload_n hx hb dX11_nextKey_17 rfl (lv_at hl 1 rfl) ?_
        cases h
        exact z_iret C hE hH dX11_nextKey_18
set_option maxHeartbeats 4000000 in
set_option maxRecDepth 100000 in
theorem bM_X11_nextKey {p : Program} {l : Launch} {e : Env} {s : State} {m : MethodId} {args : Array Value} {below : List Frame} {meth : Method} {c : Code} {D : va_G} {cI : ClassId} {q : Nat → Nat} {A : Nat → Prop} {res : Int32} (C : zCX p s m args meth c cX11_nextKey 3 (some .int) zU RX11) (hE : zE D [(cI, .int)] [] A s) (x1 : Int32) (S : zSt) (H : Heap) (locs : List Loc) (ls : Array Slot) (hH : zH D (zwM cI q) A s S H locs) (hl : lv_has ls 3 [(0, .ref (q 32)), (1, .int x1)]) (h : fM_X11_nextKey  x1 S = some res) : W p l e rmM_X11_nextKey s m args below meth c H locs 0 0 (zQi below D (zwM cI q) [(cI, .int)] A args s res S) (F0 m 0 ls []) := by
  have hx := C.1
  have hb := C.2.1
  unfold fM_X11_nextKey at h
  refine lv_iload_n hx hb dX11_nextKey_0 rfl (lv_at hl 1 rfl) ?_
  refine lv_istore_n (lv' := [(2, .int x1), (0, .ref (q 32)), (1, .int x1)]) hx hb dX11_nextKey_1 rfl hl (by decide) rfl (fun ls hl => ?_)
  exact bM_X11_nextKey_2 C hE   1000 x1 S H locs ls hH (lv_sub hl [1, 0] rfl) h
set_option maxHeartbeats 4000000 in
set_option maxRecDepth 100000 in
theorem cM_X11_nextKey (l : Launch) (D : va_G) (cI : ClassId) (q : Nat → Nat) (sz : Nat) (x1 : Int32) (S : zSt) {res : Int32} (h : fM_X11_nextKey x1 S = some res) : zMi l yX11_nextKey vsX11_nextKey rmM_X11_nextKey [.ref (q 32), .int x1] D (zwM cI q) [(cI, .int)] [] sz S res S := by
  refine Met.ofW (cc := cX11_nextKey) (maxL := 3) (ret := (some .int)) (by decide) rfl ?_
  intro p e s m args below meth c s₁ B hml hv
  obtain ⟨rfl, rfl, hP, hK, hD0, hN⟩ := hv
  have hl := lv_entry ([.ref (q 32), .int x1]) (n := 3) (Nat.le_of_ble_eq_true rfl)
  rw [lg_entry_eq]
  generalize (lg_sl ([.ref (q 32), .int x1]) ++ List.replicate (3 - (lg_sl ([.ref (q 32), .int x1])).length) Slot.unset).toArray = ls at hl ⊢
  exact bM_X11_nextKey ⟨B.exec, B.bytes, hml, findClass_of_methodNamed B.named, fun w h => atoms_spec (ws := vsX11_nextKey) B.pre w (List.mem_cons_of_mem _ h), B.returns, B.notSynchronized⟩ ⟨hK, fun q h => Or.inr h, hN⟩ x1 S s.heap [] ls ⟨hP, hD0.self, va_S.rf⟩ hl  h
def rmM_X11_grow : Room := { frames := 0, cells := 0, slots := 0, locals := 0 }
set_option maxHeartbeats 4000000 in
set_option maxRecDepth 100000 in
theorem bM_X11_grow {p : Program} {l : Launch} {e : Env} {s : State} {m : MethodId} {args : Array Value} {below : List Frame} {meth : Method} {c : Code} {D : va_G} {cI : ClassId} {q : Nat → Nat} {A : Nat → Prop} {res : Int32 × zSt} (C : zCX p s m args meth c cX11_grow 2 (some .int) zU RX11) (hE : zE D [(cI, .int)] [] A s) (x1 : Int32) (S : zSt) (H : Heap) (locs : List Loc) (ls : Array Slot) (hH : zH D (zwM cI q) A s S H locs) (hl : lv_has ls 2 [(0, .ref (q 32)), (1, .int x1)]) (h : fM_X11_grow  x1 S = some res) : W p l e rmM_X11_grow s m args below meth c H locs 0 0 (zQi below D (zwM cI q) [(cI, .int)] A args s res.1 res.2) (F0 m 0 ls []) := by
  have hx := C.1
  have hb := C.2.1
  unfold fM_X11_grow at h
  refine lv_aload_n hx hb dX11_grow_0 rfl (lv_at hl 0 rfl) ?_
  refine z_get C hE hH zM_o rfl zh_X11 18 (by decide) zk22_1 (fun _ h9 => h9) (v := .int (S.1 18)) rfl dX11_grow_1 ?_
  refine lv_aload_n hx hb dX11_grow_4 rfl (lv_at hl 0 rfl) ?_
  refine z_get C hE hH zM_o rfl zh_X11 17 (by decide) zk6_1 (fun _ h9 => h9) (v := .ref (q 17)) rfl dX11_grow_5 ?_
  refine lv_iload_n hx hb dX11_grow_8 rfl (lv_at hl 1 rfl) ?_
  obtain ⟨g1, h⟩ := zgd_s h
  refine z_iald C hE hH zM_a17 (t0 := 0) rfl g1 dX11_grow_9 ?_
  refine lv_icmp_ge (tgt := 15) hx hb dX11_grow_10 (by decide) (fun c2 => ?_) (fun c2 => ?_)
  · replace h := zif_t c2 h
    refine lv_aload_n hx hb dX11_grow_15 rfl (lv_at hl 0 rfl) ?_
    refine z_get C hE hH zM_o rfl zh_X11 17 (by decide) zk6_1 (fun _ h9 => h9) (v := .ref (q 17)) rfl dX11_grow_16 ?_
    refine lv_iload_n hx hb dX11_grow_19 rfl (lv_at hl 1 rfl) ?_
    refine lv_dup2_11 hx hb dX11_grow_20 rfl rfl ?_
    obtain ⟨g3, h⟩ := zgd_s h
    refine z_iald C hE hH zM_a17 (t0 := 0) rfl g3 dX11_grow_21 ?_
    refine lv_iconst (v := 2) hx hb dX11_grow_22 (by decide) ?_
    refine lv_imul hx hb dX11_grow_23 ?_
    obtain ⟨g4, h⟩ := zgd_s h
    refine z_iast C hE hH zM_a17 (t0 := 0) rfl g4 zM_r17 dX11_grow_24 (fun H locs hH => ?_)
    refine lv_aload_n hx hb dX11_grow_25 rfl (lv_at hl 0 rfl) ?_
    refine z_get C hE hH zM_o rfl zh_X11 18 (by decide) zk22_1 (fun _ h9 => h9) (v := .int (S.1 18)) rfl dX11_grow_26 ?_
    cases h
    exact z_iret C hE hH dX11_grow_29
  · replace h := zif_f c2 h
    refine lv_iconst (v := 0) hx hb dX11_grow_13 (by decide) ?_
    cases h
    exact z_iret C hE hH dX11_grow_14
set_option maxHeartbeats 4000000 in
set_option maxRecDepth 100000 in
theorem cM_X11_grow (l : Launch) (D : va_G) (cI : ClassId) (q : Nat → Nat) (sz : Nat) (x1 : Int32) (S : zSt) {res : Int32 × zSt} (h : fM_X11_grow x1 S = some res) : zMi l yX11_grow vsX11_grow rmM_X11_grow [.ref (q 32), .int x1] D (zwM cI q) [(cI, .int)] [] sz S res.1 res.2 := by
  refine Met.ofW (cc := cX11_grow) (maxL := 2) (ret := (some .int)) (by decide) rfl ?_
  intro p e s m args below meth c s₁ B hml hv
  obtain ⟨rfl, rfl, hP, hK, hD0, hN⟩ := hv
  have hl := lv_entry ([.ref (q 32), .int x1]) (n := 2) (Nat.le_of_ble_eq_true rfl)
  rw [lg_entry_eq]
  generalize (lg_sl ([.ref (q 32), .int x1]) ++ List.replicate (2 - (lg_sl ([.ref (q 32), .int x1])).length) Slot.unset).toArray = ls at hl ⊢
  exact bM_X11_grow ⟨B.exec, B.bytes, hml, findClass_of_methodNamed B.named, fun w h => atoms_spec (ws := vsX11_grow) B.pre w (List.mem_cons_of_mem _ h), B.returns, B.notSynchronized⟩ ⟨hK, fun q h => Or.inr h, hN⟩ x1 S s.heap [] ls ⟨hP, hD0.self, va_S.rf⟩ hl  h
def rmM_X11_placeIn_row : Room := { frames := 0, cells := 0, slots := 0, locals := 0 }
set_option maxHeartbeats 4000000 in
set_option maxRecDepth 100000 in
theorem bM_X11_placeIn_row_2 {p : Program} {l : Launch} {e : Env} {s : State} {m : MethodId} {args : Array Value} {below : List Frame} {meth : Method} {c : Code} {D : va_G} {cI : ClassId} {q : Nat → Nat} {A : Nat → Prop} {res : Int32} (C : zCX p s m args meth c cX11_placeIn 4 (some .int) zU RX11) (hE : zE D [(cI, .int)] [] A s) : ∀ (n : Nat) (x1 x2 x3 : Int32) (S : zSt) (H : Heap) (locs : List Loc) (ls : Array Slot), zH D (zwM cI q) A s S H locs → lv_has ls 4 [(0, .ref (q 14)), (1, .int x1), (2, .int x2), (3, .int x3)] → fM_X11_placeIn_row_2  n x1 x2 x3 S = some res → W p l e rmM_X11_placeIn_row s m args below meth c H locs 0 0 (zQi below D (zwM cI q) [(cI, .int)] A args s res S) (F0 m 2 ls []) := by
  have hx := C.1
  have hb := C.2.1
  intro n
  induction n with
  | zero =>
    intro x1 x2 x3 S H locs ls hH hl  h
    cases h
  | succ n hK2 =>
    intro x1 x2 x3 S H locs ls hH hl  h
    rw [fM_X11_placeIn_row_2] at h
    refine lv_iload_n hx hb dX11_placeIn_2 rfl (lv_at hl 3 rfl) ?_
    refine lv_iload_n hx hb dX11_placeIn_3 rfl (lv_at hl 1 rfl) ?_
    refine lv_icmp_ge (tgt := 22) hx hb dX11_placeIn_4 (by decide) (fun c1 => ?_) (fun c1 => ?_)
    · replace h := zif_t c1 h
      refine lv_iconst (v := (-1)) hx hb dX11_placeIn_22 (by decide) ?_
      cases h
      exact z_iret C hE hH dX11_placeIn_23
    · replace h := zif_f c1 h
      refine lv_aload_n hx hb dX11_placeIn_7 rfl (lv_at hl 0 rfl) ?_
      refine lv_iload_n hx hb dX11_placeIn_8 rfl (lv_at hl 3 rfl) ?_
      obtain ⟨g2, h⟩ := zgd_s h
      refine z_iald C hE hH zM_a14 (t0 := 0) rfl g2 dX11_placeIn_9 ?_
      refine lv_iload_n hx hb dX11_placeIn_10 rfl (lv_at hl 2 rfl) ?_
      refine lv_icmp_ne (tgt := 16) hx hb dX11_placeIn_11 (by decide) (fun c3 => ?_) (fun c3 => ?_)
      · replace h := zif_f c3 h
        refine lv_iinc (v := (x3 + 1)) (lv' := [(3, .int (x3 + 1)), (0, .ref (q 14)), (1, .int x1), (2, .int x2)]) hx hb dX11_placeIn_16 hl (k := 3) rfl rfl (by decide) rfl (fun ls hl => ?_)
        refine lv_goto (tgt := 2) hx hb dX11_placeIn_19 (by decide) ?_
        exact hK2 x1 x2 (x3 + 1) S H locs ls hH (lv_sub hl [1, 2, 3, 0] rfl) h
      · replace h := zif_t c3 h
        refine lv_iload_n hx hb dX11_placeIn_14 rfl (lv_at hl 3 rfl) ?_
        cases h
        exact z_iret C hE hH dX11_placeIn_15
set_option maxHeartbeats 4000000 in
set_option maxRecDepth 100000 in
theorem bM_X11_placeIn_row {p : Program} {l : Launch} {e : Env} {s : State} {m : MethodId} {args : Array Value} {below : List Frame} {meth : Method} {c : Code} {D : va_G} {cI : ClassId} {q : Nat → Nat} {A : Nat → Prop} {res : Int32} (C : zCX p s m args meth c cX11_placeIn 4 (some .int) zU RX11) (hE : zE D [(cI, .int)] [] A s) (x1 x2 : Int32) (S : zSt) (H : Heap) (locs : List Loc) (ls : Array Slot) (hH : zH D (zwM cI q) A s S H locs) (hl : lv_has ls 4 [(0, .ref (q 14)), (1, .int x1), (2, .int x2)]) (h : fM_X11_placeIn_row  x1 x2 S = some res) : W p l e rmM_X11_placeIn_row s m args below meth c H locs 0 0 (zQi below D (zwM cI q) [(cI, .int)] A args s res S) (F0 m 0 ls []) := by
  have hx := C.1
  have hb := C.2.1
  unfold fM_X11_placeIn_row at h
  refine lv_iconst (v := 0) hx hb dX11_placeIn_0 (by decide) ?_
  refine lv_istore_n (lv' := [(3, .int 0), (0, .ref (q 14)), (1, .int x1), (2, .int x2)]) hx hb dX11_placeIn_1 rfl hl (by decide) rfl (fun ls hl => ?_)
  exact bM_X11_placeIn_row_2 C hE   1000 x1 x2 0 S H locs ls hH (lv_sub hl [1, 2, 3, 0] rfl) h
set_option maxHeartbeats 4000000 in
set_option maxRecDepth 100000 in
theorem cM_X11_placeIn_row (l : Launch) (D : va_G) (cI : ClassId) (q : Nat → Nat) (sz : Nat) (x1 : Int32) (x2 : Int32) (S : zSt) {res : Int32} (h : fM_X11_placeIn_row x1 x2 S = some res) : zMi l yX11_placeIn vsX11_placeIn rmM_X11_placeIn_row [.ref (q 14), .int x1, .int x2] D (zwM cI q) [(cI, .int)] [] sz S res S := by
  refine Met.ofW (cc := cX11_placeIn) (maxL := 4) (ret := (some .int)) (by decide) rfl ?_
  intro p e s m args below meth c s₁ B hml hv
  obtain ⟨rfl, rfl, hP, hK, hD0, hN⟩ := hv
  have hl := lv_entry ([.ref (q 14), .int x1, .int x2]) (n := 4) (Nat.le_of_ble_eq_true rfl)
  rw [lg_entry_eq]
  generalize (lg_sl ([.ref (q 14), .int x1, .int x2]) ++ List.replicate (4 - (lg_sl ([.ref (q 14), .int x1, .int x2])).length) Slot.unset).toArray = ls at hl ⊢
  exact bM_X11_placeIn_row ⟨B.exec, B.bytes, hml, findClass_of_methodNamed B.named, fun w h => atoms_spec (ws := vsX11_placeIn) B.pre w (List.mem_cons_of_mem _ h), B.returns, B.notSynchronized⟩ ⟨hK, fun q h => Or.inr h, hN⟩ x1 x2 S s.heap [] ls ⟨hP, hD0.self, va_S.rf⟩ hl  h
def rmM_X11_find_row : Room := { frames := 1, cells := 0, slots := 0, locals := 23 }
set_option maxHeartbeats 4000000 in
set_option maxRecDepth 100000 in
theorem bM_X11_find_row {p : Program} {l : Launch} {e : Env} {s : State} {m : MethodId} {args : Array Value} {below : List Frame} {meth : Method} {c : Code} {D : va_G} {cI : ClassId} {q : Nat → Nat} {A : Nat → Prop} {res : Int32} (C : zCX p s m args meth c cX11_find 4 (some .int) zU RX11) (hE : zE D [(cI, .int)] [] A s) (x2 : Int32) (S : zSt) (H : Heap) (locs : List Loc) (ls : Array Slot) (hH : zH D (zwM cI q) A s S H locs) (hl : lv_has ls 4 [(0, .ref (q 32)), (1, .ref (q 14)), (2, .int x2)]) (h : fM_X11_find_row  x2 S = some res) : W p l e rmM_X11_find_row s m args below meth c H locs 0 0 (zQi below D (zwM cI q) [(cI, .int)] A args s res S) (F0 m 0 ls []) := by
  have hx := C.1
  have hb := C.2.1
  unfold fM_X11_find_row at h
  refine lv_aload_n hx hb dX11_find_0 rfl (lv_at hl 1 rfl) ?_
  refine lv_aload_n hx hb dX11_find_1 rfl (lv_at hl 0 rfl) ?_
  refine z_get C hE hH zM_o rfl zh_X11 18 (by decide) zk22_1 (fun _ h9 => h9) (v := .int (S.1 18)) rfl dX11_find_2 ?_
  refine lv_iload_n hx hb dX11_find_5 rfl (lv_at hl 2 rfl) ?_
  obtain ⟨u1, e2, h⟩ := zbd_s h
  refine z_calli (va_runS (As := [.ref (q 14), .int (S.1 18), .int x2]) (rest := []) (z_fix C) (cM_X11_placeIn_row l D cI q H.size (S.1 18) x2 S e2) (va_cwS 3 C.2.2.2.2.1 (zGS zk22_21 zk22_22 zk1_5 zk22_23) rfl rfl rfl yd_X11_placeIn ⟨Nat.le_of_ble_eq_true rfl, Nat.le_of_ble_eq_true rfl⟩) (z_preS zNm0 hE hH) rfl rfl hl.1 rfl (lv_room (Nat.le_of_ble_eq_true rfl)) dX11_find_6 ⟨Nat.le_refl 0, Nat.le_refl 0⟩) hE hH (fun H locs hH => ?_)
  refine lv_istore_n (lv' := [(3, .int u1), (0, .ref (q 32)), (1, .ref (q 14)), (2, .int x2)]) hx hb dX11_find_9 rfl hl (by decide) rfl (fun ls hl => ?_)
  refine lv_iload_n hx hb dX11_find_10 rfl (lv_at hl 0 rfl) ?_
  refine lv_iconst (v := (-1)) hx hb dX11_find_11 (by decide) ?_
  refine lv_icmp_ne (tgt := 22) hx hb dX11_find_12 (by decide) (fun c3 => ?_) (fun c3 => ?_)
  · replace h := zif_f c3 h
    refine lv_iload_n hx hb dX11_find_22 rfl (lv_at hl 0 rfl) ?_
    refine lv_iconst (v := 1) hx hb dX11_find_23 (by decide) ?_
    refine lv_iadd hx hb dX11_find_24 ?_
    cases h
    exact z_iret C hE hH dX11_find_25
  · replace h := zif_t c3 h
    refine lv_aload_n hx hb dX11_find_15 rfl (lv_at hl 1 rfl) ?_
    refine z_get C hE hH zM_o rfl zh_X11 18 (by decide) zk22_1 (fun _ h9 => h9) (v := .int (S.1 18)) rfl dX11_find_16 ?_
    refine lv_goto (tgt := 25) hx hb dX11_find_19 (by decide) ?_
    cases h
    exact z_iret C hE hH dX11_find_25
set_option maxHeartbeats 4000000 in
set_option maxRecDepth 100000 in
theorem cM_X11_find_row (l : Launch) (D : va_G) (cI : ClassId) (q : Nat → Nat) (sz : Nat) (x2 : Int32) (S : zSt) {res : Int32} (h : fM_X11_find_row x2 S = some res) : zMi l yX11_find vsX11_find rmM_X11_find_row [.ref (q 32), .ref (q 14), .int x2] D (zwM cI q) [(cI, .int)] [] sz S res S := by
  refine Met.ofW (cc := cX11_find) (maxL := 4) (ret := (some .int)) (by decide) rfl ?_
  intro p e s m args below meth c s₁ B hml hv
  obtain ⟨rfl, rfl, hP, hK, hD0, hN⟩ := hv
  have hl := lv_entry ([.ref (q 32), .ref (q 14), .int x2]) (n := 4) (Nat.le_of_ble_eq_true rfl)
  rw [lg_entry_eq]
  generalize (lg_sl ([.ref (q 32), .ref (q 14), .int x2]) ++ List.replicate (4 - (lg_sl ([.ref (q 32), .ref (q 14), .int x2])).length) Slot.unset).toArray = ls at hl ⊢
  exact bM_X11_find_row ⟨B.exec, B.bytes, hml, findClass_of_methodNamed B.named, fun w h => atoms_spec (ws := vsX11_find) B.pre w (List.mem_cons_of_mem _ h), B.returns, B.notSynchronized⟩ ⟨hK, fun q h => Or.inr h, hN⟩ x2 S s.heap [] ls ⟨hP, hD0.self, va_S.rf⟩ hl  h
def rmM_X11_takeOut_row : Room := { frames := 0, cells := 0, slots := 0, locals := 0 }
set_option maxHeartbeats 4000000 in
set_option maxRecDepth 100000 in
theorem bM_X11_takeOut_row_2 {p : Program} {l : Launch} {e : Env} {s : State} {m : MethodId} {args : Array Value} {below : List Frame} {meth : Method} {c : Code} {D : va_G} {cI : ClassId} {q : Nat → Nat} {A : Nat → Prop} {res : zSt} (C : zCX p s m args meth c cX11_takeOut 4 none zU RX11) (hE : zE D [(cI, .int)] [] A s) : ∀ (n : Nat) (x1 x3 : Int32) (S : zSt) (H : Heap) (locs : List Loc) (ls : Array Slot), zH D (zwM cI q) A s S H locs → lv_has ls 4 [(0, .ref (q 14)), (1, .int x1), (3, .int x3)] → fM_X11_takeOut_row_2  n x1 x3 S = some res → W p l e rmM_X11_takeOut_row s m args below meth c H locs 0 0 (zQv below D (zwM cI q) [(cI, .int)] A args s res) (F0 m 2 ls []) := by
  have hx := C.1
  have hb := C.2.1
  intro n
  induction n with
  | zero =>
    intro x1 x3 S H locs ls hH hl  h
    cases h
  | succ n hK2 =>
    intro x1 x3 S H locs ls hH hl  h
    rw [fM_X11_takeOut_row_2] at h
    refine lv_iload_n hx hb dX11_takeOut_2 rfl (lv_at hl 2 rfl) ?_
    refine lv_iload_n hx hb dX11_takeOut_3 rfl (lv_at hl 1 rfl) ?_
    refine lv_iconst (v := 1) hx hb dX11_takeOut_4 (by decide) ?_
    refine lv_isub hx hb dX11_takeOut_5 ?_
    refine lv_icmp_ge (tgt := 23) hx hb dX11_takeOut_6 (by decide) (fun c1 => ?_) (fun c1 => ?_)
    · replace h := zif_t c1 h
      cases h
      exact z_vret C hE hH dX11_takeOut_23
    · replace h := zif_f c1 h
      refine lv_aload_n hx hb dX11_takeOut_9 rfl (lv_at hl 0 rfl) ?_
      refine lv_iload_n hx hb dX11_takeOut_10 rfl (lv_at hl 2 rfl) ?_
      refine lv_aload_n hx hb dX11_takeOut_11 rfl (lv_at hl 0 rfl) ?_
      refine lv_iload_n hx hb dX11_takeOut_12 rfl (lv_at hl 2 rfl) ?_
      refine lv_iconst (v := 1) hx hb dX11_takeOut_13 (by decide) ?_
      refine lv_iadd hx hb dX11_takeOut_14 ?_
      obtain ⟨g2, h⟩ := zgd_s h
      refine z_iald C hE hH zM_a14 (t0 := 0) rfl g2 dX11_takeOut_15 ?_
      obtain ⟨g3, h⟩ := zgd_s h
      refine z_iast C hE hH zM_a14 (t0 := 0) rfl g3 zM_r14 dX11_takeOut_16 (fun H locs hH => ?_)
      refine lv_iinc (v := (x3 + 1)) (lv' := [(3, .int (x3 + 1)), (0, .ref (q 14)), (1, .int x1)]) hx hb dX11_takeOut_17 hl (k := 2) rfl rfl (by decide) rfl (fun ls hl => ?_)
      refine lv_goto (tgt := 2) hx hb dX11_takeOut_20 (by decide) ?_
      exact hK2 x1 (x3 + 1) (zsR S 14 x3.toNatClampNeg (S.2 14 (x3 + 1).toNatClampNeg)) H locs ls hH (lv_sub hl [1, 2, 0] rfl) h
set_option maxHeartbeats 4000000 in
set_option maxRecDepth 100000 in
theorem bM_X11_takeOut_row {p : Program} {l : Launch} {e : Env} {s : State} {m : MethodId} {args : Array Value} {below : List Frame} {meth : Method} {c : Code} {D : va_G} {cI : ClassId} {q : Nat → Nat} {A : Nat → Prop} {res : zSt} (C : zCX p s m args meth c cX11_takeOut 4 none zU RX11) (hE : zE D [(cI, .int)] [] A s) (x1 x2 : Int32) (S : zSt) (H : Heap) (locs : List Loc) (ls : Array Slot) (hH : zH D (zwM cI q) A s S H locs) (hl : lv_has ls 4 [(0, .ref (q 14)), (1, .int x1), (2, .int x2)]) (h : fM_X11_takeOut_row  x1 x2 S = some res) : W p l e rmM_X11_takeOut_row s m args below meth c H locs 0 0 (zQv below D (zwM cI q) [(cI, .int)] A args s res) (F0 m 0 ls []) := by
  have hx := C.1
  have hb := C.2.1
  unfold fM_X11_takeOut_row at h
  refine lv_iload_n hx hb dX11_takeOut_0 rfl (lv_at hl 2 rfl) ?_
  refine lv_istore_n (lv' := [(3, .int x2), (0, .ref (q 14)), (1, .int x1), (2, .int x2)]) hx hb dX11_takeOut_1 rfl hl (by decide) rfl (fun ls hl => ?_)
  exact bM_X11_takeOut_row_2 C hE   1000 x1 x2 S H locs ls hH (lv_sub hl [1, 2, 0] rfl) h
set_option maxHeartbeats 4000000 in
set_option maxRecDepth 100000 in
theorem cM_X11_takeOut_row (l : Launch) (D : va_G) (cI : ClassId) (q : Nat → Nat) (sz : Nat) (x1 : Int32) (x2 : Int32) (S : zSt) {res : zSt} (h : fM_X11_takeOut_row x1 x2 S = some res) : zMv l yX11_takeOut vsX11_takeOut rmM_X11_takeOut_row [.ref (q 14), .int x1, .int x2] D (zwM cI q) [(cI, .int)] [] sz S res := by
  refine Met.ofW (cc := cX11_takeOut) (maxL := 4) (ret := none) (by decide) rfl ?_
  intro p e s m args below meth c s₁ B hml hv
  obtain ⟨rfl, rfl, hP, hK, hD0, hN⟩ := hv
  have hl := lv_entry ([.ref (q 14), .int x1, .int x2]) (n := 4) (Nat.le_of_ble_eq_true rfl)
  rw [lg_entry_eq]
  generalize (lg_sl ([.ref (q 14), .int x1, .int x2]) ++ List.replicate (4 - (lg_sl ([.ref (q 14), .int x1, .int x2])).length) Slot.unset).toArray = ls at hl ⊢
  exact bM_X11_takeOut_row ⟨B.exec, B.bytes, hml, findClass_of_methodNamed B.named, fun w h => atoms_spec (ws := vsX11_takeOut) B.pre w (List.mem_cons_of_mem _ h), B.returns, B.notSynchronized⟩ ⟨hK, fun q h => Or.inr h, hN⟩ x1 x2 S s.heap [] ls ⟨hP, hD0.self, va_S.rf⟩ hl  h
def rmM_X11_onRow : Room := { frames := 2, cells := 0, slots := 0, locals := 46 }
set_option maxHeartbeats 4000000 in
set_option maxRecDepth 100000 in
theorem bM_X11_onRow {p : Program} {l : Launch} {e : Env} {s : State} {m : MethodId} {args : Array Value} {below : List Frame} {meth : Method} {c : Code} {D : va_G} {cI : ClassId} {q : Nat → Nat} {A : Nat → Prop} {res : Int32 × zSt} (C : zCX p s m args meth c cX11_onRow 5 (some .int) zU RX11) (hE : zE D [(cI, .int)] [] A s) (x1 x2 : Int32) (S : zSt) (H : Heap) (locs : List Loc) (ls : Array Slot) (hH : zH D (zwM cI q) A s S H locs) (hl : lv_has ls 5 [(0, .ref (q 32)), (1, .int x1), (2, .int x2)]) (h : fM_X11_onRow  x1 x2 S = some res) : W p l e rmM_X11_onRow s m args below meth c H locs 0 0 (zQi below D (zwM cI q) [(cI, .int)] A args s res.1 res.2) (F0 m 0 ls []) := by
  have hx := C.1
  have hb := C.2.1
  unfold fM_X11_onRow at h
  refine lv_aload_n hx hb dX11_onRow_0 rfl (lv_at hl 0 rfl) ?_
  refine z_get C hE hH zM_o rfl zh_X11 14 (by decide) zk5_22 (fun _ h9 => h9) (v := .ref (q 14)) rfl dX11_onRow_1 ?_
  refine lv_aload_n hx hb dX11_onRow_4 rfl (lv_at hl 0 rfl) ?_
  refine z_get C hE hH zM_o rfl zh_X11 18 (by decide) zk22_1 (fun _ h9 => h9) (v := .int (S.1 18)) rfl dX11_onRow_5 ?_
  refine lv_iload_n hx hb dX11_onRow_8 rfl (lv_at hl 2 rfl) ?_
  obtain ⟨u1, e2, h⟩ := zbd_s h
  refine z_calli (va_runS (As := [.ref (q 14), .int (S.1 18), .int x2]) (rest := []) (z_fix C) (cM_X11_placeIn_row l D cI q H.size (S.1 18) x2 S e2) (va_cwS 3 C.2.2.2.2.1 (zGS zk22_21 zk22_22 zk1_5 zk22_23) rfl rfl rfl yd_X11_placeIn ⟨Nat.le_of_ble_eq_true rfl, Nat.le_of_ble_eq_true rfl⟩) (z_preS zNm0 hE hH) rfl rfl hl.1 rfl (lv_room (Nat.le_of_ble_eq_true rfl)) dX11_onRow_9 ⟨Nat.le_refl 0, Nat.le_refl 0⟩) hE hH (fun H locs hH => ?_)
  refine lv_istore_n (lv' := [(3, .int u1), (0, .ref (q 32)), (1, .int x1), (2, .int x2)]) hx hb dX11_onRow_12 rfl hl (by decide) rfl (fun ls hl => ?_)
  refine lv_iload_n hx hb dX11_onRow_13 rfl (lv_at hl 2 rfl) ?_
  by_cases c3_0 : x1 = 0
  · replace h := zif_t c3_0 h
    refine lv_tableIn (tgt := 56) hx hb dX11_onRow_14 (by rw [c3_0]; decide) (by rw [c3_0]; decide) (by rw [c3_0]; rfl) (by decide) ?_
    refine lv_aload_n hx hb dX11_onRow_56 rfl (lv_at hl 1 rfl) ?_
    refine lv_iconst (v := 0) hx hb dX11_onRow_57 (by decide) ?_
    obtain ⟨u4, e5, h⟩ := zbd_s h
    refine z_calli (va_runV (As := [.int 0]) (rest := []) (z_fix C) (cM_X11_grow l D cI q H.size 0 S e5) (cwV 1 C.2.2.2.2.1 (zGV zk23_0 zk23_1 zk23_2 zk1_5 zk23_3) rfl rfl rfl yd_X11_grow ⟨Nat.le_of_ble_eq_true rfl, Nat.le_of_ble_eq_true rfl⟩) (z_preV zNm0 hE hH zM_o rfl) rfl rfl hl.1 rfl (lv_room (Nat.le_of_ble_eq_true rfl)) dX11_onRow_58 ⟨Nat.le_refl 0, Nat.le_refl 0⟩) hE hH (fun H locs hH => ?_)
    refine lv_iconst (v := 1) hx hb dX11_onRow_61 (by decide) ?_
    refine lv_iadd hx hb dX11_onRow_62 ?_
    refine lv_istore (lv' := [(4, .int (u4.1 + 1)), (3, .int u1), (0, .ref (q 32)), (1, .int x1), (2, .int x2)]) hx hb dX11_onRow_63 hl (by decide) rfl (fun ls hl => ?_)
    refine lv_aload_n hx hb dX11_onRow_65 rfl (lv_at hl 2 rfl) ?_
    refine z_get C hE hH zM_o rfl zh_X11 14 (by decide) zk5_22 (fun _ h9 => h9) (v := .ref (q 14)) rfl dX11_onRow_66 ?_
    refine lv_aload_n hx hb dX11_onRow_69 rfl (lv_at hl 2 rfl) ?_
    refine z_get C hE hH zM_o rfl zh_X11 18 (by decide) zk22_1 (fun _ h9 => h9) (v := .int (u4.2.1 18)) rfl dX11_onRow_70 ?_
    refine lv_iload_n hx hb dX11_onRow_73 rfl (lv_at hl 4 rfl) ?_
    obtain ⟨g6, h⟩ := zgd_s h
    refine z_iast C hE hH zM_a14 (t0 := 0) rfl g6 zM_r14 dX11_onRow_74 (fun H locs hH => ?_)
    refine lv_iload hx hb dX11_onRow_75 (lv_at hl 0 rfl) ?_
    cases h
    exact z_iret C hE hH dX11_onRow_77
  · replace h := zif_f c3_0 h
    by_cases c3_1 : x1 = 1
    · replace h := zif_t c3_1 h
      refine lv_tableIn (tgt := 78) hx hb dX11_onRow_14 (by rw [c3_1]; decide) (by rw [c3_1]; decide) (by rw [c3_1]; rfl) (by decide) ?_
      refine lv_aload_n hx hb dX11_onRow_78 rfl (lv_at hl 1 rfl) ?_
      refine lv_aload_n hx hb dX11_onRow_79 rfl (lv_at hl 1 rfl) ?_
      refine z_get C hE hH zM_o rfl zh_X11 14 (by decide) zk5_22 (fun _ h9 => h9) (v := .ref (q 14)) rfl dX11_onRow_80 ?_
      refine lv_iload_n hx hb dX11_onRow_83 rfl (lv_at hl 3 rfl) ?_
      obtain ⟨u7, e8, h⟩ := zbd_s h
      refine z_calli (va_runV (As := [.ref (q 14), .int x2]) (rest := []) (z_fix C) (cM_X11_find_row l D cI q H.size x2 S e8) (cwV 2 C.2.2.2.2.1 (zGV zk23_4 zk23_5 zk23_6 zk1_5 zk23_7) rfl rfl rfl yd_X11_find ⟨Nat.le_of_ble_eq_true rfl, Nat.le_of_ble_eq_true rfl⟩) (z_preV zNm0 hE hH zM_o rfl) rfl rfl hl.1 rfl (lv_room (Nat.le_of_ble_eq_true rfl)) dX11_onRow_84 ⟨Nat.le_refl 0, Nat.le_refl 0⟩) hE hH (fun H locs hH => ?_)
      cases h
      exact z_iret C hE hH dX11_onRow_87
    · replace h := zif_f c3_1 h
      by_cases c3_2 : x1 = 2
      · replace h := zif_t c3_2 h
        refine lv_tableIn (tgt := 88) hx hb dX11_onRow_14 (by rw [c3_2]; decide) (by rw [c3_2]; decide) (by rw [c3_2]; rfl) (by decide) ?_
        refine lv_iload_n hx hb dX11_onRow_88 rfl (lv_at hl 0 rfl) ?_
        refine lv_iconst (v := (-1)) hx hb dX11_onRow_89 (by decide) ?_
        refine lv_icmp_ne (tgt := 98) hx hb dX11_onRow_90 (by decide) (fun c9 => ?_) (fun c9 => ?_)
        · replace h := zif_f c9 h
          refine lv_aload_n hx hb dX11_onRow_98 rfl (lv_at hl 1 rfl) ?_
          refine z_get C hE hH zM_o rfl zh_X11 14 (by decide) zk5_22 (fun _ h9 => h9) (v := .ref (q 14)) rfl dX11_onRow_99 ?_
          refine lv_aload_n hx hb dX11_onRow_102 rfl (lv_at hl 1 rfl) ?_
          refine z_get C hE hH zM_o rfl zh_X11 18 (by decide) zk22_1 (fun _ h9 => h9) (v := .int (S.1 18)) rfl dX11_onRow_103 ?_
          refine lv_iload_n hx hb dX11_onRow_106 rfl (lv_at hl 0 rfl) ?_
          obtain ⟨u10, e11, h⟩ := zbd_s h
          refine z_callv (va_runS (As := [.ref (q 14), .int (S.1 18), .int u1]) (rest := []) (z_fix C) (cM_X11_takeOut_row l D cI q H.size (S.1 18) u1 S e11) (va_cwS 3 C.2.2.2.2.1 (zGS zk23_8 zk23_9 zk1_5 zk23_10) rfl rfl rfl yd_X11_takeOut ⟨Nat.le_of_ble_eq_true rfl, Nat.le_of_ble_eq_true rfl⟩) (z_preS zNm0 hE hH) rfl rfl hl.1 rfl (lv_room (Nat.le_of_ble_eq_true rfl)) dX11_onRow_107 ⟨Nat.le_refl 0, Nat.le_refl 0⟩) hE hH (fun H locs hH => ?_)
          refine lv_aload_n hx hb dX11_onRow_110 rfl (lv_at hl 1 rfl) ?_
          refine z_get C hE hH zM_o rfl zh_X11 18 (by decide) zk22_1 (fun _ h9 => h9) (v := .int (u10.1 18)) rfl dX11_onRow_111 ?_
          cases h
          exact z_iret C hE hH dX11_onRow_114
        · replace h := zif_t c9 h
          refine lv_aload_n hx hb dX11_onRow_93 rfl (lv_at hl 1 rfl) ?_
          refine z_get C hE hH zM_o rfl zh_X11 18 (by decide) zk22_1 (fun _ h9 => h9) (v := .int (S.1 18)) rfl dX11_onRow_94 ?_
          cases h
          exact z_iret C hE hH dX11_onRow_97
      · replace h := zif_f c3_2 h
        by_cases c3_3 : x1 = 3
        · replace h := zif_t c3_3 h
          refine lv_tableIn (tgt := 117) hx hb dX11_onRow_14 (by rw [c3_3]; decide) (by rw [c3_3]; decide) (by rw [c3_3]; rfl) (by decide) ?_
          refine lv_aload_n hx hb dX11_onRow_117 rfl (lv_at hl 1 rfl) ?_
          refine z_get C hE hH zM_o rfl zh_X11 18 (by decide) zk22_1 (fun _ h9 => h9) (v := .int (S.1 18)) rfl dX11_onRow_118 ?_
          cases h
          exact z_iret C hE hH dX11_onRow_121
        · replace h := zif_f c3_3 h
          by_cases c3_4 : x1 = 4
          · replace h := zif_t c3_4 h
            refine lv_tableIn (tgt := 117) hx hb dX11_onRow_14 (by rw [c3_4]; decide) (by rw [c3_4]; decide) (by rw [c3_4]; rfl) (by decide) ?_
            refine lv_aload_n hx hb dX11_onRow_117 rfl (lv_at hl 1 rfl) ?_
            refine z_get C hE hH zM_o rfl zh_X11 18 (by decide) zk22_1 (fun _ h9 => h9) (v := .int (S.1 18)) rfl dX11_onRow_118 ?_
            cases h
            exact z_iret C hE hH dX11_onRow_121
          · replace h := zif_f c3_4 h
            by_cases c3_5 : x1 = 5
            · replace h := zif_t c3_5 h
              refine lv_tableIn (tgt := 117) hx hb dX11_onRow_14 (by rw [c3_5]; decide) (by rw [c3_5]; decide) (by rw [c3_5]; rfl) (by decide) ?_
              refine lv_aload_n hx hb dX11_onRow_117 rfl (lv_at hl 1 rfl) ?_
              refine z_get C hE hH zM_o rfl zh_X11 18 (by decide) zk22_1 (fun _ h9 => h9) (v := .int (S.1 18)) rfl dX11_onRow_118 ?_
              cases h
              exact z_iret C hE hH dX11_onRow_121
            · replace h := zif_f c3_5 h
              by_cases c3_6 : x1 = 6
              · replace h := zif_t c3_6 h
                refine lv_tableIn (tgt := 115) hx hb dX11_onRow_14 (by rw [c3_6]; decide) (by rw [c3_6]; decide) (by rw [c3_6]; rfl) (by decide) ?_
                refine lv_iconst (v := 1) hx hb dX11_onRow_115 (by decide) ?_
                cases h
                exact z_iret C hE hH dX11_onRow_116
              · replace h := zif_f c3_6 h
                have ec3_0 : ¬ (x1).toInt = 0 := zsw_ne c3_0
                have ec3_1 : ¬ (x1).toInt = 1 := zsw_ne c3_1
                have ec3_2 : ¬ (x1).toInt = 2 := zsw_ne c3_2
                have ec3_3 : ¬ (x1).toInt = 3 := zsw_ne c3_3
                have ec3_4 : ¬ (x1).toInt = 4 := zsw_ne c3_4
                have ec3_5 : ¬ (x1).toInt = 5 := zsw_ne c3_5
                have ec3_6 : ¬ (x1).toInt = 6 := zsw_ne c3_6
                refine lv_tableOut (tgt := 117) hx hb dX11_onRow_14 (by omega) (by decide) ?_
                refine lv_aload_n hx hb dX11_onRow_117 rfl (lv_at hl 1 rfl) ?_
                refine z_get C hE hH zM_o rfl zh_X11 18 (by decide) zk22_1 (fun _ h9 => h9) (v := .int (S.1 18)) rfl dX11_onRow_118 ?_
                cases h
                exact z_iret C hE hH dX11_onRow_121
set_option maxHeartbeats 4000000 in
set_option maxRecDepth 100000 in
theorem cM_X11_onRow (l : Launch) (D : va_G) (cI : ClassId) (q : Nat → Nat) (sz : Nat) (x1 : Int32) (x2 : Int32) (S : zSt) {res : Int32 × zSt} (h : fM_X11_onRow x1 x2 S = some res) : zMi l yX11_onRow vsX11_onRow rmM_X11_onRow [.ref (q 32), .int x1, .int x2] D (zwM cI q) [(cI, .int)] [] sz S res.1 res.2 := by
  refine Met.ofW (cc := cX11_onRow) (maxL := 5) (ret := (some .int)) (by decide) rfl ?_
  intro p e s m args below meth c s₁ B hml hv
  obtain ⟨rfl, rfl, hP, hK, hD0, hN⟩ := hv
  have hl := lv_entry ([.ref (q 32), .int x1, .int x2]) (n := 5) (Nat.le_of_ble_eq_true rfl)
  rw [lg_entry_eq]
  generalize (lg_sl ([.ref (q 32), .int x1, .int x2]) ++ List.replicate (5 - (lg_sl ([.ref (q 32), .int x1, .int x2])).length) Slot.unset).toArray = ls at hl ⊢
  exact bM_X11_onRow ⟨B.exec, B.bytes, hml, findClass_of_methodNamed B.named, fun w h => atoms_spec (ws := vsX11_onRow) B.pre w (List.mem_cons_of_mem _ h), B.returns, B.notSynchronized⟩ ⟨hK, fun q h => Or.inr h, hN⟩ x1 x2 S s.heap [] ls ⟨hP, hD0.self, va_S.rf⟩ hl  h
def rmM_X11_halving : Room := { frames := 0, cells := 0, slots := 0, locals := 0 }
set_option maxHeartbeats 4000000 in
set_option maxRecDepth 100000 in
theorem bM_X11_halving_47 {p : Program} {l : Launch} {e : Env} {s : State} {m : MethodId} {args : Array Value} {below : List Frame} {meth : Method} {c : Code} {D : va_G} {cI : ClassId} {q : Nat → Nat} {A : Nat → Prop} {res : Int32 × zSt} (C : zCX p s m args meth c cX11_halving 6 (some .int) zU RX11) (hE : zE D [(cI, .int)] [] A s) (K10 : (Int32 → Int32 → Int32 → Int32 → zSt → Option (Int32 × zSt))) (hK10 : ∀ (x1 x2 x3 x4 : Int32) (S : zSt) (H : Heap) (locs : List Loc) (ls : Array Slot), zH D (zwM cI q) A s S H locs → lv_has ls 6 [(0, .ref (q 32)), (1, .int x1), (2, .int x2), (3, .int x3), (4, .int x4)] → K10 x1 x2 x3 x4 S = some res → W p l e rmM_X11_halving s m args below meth c H locs 0 0 (zQi below D (zwM cI q) [(cI, .int)] A args s res.1 res.2) (F0 m 10 ls [])) (x1 x2 x3 x4 : Int32) (S : zSt) (H : Heap) (locs : List Loc) (ls : Array Slot) (hH : zH D (zwM cI q) A s S H locs) (hl : lv_has ls 6 [(0, .ref (q 32)), (1, .int x1), (2, .int x2), (3, .int x3), (4, .int x4)]) (h : fM_X11_halving_47 K10 x1 x2 x3 x4 S = some res) : W p l e rmM_X11_halving s m args below meth c H locs 0 0 (zQi below D (zwM cI q) [(cI, .int)] A args s res.1 res.2) (F0 m 47 ls []) := by
  have hx := C.1
  have hb := C.2.1
  unfold fM_X11_halving_47 at h
  refine lv_goto (tgt := 10) hx hb dX11_halving_47 (by decide) ?_
  exact hK10 x1 x2 x3 x4 S H locs ls hH (lv_sub hl [0, 1, 2, 3, 4] rfl) h
set_option maxHeartbeats 4000000 in
set_option maxRecDepth 100000 in
theorem bM_X11_halving_10 {p : Program} {l : Launch} {e : Env} {s : State} {m : MethodId} {args : Array Value} {below : List Frame} {meth : Method} {c : Code} {D : va_G} {cI : ClassId} {q : Nat → Nat} {A : Nat → Prop} {res : Int32 × zSt} (C : zCX p s m args meth c cX11_halving 6 (some .int) zU RX11) (hE : zE D [(cI, .int)] [] A s) : ∀ (n : Nat) (x1 x2 x3 x4 : Int32) (S : zSt) (H : Heap) (locs : List Loc) (ls : Array Slot), zH D (zwM cI q) A s S H locs → lv_has ls 6 [(0, .ref (q 32)), (1, .int x1), (2, .int x2), (3, .int x3), (4, .int x4)] → fM_X11_halving_10  n x1 x2 x3 x4 S = some res → W p l e rmM_X11_halving s m args below meth c H locs 0 0 (zQi below D (zwM cI q) [(cI, .int)] A args s res.1 res.2) (F0 m 10 ls []) := by
  have hx := C.1
  have hb := C.2.1
  intro n
  induction n with
  | zero =>
    intro x1 x2 x3 x4 S H locs ls hH hl  h
    cases h
  | succ n hK10 =>
    intro x1 x2 x3 x4 S H locs ls hH hl  h
    rw [fM_X11_halving_10] at h
    refine lv_iload_n hx hb dX11_halving_10 rfl (lv_at hl 2 rfl) ?_
    refine lv_iload_n hx hb dX11_halving_11 rfl (lv_at hl 3 rfl) ?_
    refine lv_icmp_ge (tgt := 50) hx hb dX11_halving_12 (by decide) (fun c1 => ?_) (fun c1 => ?_)
    · replace h := zif_t c1 h
      refine lv_aload_n hx hb dX11_halving_50 rfl (lv_at hl 0 rfl) ?_
      refine lv_iload_n hx hb dX11_halving_51 rfl (lv_at hl 2 rfl) ?_
      refine z_put C hE hH zM_o rfl zh_X11 tyX11_ok nmX11 28 (by decide) zk23_15 (fun _ h9 => h9) rfl (ty := .int) rfl rfl rfl (Nat.le_of_ble_eq_true rfl) zM_i28 dX11_halving_52 (fun H locs hH => ?_)
      refine lv_iload hx hb dX11_halving_55 (lv_at hl 4 rfl) ?_
      cases h
      exact z_iret C hE hH dX11_halving_57
    · replace h := zif_f c1 h
      refine lv_iload_n hx hb dX11_halving_15 rfl (lv_at hl 2 rfl) ?_
      refine lv_iload_n hx hb dX11_halving_16 rfl (lv_at hl 3 rfl) ?_
      refine lv_iadd hx hb dX11_halving_17 ?_
      refine lv_iconst (v := 2) hx hb dX11_halving_18 (by decide) ?_
      refine lv_idiv hx hb dX11_halving_19 (by decide) ?_
      refine lv_istore (lv' := [(5, .int ((x2 + x3) / 2)), (0, .ref (q 32)), (1, .int x1), (2, .int x2), (3, .int x3), (4, .int x4)]) hx hb dX11_halving_20 hl (by decide) rfl (fun ls hl => ?_)
      refine lv_iinc (v := (x4 + 1)) (lv' := [(4, .int (x4 + 1)), (5, .int ((x2 + x3) / 2)), (0, .ref (q 32)), (1, .int x1), (2, .int x2), (3, .int x3)]) hx hb dX11_halving_22 hl (k := 5) rfl rfl (by decide) rfl (fun ls hl => ?_)
      refine lv_aload_n hx hb dX11_halving_25 rfl (lv_at hl 2 rfl) ?_
      refine z_get C hE hH zM_o rfl zh_X11 15 (by decide) zk5_23 (fun _ h9 => h9) (v := .ref (q 15)) rfl dX11_halving_26 ?_
      refine lv_iload hx hb dX11_halving_29 (lv_at hl 1 rfl) ?_
      obtain ⟨g2, h⟩ := zgd_s h
      refine z_iald C hE hH zM_a15 (t0 := 0) rfl g2 dX11_halving_31 ?_
      refine lv_iload_n hx hb dX11_halving_32 rfl (lv_at hl 3 rfl) ?_
      refine lv_icmp_ge (tgt := 44) hx hb dX11_halving_33 (by decide) (fun c3 => ?_) (fun c3 => ?_)
      · replace h := zif_t c3 h
        refine lv_iload hx hb dX11_halving_44 (lv_at hl 1 rfl) ?_
        refine lv_istore_n (lv' := [(3, .int ((x2 + x3) / 2)), (4, .int (x4 + 1)), (5, .int ((x2 + x3) / 2)), (0, .ref (q 32)), (1, .int x1), (2, .int x2)]) hx hb dX11_halving_46 rfl hl (by decide) rfl (fun ls hl => ?_)
        exact bM_X11_halving_47 C hE (fM_X11_halving_10  n) hK10 x1 x2 ((x2 + x3) / 2) (x4 + 1) S H locs ls hH (lv_sub hl [3, 4, 5, 0, 1] rfl) h
      · replace h := zif_f c3 h
        refine lv_iload hx hb dX11_halving_36 (lv_at hl 1 rfl) ?_
        refine lv_iconst (v := 1) hx hb dX11_halving_38 (by decide) ?_
        refine lv_iadd hx hb dX11_halving_39 ?_
        refine lv_istore_n (lv' := [(2, .int (((x2 + x3) / 2) + 1)), (4, .int (x4 + 1)), (5, .int ((x2 + x3) / 2)), (0, .ref (q 32)), (1, .int x1), (3, .int x3)]) hx hb dX11_halving_40 rfl hl (by decide) rfl (fun ls hl => ?_)
        refine lv_goto (tgt := 47) hx hb dX11_halving_41 (by decide) ?_
        exact bM_X11_halving_47 C hE (fM_X11_halving_10  n) hK10 x1 (((x2 + x3) / 2) + 1) x3 (x4 + 1) S H locs ls hH (lv_sub hl [3, 4, 0, 5, 1] rfl) h
set_option maxHeartbeats 4000000 in
set_option maxRecDepth 100000 in
theorem bM_X11_halving {p : Program} {l : Launch} {e : Env} {s : State} {m : MethodId} {args : Array Value} {below : List Frame} {meth : Method} {c : Code} {D : va_G} {cI : ClassId} {q : Nat → Nat} {A : Nat → Prop} {res : Int32 × zSt} (C : zCX p s m args meth c cX11_halving 6 (some .int) zU RX11) (hE : zE D [(cI, .int)] [] A s) (x1 : Int32) (S : zSt) (H : Heap) (locs : List Loc) (ls : Array Slot) (hH : zH D (zwM cI q) A s S H locs) (hl : lv_has ls 6 [(0, .ref (q 32)), (1, .int x1)]) (h : fM_X11_halving  x1 S = some res) : W p l e rmM_X11_halving s m args below meth c H locs 0 0 (zQi below D (zwM cI q) [(cI, .int)] A args s res.1 res.2) (F0 m 0 ls []) := by
  have hx := C.1
  have hb := C.2.1
  unfold fM_X11_halving at h
  refine lv_iconst (v := 0) hx hb dX11_halving_0 (by decide) ?_
  refine lv_istore_n (lv' := [(2, .int 0), (0, .ref (q 32)), (1, .int x1)]) hx hb dX11_halving_1 rfl hl (by decide) rfl (fun ls hl => ?_)
  refine lv_aload_n hx hb dX11_halving_2 rfl (lv_at hl 1 rfl) ?_
  refine z_get C hE hH zM_o rfl zh_X11 18 (by decide) zk22_1 (fun _ h9 => h9) (v := .int (S.1 18)) rfl dX11_halving_3 ?_
  refine lv_istore_n (lv' := [(3, .int (S.1 18)), (2, .int 0), (0, .ref (q 32)), (1, .int x1)]) hx hb dX11_halving_6 rfl hl (by decide) rfl (fun ls hl => ?_)
  refine lv_iconst (v := 0) hx hb dX11_halving_7 (by decide) ?_
  refine lv_istore (lv' := [(4, .int 0), (3, .int (S.1 18)), (2, .int 0), (0, .ref (q 32)), (1, .int x1)]) hx hb dX11_halving_8 hl (by decide) rfl (fun ls hl => ?_)
  exact bM_X11_halving_10 C hE   1000 x1 0 (S.1 18) 0 S H locs ls hH (lv_sub hl [3, 4, 2, 1, 0] rfl) h
set_option maxHeartbeats 4000000 in
set_option maxRecDepth 100000 in
theorem cM_X11_halving (l : Launch) (D : va_G) (cI : ClassId) (q : Nat → Nat) (sz : Nat) (x1 : Int32) (S : zSt) {res : Int32 × zSt} (h : fM_X11_halving x1 S = some res) : zMi l yX11_halving vsX11_halving rmM_X11_halving [.ref (q 32), .int x1] D (zwM cI q) [(cI, .int)] [] sz S res.1 res.2 := by
  refine Met.ofW (cc := cX11_halving) (maxL := 6) (ret := (some .int)) (by decide) rfl ?_
  intro p e s m args below meth c s₁ B hml hv
  obtain ⟨rfl, rfl, hP, hK, hD0, hN⟩ := hv
  have hl := lv_entry ([.ref (q 32), .int x1]) (n := 6) (Nat.le_of_ble_eq_true rfl)
  rw [lg_entry_eq]
  generalize (lg_sl ([.ref (q 32), .int x1]) ++ List.replicate (6 - (lg_sl ([.ref (q 32), .int x1])).length) Slot.unset).toArray = ls at hl ⊢
  exact bM_X11_halving ⟨B.exec, B.bytes, hml, findClass_of_methodNamed B.named, fun w h => atoms_spec (ws := vsX11_halving) B.pre w (List.mem_cons_of_mem _ h), B.returns, B.notSynchronized⟩ ⟨hK, fun q h => Or.inr h, hN⟩ x1 S s.heap [] ls ⟨hP, hD0.self, va_S.rf⟩ hl  h
def rmM_X11_takeOut_sorted : Room := { frames := 0, cells := 0, slots := 0, locals := 0 }
set_option maxHeartbeats 4000000 in
set_option maxRecDepth 100000 in
theorem bM_X11_takeOut_sorted_2 {p : Program} {l : Launch} {e : Env} {s : State} {m : MethodId} {args : Array Value} {below : List Frame} {meth : Method} {c : Code} {D : va_G} {cI : ClassId} {q : Nat → Nat} {A : Nat → Prop} {res : zSt} (C : zCX p s m args meth c cX11_takeOut 4 none zU RX11) (hE : zE D [(cI, .int)] [] A s) : ∀ (n : Nat) (x1 x3 : Int32) (S : zSt) (H : Heap) (locs : List Loc) (ls : Array Slot), zH D (zwM cI q) A s S H locs → lv_has ls 4 [(0, .ref (q 15)), (1, .int x1), (3, .int x3)] → fM_X11_takeOut_sorted_2  n x1 x3 S = some res → W p l e rmM_X11_takeOut_sorted s m args below meth c H locs 0 0 (zQv below D (zwM cI q) [(cI, .int)] A args s res) (F0 m 2 ls []) := by
  have hx := C.1
  have hb := C.2.1
  intro n
  induction n with
  | zero =>
    intro x1 x3 S H locs ls hH hl  h
    cases h
  | succ n hK2 =>
    intro x1 x3 S H locs ls hH hl  h
    rw [fM_X11_takeOut_sorted_2] at h
    refine lv_iload_n hx hb dX11_takeOut_2 rfl (lv_at hl 2 rfl) ?_
    refine lv_iload_n hx hb dX11_takeOut_3 rfl (lv_at hl 1 rfl) ?_
    refine lv_iconst (v := 1) hx hb dX11_takeOut_4 (by decide) ?_
    refine lv_isub hx hb dX11_takeOut_5 ?_
    refine lv_icmp_ge (tgt := 23) hx hb dX11_takeOut_6 (by decide) (fun c1 => ?_) (fun c1 => ?_)
    · replace h := zif_t c1 h
      cases h
      exact z_vret C hE hH dX11_takeOut_23
    · replace h := zif_f c1 h
      refine lv_aload_n hx hb dX11_takeOut_9 rfl (lv_at hl 0 rfl) ?_
      refine lv_iload_n hx hb dX11_takeOut_10 rfl (lv_at hl 2 rfl) ?_
      refine lv_aload_n hx hb dX11_takeOut_11 rfl (lv_at hl 0 rfl) ?_
      refine lv_iload_n hx hb dX11_takeOut_12 rfl (lv_at hl 2 rfl) ?_
      refine lv_iconst (v := 1) hx hb dX11_takeOut_13 (by decide) ?_
      refine lv_iadd hx hb dX11_takeOut_14 ?_
      obtain ⟨g2, h⟩ := zgd_s h
      refine z_iald C hE hH zM_a15 (t0 := 0) rfl g2 dX11_takeOut_15 ?_
      obtain ⟨g3, h⟩ := zgd_s h
      refine z_iast C hE hH zM_a15 (t0 := 0) rfl g3 zM_r15 dX11_takeOut_16 (fun H locs hH => ?_)
      refine lv_iinc (v := (x3 + 1)) (lv' := [(3, .int (x3 + 1)), (0, .ref (q 15)), (1, .int x1)]) hx hb dX11_takeOut_17 hl (k := 2) rfl rfl (by decide) rfl (fun ls hl => ?_)
      refine lv_goto (tgt := 2) hx hb dX11_takeOut_20 (by decide) ?_
      exact hK2 x1 (x3 + 1) (zsR S 15 x3.toNatClampNeg (S.2 15 (x3 + 1).toNatClampNeg)) H locs ls hH (lv_sub hl [1, 2, 0] rfl) h
set_option maxHeartbeats 4000000 in
set_option maxRecDepth 100000 in
theorem bM_X11_takeOut_sorted {p : Program} {l : Launch} {e : Env} {s : State} {m : MethodId} {args : Array Value} {below : List Frame} {meth : Method} {c : Code} {D : va_G} {cI : ClassId} {q : Nat → Nat} {A : Nat → Prop} {res : zSt} (C : zCX p s m args meth c cX11_takeOut 4 none zU RX11) (hE : zE D [(cI, .int)] [] A s) (x1 x2 : Int32) (S : zSt) (H : Heap) (locs : List Loc) (ls : Array Slot) (hH : zH D (zwM cI q) A s S H locs) (hl : lv_has ls 4 [(0, .ref (q 15)), (1, .int x1), (2, .int x2)]) (h : fM_X11_takeOut_sorted  x1 x2 S = some res) : W p l e rmM_X11_takeOut_sorted s m args below meth c H locs 0 0 (zQv below D (zwM cI q) [(cI, .int)] A args s res) (F0 m 0 ls []) := by
  have hx := C.1
  have hb := C.2.1
  unfold fM_X11_takeOut_sorted at h
  refine lv_iload_n hx hb dX11_takeOut_0 rfl (lv_at hl 2 rfl) ?_
  refine lv_istore_n (lv' := [(3, .int x2), (0, .ref (q 15)), (1, .int x1), (2, .int x2)]) hx hb dX11_takeOut_1 rfl hl (by decide) rfl (fun ls hl => ?_)
  exact bM_X11_takeOut_sorted_2 C hE   1000 x1 x2 S H locs ls hH (lv_sub hl [1, 2, 0] rfl) h
set_option maxHeartbeats 4000000 in
set_option maxRecDepth 100000 in
theorem cM_X11_takeOut_sorted (l : Launch) (D : va_G) (cI : ClassId) (q : Nat → Nat) (sz : Nat) (x1 : Int32) (x2 : Int32) (S : zSt) {res : zSt} (h : fM_X11_takeOut_sorted x1 x2 S = some res) : zMv l yX11_takeOut vsX11_takeOut rmM_X11_takeOut_sorted [.ref (q 15), .int x1, .int x2] D (zwM cI q) [(cI, .int)] [] sz S res := by
  refine Met.ofW (cc := cX11_takeOut) (maxL := 4) (ret := none) (by decide) rfl ?_
  intro p e s m args below meth c s₁ B hml hv
  obtain ⟨rfl, rfl, hP, hK, hD0, hN⟩ := hv
  have hl := lv_entry ([.ref (q 15), .int x1, .int x2]) (n := 4) (Nat.le_of_ble_eq_true rfl)
  rw [lg_entry_eq]
  generalize (lg_sl ([.ref (q 15), .int x1, .int x2]) ++ List.replicate (4 - (lg_sl ([.ref (q 15), .int x1, .int x2])).length) Slot.unset).toArray = ls at hl ⊢
  exact bM_X11_takeOut_sorted ⟨B.exec, B.bytes, hml, findClass_of_methodNamed B.named, fun w h => atoms_spec (ws := vsX11_takeOut) B.pre w (List.mem_cons_of_mem _ h), B.returns, B.notSynchronized⟩ ⟨hK, fun q h => Or.inr h, hN⟩ x1 x2 S s.heap [] ls ⟨hP, hD0.self, va_S.rf⟩ hl  h
def rmM_X11_onSorted : Room := { frames := 1, cells := 0, slots := 0, locals := 25 }
set_option maxHeartbeats 4000000 in
set_option maxRecDepth 100000 in
theorem bM_X11_onSorted_62 {p : Program} {l : Launch} {e : Env} {s : State} {m : MethodId} {args : Array Value} {below : List Frame} {meth : Method} {c : Code} {D : va_G} {cI : ClassId} {q : Nat → Nat} {A : Nat → Prop} {res : Int32 × zSt} (C : zCX p s m args meth c cX11_onSorted 5 (some .int) zU RX11) (hE : zE D [(cI, .int)] [] A s) : ∀ (n : Nat) (x2 x3 x4 : Int32) (S : zSt) (H : Heap) (locs : List Loc) (ls : Array Slot), zH D (zwM cI q) A s S H locs → lv_has ls 5 [(0, .ref (q 32)), (2, .int x2), (3, .int x3), (4, .int x4)] → fM_X11_onSorted_62  n x2 x3 x4 S = some res → W p l e rmM_X11_onSorted s m args below meth c H locs 0 0 (zQi below D (zwM cI q) [(cI, .int)] A args s res.1 res.2) (F0 m 62 ls []) := by
  have hx := C.1
  have hb := C.2.1
  intro n
  induction n with
  | zero =>
    intro x2 x3 x4 S H locs ls hH hl  h
    cases h
  | succ n hK62 =>
    intro x2 x3 x4 S H locs ls hH hl  h
    rw [fM_X11_onSorted_62] at h
    refine lv_iload hx hb dX11_onSorted_62 (lv_at hl 3 rfl) ?_
    refine lv_aload_n hx hb dX11_onSorted_64 rfl (lv_at hl 0 rfl) ?_
    refine z_get C hE hH zM_o rfl zh_X11 28 (by decide) zk23_15 (fun _ h9 => h9) (v := .int (S.1 28)) rfl dX11_onSorted_65 ?_
    refine lv_icmp_le (tgt := 93) hx hb dX11_onSorted_68 (by decide) (fun c1 => ?_) (fun c1 => ?_)
    · replace h := zif_t c1 h
      refine lv_aload_n hx hb dX11_onSorted_93 rfl (lv_at hl 0 rfl) ?_
      refine z_get C hE hH zM_o rfl zh_X11 15 (by decide) zk5_23 (fun _ h9 => h9) (v := .ref (q 15)) rfl dX11_onSorted_94 ?_
      refine lv_aload_n hx hb dX11_onSorted_97 rfl (lv_at hl 0 rfl) ?_
      refine z_get C hE hH zM_o rfl zh_X11 28 (by decide) zk23_15 (fun _ h9 => h9) (v := .int (S.1 28)) rfl dX11_onSorted_98 ?_
      refine lv_iload_n hx hb dX11_onSorted_101 rfl (lv_at hl 1 rfl) ?_
      obtain ⟨g2, h⟩ := zgd_s h
      refine z_iast C hE hH zM_a15 (t0 := 0) rfl g2 zM_r15 dX11_onSorted_102 (fun H locs hH => ?_)
      refine lv_iload_n hx hb dX11_onSorted_103 rfl (lv_at hl 2 rfl) ?_
      refine lv_aload_n hx hb dX11_onSorted_104 rfl (lv_at hl 0 rfl) ?_
      refine z_get C hE hH zM_o rfl zh_X11 18 (by decide) zk22_1 (fun _ h9 => h9) (v := .int (S.1 18)) rfl dX11_onSorted_105 ?_
      refine lv_iadd hx hb dX11_onSorted_108 ?_
      refine lv_aload_n hx hb dX11_onSorted_109 rfl (lv_at hl 0 rfl) ?_
      refine z_get C hE hH zM_o rfl zh_X11 28 (by decide) zk23_15 (fun _ h9 => h9) (v := .int (S.1 28)) rfl dX11_onSorted_110 ?_
      refine lv_isub hx hb dX11_onSorted_113 ?_
      refine lv_iconst (v := 1) hx hb dX11_onSorted_114 (by decide) ?_
      refine lv_iadd hx hb dX11_onSorted_115 ?_
      cases h
      exact z_iret C hE hH dX11_onSorted_116
    · replace h := zif_f c1 h
      refine lv_aload_n hx hb dX11_onSorted_71 rfl (lv_at hl 0 rfl) ?_
      refine z_get C hE hH zM_o rfl zh_X11 15 (by decide) zk5_23 (fun _ h9 => h9) (v := .ref (q 15)) rfl dX11_onSorted_72 ?_
      refine lv_iload hx hb dX11_onSorted_75 (lv_at hl 3 rfl) ?_
      refine lv_aload_n hx hb dX11_onSorted_77 rfl (lv_at hl 0 rfl) ?_
      refine z_get C hE hH zM_o rfl zh_X11 15 (by decide) zk5_23 (fun _ h9 => h9) (v := .ref (q 15)) rfl dX11_onSorted_78 ?_
      refine lv_iload hx hb dX11_onSorted_81 (lv_at hl 3 rfl) ?_
      refine lv_iconst (v := 1) hx hb dX11_onSorted_83 (by decide) ?_
      refine lv_isub hx hb dX11_onSorted_84 ?_
      obtain ⟨g3, h⟩ := zgd_s h
      refine z_iald C hE hH zM_a15 (t0 := 0) rfl g3 dX11_onSorted_85 ?_
      obtain ⟨g4, h⟩ := zgd_s h
      refine z_iast C hE hH zM_a15 (t0 := 0) rfl g4 zM_r15 dX11_onSorted_86 (fun H locs hH => ?_)
      refine lv_iinc (v := (x4 + (-1))) (lv' := [(4, .int (x4 + (-1))), (0, .ref (q 32)), (2, .int x2), (3, .int x3)]) hx hb dX11_onSorted_87 hl (k := 3) rfl rfl (by decide) rfl (fun ls hl => ?_)
      refine lv_goto (tgt := 62) hx hb dX11_onSorted_90 (by decide) ?_
      exact hK62 x2 x3 (x4 + (-1)) (zsR S 15 x4.toNatClampNeg (S.2 15 (x4 - 1).toNatClampNeg)) H locs ls hH (lv_sub hl [1, 2, 3, 0] rfl) h
set_option maxHeartbeats 4000000 in
set_option maxRecDepth 100000 in
theorem bM_X11_onSorted {p : Program} {l : Launch} {e : Env} {s : State} {m : MethodId} {args : Array Value} {below : List Frame} {meth : Method} {c : Code} {D : va_G} {cI : ClassId} {q : Nat → Nat} {A : Nat → Prop} {res : Int32 × zSt} (C : zCX p s m args meth c cX11_onSorted 5 (some .int) zU RX11) (hE : zE D [(cI, .int)] [] A s) (x1 x2 : Int32) (S : zSt) (H : Heap) (locs : List Loc) (ls : Array Slot) (hH : zH D (zwM cI q) A s S H locs) (hl : lv_has ls 5 [(0, .ref (q 32)), (1, .int x1), (2, .int x2)]) (h : fM_X11_onSorted  x1 x2 S = some res) : W p l e rmM_X11_onSorted s m args below meth c H locs 0 0 (zQi below D (zwM cI q) [(cI, .int)] A args s res.1 res.2) (F0 m 0 ls []) := by
  have hx := C.1
  have hb := C.2.1
  unfold fM_X11_onSorted at h
  refine lv_iconst (v := 0) hx hb dX11_onSorted_0 (by decide) ?_
  refine lv_istore_n (lv' := [(3, .int 0), (0, .ref (q 32)), (1, .int x1), (2, .int x2)]) hx hb dX11_onSorted_1 rfl hl (by decide) rfl (fun ls hl => ?_)
  refine lv_iload_n hx hb dX11_onSorted_2 rfl (lv_at hl 2 rfl) ?_
  by_cases c1_0 : x1 = 0
  · replace h := zif_t c1_0 h
    refine lv_tableIn (tgt := 44) hx hb dX11_onSorted_3 (by rw [c1_0]; decide) (by rw [c1_0]; decide) (by rw [c1_0]; rfl) (by decide) ?_
    refine lv_aload_n hx hb dX11_onSorted_44 rfl (lv_at hl 1 rfl) ?_
    refine lv_iconst (v := 1) hx hb dX11_onSorted_45 (by decide) ?_
    obtain ⟨u2, e3, h⟩ := zbd_s h
    refine z_calli (va_runV (As := [.int 1]) (rest := []) (z_fix C) (cM_X11_grow l D cI q H.size 1 S e3) (cwV 1 C.2.2.2.2.1 (zGV zk23_0 zk23_1 zk23_2 zk1_5 zk23_3) rfl rfl rfl yd_X11_grow ⟨Nat.le_of_ble_eq_true rfl, Nat.le_of_ble_eq_true rfl⟩) (z_preV zNm0 hE hH zM_o rfl) rfl rfl hl.1 rfl (lv_room (Nat.le_of_ble_eq_true rfl)) dX11_onSorted_46 ⟨Nat.le_refl 0, Nat.le_refl 0⟩) hE hH (fun H locs hH => ?_)
    refine lv_aload_n hx hb dX11_onSorted_49 rfl (lv_at hl 1 rfl) ?_
    refine lv_iload_n hx hb dX11_onSorted_50 rfl (lv_at hl 3 rfl) ?_
    obtain ⟨u4, e5, h⟩ := zbd_s h
    refine z_calli (va_runV (As := [.int x2]) (rest := [.int u2.1]) (z_fix C) (cM_X11_halving l D cI q H.size x2 u2.2 e5) (cwV 1 C.2.2.2.2.1 (zGV zk23_16 zk23_17 zk23_18 zk1_5 zk23_19) rfl rfl rfl yd_X11_halving ⟨Nat.le_of_ble_eq_true rfl, Nat.le_of_ble_eq_true rfl⟩) (z_preV zNm0 hE hH zM_o rfl) rfl rfl hl.1 rfl (lv_room (Nat.le_of_ble_eq_true rfl)) dX11_onSorted_51 ⟨Nat.le_refl 0, Nat.le_refl 0⟩) hE hH (fun H locs hH => ?_)
    refine lv_iadd hx hb dX11_onSorted_54 ?_
    refine lv_istore_n (lv' := [(3, .int (u2.1 + u4.1)), (0, .ref (q 32)), (1, .int x1), (2, .int x2)]) hx hb dX11_onSorted_55 rfl hl (by decide) rfl (fun ls hl => ?_)
    refine lv_aload_n hx hb dX11_onSorted_56 rfl (lv_at hl 1 rfl) ?_
    refine z_get C hE hH zM_o rfl zh_X11 18 (by decide) zk22_1 (fun _ h9 => h9) (v := .int (u4.2.1 18)) rfl dX11_onSorted_57 ?_
    refine lv_istore (lv' := [(4, .int (u4.2.1 18)), (3, .int (u2.1 + u4.1)), (0, .ref (q 32)), (1, .int x1), (2, .int x2)]) hx hb dX11_onSorted_60 hl (by decide) rfl (fun ls hl => ?_)
    exact bM_X11_onSorted_62 C hE   1000 x2 (u2.1 + u4.1) (u4.2.1 18) u4.2 H locs ls hH (lv_sub hl [2, 4, 1, 0] rfl) h
  · replace h := zif_f c1_0 h
    by_cases c1_1 : x1 = 1
    · replace h := zif_t c1_1 h
      refine lv_tableIn (tgt := 117) hx hb dX11_onSorted_3 (by rw [c1_1]; decide) (by rw [c1_1]; decide) (by rw [c1_1]; rfl) (by decide) ?_
      refine lv_aload_n hx hb dX11_onSorted_117 rfl (lv_at hl 1 rfl) ?_
      refine lv_iload_n hx hb dX11_onSorted_118 rfl (lv_at hl 3 rfl) ?_
      obtain ⟨u6, e7, h⟩ := zbd_s h
      refine z_calli (va_runV (As := [.int x2]) (rest := []) (z_fix C) (cM_X11_halving l D cI q H.size x2 S e7) (cwV 1 C.2.2.2.2.1 (zGV zk23_16 zk23_17 zk23_18 zk1_5 zk23_19) rfl rfl rfl yd_X11_halving ⟨Nat.le_of_ble_eq_true rfl, Nat.le_of_ble_eq_true rfl⟩) (z_preV zNm0 hE hH zM_o rfl) rfl rfl hl.1 rfl (lv_room (Nat.le_of_ble_eq_true rfl)) dX11_onSorted_119 ⟨Nat.le_refl 0, Nat.le_refl 0⟩) hE hH (fun H locs hH => ?_)
      refine lv_istore_n (lv' := [(3, .int u6.1), (0, .ref (q 32)), (1, .int x1), (2, .int x2)]) hx hb dX11_onSorted_122 rfl hl (by decide) rfl (fun ls hl => ?_)
      refine lv_aload_n hx hb dX11_onSorted_123 rfl (lv_at hl 1 rfl) ?_
      refine z_get C hE hH zM_o rfl zh_X11 28 (by decide) zk23_15 (fun _ h9 => h9) (v := .int (u6.2.1 28)) rfl dX11_onSorted_124 ?_
      refine lv_aload_n hx hb dX11_onSorted_127 rfl (lv_at hl 1 rfl) ?_
      refine z_get C hE hH zM_o rfl zh_X11 18 (by decide) zk22_1 (fun _ h9 => h9) (v := .int (u6.2.1 18)) rfl dX11_onSorted_128 ?_
      refine lv_icmp_ge (tgt := 140) hx hb dX11_onSorted_131 (by decide) (fun c8 => ?_) (fun c8 => ?_)
      · replace h := zif_t c8 h
        refine lv_iload_n hx hb dX11_onSorted_140 rfl (lv_at hl 0 rfl) ?_
        cases h
        exact z_iret C hE hH dX11_onSorted_141
      · replace h := zif_f c8 h
        refine lv_iload_n hx hb dX11_onSorted_134 rfl (lv_at hl 0 rfl) ?_
        refine lv_iconst (v := 1) hx hb dX11_onSorted_135 (by decide) ?_
        refine lv_iadd hx hb dX11_onSorted_136 ?_
        refine lv_goto (tgt := 141) hx hb dX11_onSorted_137 (by decide) ?_
        cases h
        exact z_iret C hE hH dX11_onSorted_141
    · replace h := zif_f c1_1 h
      by_cases c1_2 : x1 = 2
      · replace h := zif_t c1_2 h
        refine lv_tableIn (tgt := 142) hx hb dX11_onSorted_3 (by rw [c1_2]; decide) (by rw [c1_2]; decide) (by rw [c1_2]; rfl) (by decide) ?_
        refine lv_aload_n hx hb dX11_onSorted_142 rfl (lv_at hl 1 rfl) ?_
        refine lv_iload_n hx hb dX11_onSorted_143 rfl (lv_at hl 3 rfl) ?_
        obtain ⟨u9, e10, h⟩ := zbd_s h
        refine z_calli (va_runV (As := [.int x2]) (rest := []) (z_fix C) (cM_X11_halving l D cI q H.size x2 S e10) (cwV 1 C.2.2.2.2.1 (zGV zk23_16 zk23_17 zk23_18 zk1_5 zk23_19) rfl rfl rfl yd_X11_halving ⟨Nat.le_of_ble_eq_true rfl, Nat.le_of_ble_eq_true rfl⟩) (z_preV zNm0 hE hH zM_o rfl) rfl rfl hl.1 rfl (lv_room (Nat.le_of_ble_eq_true rfl)) dX11_onSorted_144 ⟨Nat.le_refl 0, Nat.le_refl 0⟩) hE hH (fun H locs hH => ?_)
        refine lv_istore_n (lv' := [(3, .int u9.1), (0, .ref (q 32)), (1, .int x1), (2, .int x2)]) hx hb dX11_onSorted_147 rfl hl (by decide) rfl (fun ls hl => ?_)
        refine lv_aload_n hx hb dX11_onSorted_148 rfl (lv_at hl 1 rfl) ?_
        refine z_get C hE hH zM_o rfl zh_X11 28 (by decide) zk23_15 (fun _ h9 => h9) (v := .int (u9.2.1 28)) rfl dX11_onSorted_149 ?_
        refine lv_aload_n hx hb dX11_onSorted_152 rfl (lv_at hl 1 rfl) ?_
        refine z_get C hE hH zM_o rfl zh_X11 18 (by decide) zk22_1 (fun _ h9 => h9) (v := .int (u9.2.1 18)) rfl dX11_onSorted_153 ?_
        refine lv_icmp_ne (tgt := 161) hx hb dX11_onSorted_156 (by decide) (fun c11 => ?_) (fun c11 => ?_)
        · replace h := zif_f c11 h
          refine lv_aload_n hx hb dX11_onSorted_161 rfl (lv_at hl 1 rfl) ?_
          refine z_get C hE hH zM_o rfl zh_X11 15 (by decide) zk5_23 (fun _ h9 => h9) (v := .ref (q 15)) rfl dX11_onSorted_162 ?_
          refine lv_aload_n hx hb dX11_onSorted_165 rfl (lv_at hl 1 rfl) ?_
          refine z_get C hE hH zM_o rfl zh_X11 28 (by decide) zk23_15 (fun _ h9 => h9) (v := .int (u9.2.1 28)) rfl dX11_onSorted_166 ?_
          obtain ⟨g12, h⟩ := zgd_s h
          refine z_iald C hE hH zM_a15 (t0 := 0) rfl g12 dX11_onSorted_169 ?_
          refine lv_iload_n hx hb dX11_onSorted_170 rfl (lv_at hl 3 rfl) ?_
          refine lv_icmp_eq (tgt := 178) hx hb dX11_onSorted_171 (by decide) (fun c13 => ?_) (fun c13 => ?_)
          · replace h := zif_t c13 h
            refine lv_aload_n hx hb dX11_onSorted_178 rfl (lv_at hl 1 rfl) ?_
            refine z_get C hE hH zM_o rfl zh_X11 15 (by decide) zk5_23 (fun _ h9 => h9) (v := .ref (q 15)) rfl dX11_onSorted_179 ?_
            refine lv_aload_n hx hb dX11_onSorted_182 rfl (lv_at hl 1 rfl) ?_
            refine z_get C hE hH zM_o rfl zh_X11 18 (by decide) zk22_1 (fun _ h9 => h9) (v := .int (u9.2.1 18)) rfl dX11_onSorted_183 ?_
            refine lv_aload_n hx hb dX11_onSorted_186 rfl (lv_at hl 1 rfl) ?_
            refine z_get C hE hH zM_o rfl zh_X11 28 (by decide) zk23_15 (fun _ h9 => h9) (v := .int (u9.2.1 28)) rfl dX11_onSorted_187 ?_
            obtain ⟨u14, e15, h⟩ := zbd_s h
            refine z_callv (va_runS (As := [.ref (q 15), .int (u9.2.1 18), .int (u9.2.1 28)]) (rest := []) (z_fix C) (cM_X11_takeOut_sorted l D cI q H.size (u9.2.1 18) (u9.2.1 28) u9.2 e15) (va_cwS 3 C.2.2.2.2.1 (zGS zk23_8 zk23_9 zk1_5 zk23_10) rfl rfl rfl yd_X11_takeOut ⟨Nat.le_of_ble_eq_true rfl, Nat.le_of_ble_eq_true rfl⟩) (z_preS zNm0 hE hH) rfl rfl hl.1 rfl (lv_room (Nat.le_of_ble_eq_true rfl)) dX11_onSorted_190 ⟨Nat.le_refl 0, Nat.le_refl 0⟩) hE hH (fun H locs hH => ?_)
            refine lv_iload_n hx hb dX11_onSorted_193 rfl (lv_at hl 0 rfl) ?_
            refine lv_aload_n hx hb dX11_onSorted_194 rfl (lv_at hl 1 rfl) ?_
            refine z_get C hE hH zM_o rfl zh_X11 18 (by decide) zk22_1 (fun _ h9 => h9) (v := .int (u14.1 18)) rfl dX11_onSorted_195 ?_
            refine lv_iadd hx hb dX11_onSorted_198 ?_
            refine lv_aload_n hx hb dX11_onSorted_199 rfl (lv_at hl 1 rfl) ?_
            refine z_get C hE hH zM_o rfl zh_X11 28 (by decide) zk23_15 (fun _ h9 => h9) (v := .int (u14.1 28)) rfl dX11_onSorted_200 ?_
            refine lv_isub hx hb dX11_onSorted_203 ?_
            cases h
            exact z_iret C hE hH dX11_onSorted_204
          · replace h := zif_f c13 h
            refine lv_iload_n hx hb dX11_onSorted_174 rfl (lv_at hl 0 rfl) ?_
            refine lv_iconst (v := 1) hx hb dX11_onSorted_175 (by decide) ?_
            refine lv_iadd hx hb dX11_onSorted_176 ?_
            cases h
            exact z_iret C hE hH dX11_onSorted_177
        · replace h := zif_t c11 h
          refine lv_iload_n hx hb dX11_onSorted_159 rfl (lv_at hl 0 rfl) ?_
          cases h
          exact z_iret C hE hH dX11_onSorted_160
      · replace h := zif_f c1_2 h
        by_cases c1_3 : x1 = 3
        · replace h := zif_t c1_3 h
          refine lv_tableIn (tgt := 205) hx hb dX11_onSorted_3 (by rw [c1_3]; decide) (by rw [c1_3]; decide) (by rw [c1_3]; rfl) (by decide) ?_
          refine lv_aload_n hx hb dX11_onSorted_205 rfl (lv_at hl 1 rfl) ?_
          refine z_get C hE hH zM_o rfl zh_X11 18 (by decide) zk22_1 (fun _ h9 => h9) (v := .int (S.1 18)) rfl dX11_onSorted_206 ?_
          cases h
          exact z_iret C hE hH dX11_onSorted_209
        · replace h := zif_f c1_3 h
          by_cases c1_4 : x1 = 4
          · replace h := zif_t c1_4 h
            refine lv_tableIn (tgt := 210) hx hb dX11_onSorted_3 (by rw [c1_4]; decide) (by rw [c1_4]; decide) (by rw [c1_4]; rfl) (by decide) ?_
            refine lv_iconst (v := 1) hx hb dX11_onSorted_210 (by decide) ?_
            cases h
            exact z_iret C hE hH dX11_onSorted_211
          · replace h := zif_f c1_4 h
            by_cases c1_5 : x1 = 5
            · replace h := zif_t c1_5 h
              refine lv_tableIn (tgt := 117) hx hb dX11_onSorted_3 (by rw [c1_5]; decide) (by rw [c1_5]; decide) (by rw [c1_5]; rfl) (by decide) ?_
              refine lv_aload_n hx hb dX11_onSorted_117 rfl (lv_at hl 1 rfl) ?_
              refine lv_iload_n hx hb dX11_onSorted_118 rfl (lv_at hl 3 rfl) ?_
              obtain ⟨u16, e17, h⟩ := zbd_s h
              refine z_calli (va_runV (As := [.int x2]) (rest := []) (z_fix C) (cM_X11_halving l D cI q H.size x2 S e17) (cwV 1 C.2.2.2.2.1 (zGV zk23_16 zk23_17 zk23_18 zk1_5 zk23_19) rfl rfl rfl yd_X11_halving ⟨Nat.le_of_ble_eq_true rfl, Nat.le_of_ble_eq_true rfl⟩) (z_preV zNm0 hE hH zM_o rfl) rfl rfl hl.1 rfl (lv_room (Nat.le_of_ble_eq_true rfl)) dX11_onSorted_119 ⟨Nat.le_refl 0, Nat.le_refl 0⟩) hE hH (fun H locs hH => ?_)
              refine lv_istore_n (lv' := [(3, .int u16.1), (0, .ref (q 32)), (1, .int x1), (2, .int x2)]) hx hb dX11_onSorted_122 rfl hl (by decide) rfl (fun ls hl => ?_)
              refine lv_aload_n hx hb dX11_onSorted_123 rfl (lv_at hl 1 rfl) ?_
              refine z_get C hE hH zM_o rfl zh_X11 28 (by decide) zk23_15 (fun _ h9 => h9) (v := .int (u16.2.1 28)) rfl dX11_onSorted_124 ?_
              refine lv_aload_n hx hb dX11_onSorted_127 rfl (lv_at hl 1 rfl) ?_
              refine z_get C hE hH zM_o rfl zh_X11 18 (by decide) zk22_1 (fun _ h9 => h9) (v := .int (u16.2.1 18)) rfl dX11_onSorted_128 ?_
              refine lv_icmp_ge (tgt := 140) hx hb dX11_onSorted_131 (by decide) (fun c18 => ?_) (fun c18 => ?_)
              · replace h := zif_t c18 h
                refine lv_iload_n hx hb dX11_onSorted_140 rfl (lv_at hl 0 rfl) ?_
                cases h
                exact z_iret C hE hH dX11_onSorted_141
              · replace h := zif_f c18 h
                refine lv_iload_n hx hb dX11_onSorted_134 rfl (lv_at hl 0 rfl) ?_
                refine lv_iconst (v := 1) hx hb dX11_onSorted_135 (by decide) ?_
                refine lv_iadd hx hb dX11_onSorted_136 ?_
                refine lv_goto (tgt := 141) hx hb dX11_onSorted_137 (by decide) ?_
                cases h
                exact z_iret C hE hH dX11_onSorted_141
            · replace h := zif_f c1_5 h
              by_cases c1_6 : x1 = 6
              · replace h := zif_t c1_6 h
                refine lv_tableIn (tgt := 212) hx hb dX11_onSorted_3 (by rw [c1_6]; decide) (by rw [c1_6]; decide) (by rw [c1_6]; rfl) (by decide) ?_
                refine lv_iconst (v := 0) hx hb dX11_onSorted_212 (by decide) ?_
                cases h
                exact z_iret C hE hH dX11_onSorted_213
              · replace h := zif_f c1_6 h
                have ec1_0 : ¬ (x1).toInt = 0 := zsw_ne c1_0
                have ec1_1 : ¬ (x1).toInt = 1 := zsw_ne c1_1
                have ec1_2 : ¬ (x1).toInt = 2 := zsw_ne c1_2
                have ec1_3 : ¬ (x1).toInt = 3 := zsw_ne c1_3
                have ec1_4 : ¬ (x1).toInt = 4 := zsw_ne c1_4
                have ec1_5 : ¬ (x1).toInt = 5 := zsw_ne c1_5
                have ec1_6 : ¬ (x1).toInt = 6 := zsw_ne c1_6
                refine lv_tableOut (tgt := 214) hx hb dX11_onSorted_3 (by omega) (by decide) ?_
                refine lv_aload_n hx hb dX11_onSorted_214 rfl (lv_at hl 1 rfl) ?_
                refine lv_iload_n hx hb dX11_onSorted_215 rfl (lv_at hl 3 rfl) ?_
                obtain ⟨u19, e20, h⟩ := zbd_s h
                refine z_calli (va_runV (As := [.int x2]) (rest := []) (z_fix C) (cM_X11_halving l D cI q H.size x2 S e20) (cwV 1 C.2.2.2.2.1 (zGV zk23_16 zk23_17 zk23_18 zk1_5 zk23_19) rfl rfl rfl yd_X11_halving ⟨Nat.le_of_ble_eq_true rfl, Nat.le_of_ble_eq_true rfl⟩) (z_preV zNm0 hE hH zM_o rfl) rfl rfl hl.1 rfl (lv_room (Nat.le_of_ble_eq_true rfl)) dX11_onSorted_216 ⟨Nat.le_refl 0, Nat.le_refl 0⟩) hE hH (fun H locs hH => ?_)
                refine lv_aload_n hx hb dX11_onSorted_219 rfl (lv_at hl 1 rfl) ?_
                refine lv_iload_n hx hb dX11_onSorted_220 rfl (lv_at hl 3 rfl) ?_
                refine lv_iconst (v := 1) hx hb dX11_onSorted_221 (by decide) ?_
                refine lv_iadd hx hb dX11_onSorted_222 ?_
                obtain ⟨u21, e22, h⟩ := zbd_s h
                refine z_calli (va_runV (As := [.int (x2 + 1)]) (rest := [.int u19.1]) (z_fix C) (cM_X11_halving l D cI q H.size (x2 + 1) u19.2 e22) (cwV 1 C.2.2.2.2.1 (zGV zk23_16 zk23_17 zk23_18 zk1_5 zk23_19) rfl rfl rfl yd_X11_halving ⟨Nat.le_of_ble_eq_true rfl, Nat.le_of_ble_eq_true rfl⟩) (z_preV zNm0 hE hH zM_o rfl) rfl rfl hl.1 rfl (lv_room (Nat.le_of_ble_eq_true rfl)) dX11_onSorted_223 ⟨Nat.le_refl 0, Nat.le_refl 0⟩) hE hH (fun H locs hH => ?_)
                refine lv_iadd hx hb dX11_onSorted_226 ?_
                cases h
                exact z_iret C hE hH dX11_onSorted_227
set_option maxHeartbeats 4000000 in
set_option maxRecDepth 100000 in
theorem cM_X11_onSorted (l : Launch) (D : va_G) (cI : ClassId) (q : Nat → Nat) (sz : Nat) (x1 : Int32) (x2 : Int32) (S : zSt) {res : Int32 × zSt} (h : fM_X11_onSorted x1 x2 S = some res) : zMi l yX11_onSorted vsX11_onSorted rmM_X11_onSorted [.ref (q 32), .int x1, .int x2] D (zwM cI q) [(cI, .int)] [] sz S res.1 res.2 := by
  refine Met.ofW (cc := cX11_onSorted) (maxL := 5) (ret := (some .int)) (by decide) rfl ?_
  intro p e s m args below meth c s₁ B hml hv
  obtain ⟨rfl, rfl, hP, hK, hD0, hN⟩ := hv
  have hl := lv_entry ([.ref (q 32), .int x1, .int x2]) (n := 5) (Nat.le_of_ble_eq_true rfl)
  rw [lg_entry_eq]
  generalize (lg_sl ([.ref (q 32), .int x1, .int x2]) ++ List.replicate (5 - (lg_sl ([.ref (q 32), .int x1, .int x2])).length) Slot.unset).toArray = ls at hl ⊢
  exact bM_X11_onSorted ⟨B.exec, B.bytes, hml, findClass_of_methodNamed B.named, fun w h => atoms_spec (ws := vsX11_onSorted) B.pre w (List.mem_cons_of_mem _ h), B.returns, B.notSynchronized⟩ ⟨hK, fun q h => Or.inr h, hN⟩ x1 x2 S s.heap [] ls ⟨hP, hD0.self, va_S.rf⟩ hl  h
def rmM_X11_aheadIn : Room := { frames := 0, cells := 0, slots := 0, locals := 0 }
set_option maxHeartbeats 4000000 in
set_option maxRecDepth 100000 in
theorem bM_X11_aheadIn_62 {p : Program} {l : Launch} {e : Env} {s : State} {m : MethodId} {args : Array Value} {below : List Frame} {meth : Method} {c : Code} {D : va_G} {cI : ClassId} {q : Nat → Nat} {A : Nat → Prop} {res : Int32} (C : zCX p s m args meth c cX11_aheadIn 5 (some .int) zU RX11) (hE : zE D [(cI, .int)] [] A s) : ∀ (n : Nat) (x1 x2 x3 x4 : Int32) (S : zSt) (H : Heap) (locs : List Loc) (ls : Array Slot), zH D (zwM cI q) A s S H locs → lv_has ls 5 [(0, .ref (q 32)), (1, .int x1), (2, .int x2), (3, .int x3), (4, .int x4)] → fM_X11_aheadIn_62  n x1 x2 x3 x4 S = some res → W p l e rmM_X11_aheadIn s m args below meth c H locs 0 0 (zQi below D (zwM cI q) [(cI, .int)] A args s res S) (F0 m 62 ls []) := by
  have hx := C.1
  have hb := C.2.1
  intro n
  induction n with
  | zero =>
    intro x1 x2 x3 x4 S H locs ls hH hl  h
    cases h
  | succ n hK62 =>
    intro x1 x2 x3 x4 S H locs ls hH hl  h
    rw [fM_X11_aheadIn_62] at h
    refine lv_iload hx hb dX11_aheadIn_62 (lv_at hl 4 rfl) ?_
    refine lv_aload_n hx hb dX11_aheadIn_64 rfl (lv_at hl 0 rfl) ?_
    refine z_get C hE hH zM_o rfl zh_X11 18 (by decide) zk22_1 (fun _ h9 => h9) (v := .int (S.1 18)) rfl dX11_aheadIn_65 ?_
    refine lv_icmp_ge (tgt := 117) hx hb dX11_aheadIn_68 (by decide) (fun c1 => ?_) (fun c1 => ?_)
    · replace h := zif_t c1 h
      refine lv_iload_n hx hb dX11_aheadIn_117 rfl (lv_at hl 3 rfl) ?_
      cases h
      exact z_iret C hE hH dX11_aheadIn_118
    · replace h := zif_f c1 h
      refine lv_aload_n hx hb dX11_aheadIn_71 rfl (lv_at hl 0 rfl) ?_
      refine z_get C hE hH zM_o rfl zh_X11 19 (by decide) zk6_2 (fun _ h9 => h9) (v := .ref (q 19)) rfl dX11_aheadIn_72 ?_
      refine lv_iload hx hb dX11_aheadIn_75 (lv_at hl 4 rfl) ?_
      obtain ⟨g2, h⟩ := zgd_s h
      refine z_iald C hE hH zM_a19 (t0 := 0) rfl g2 dX11_aheadIn_77 ?_
      refine lv_aload_n hx hb dX11_aheadIn_78 rfl (lv_at hl 0 rfl) ?_
      refine z_get C hE hH zM_o rfl zh_X11 21 (by decide) zk22_2 (fun _ h9 => h9) (v := .int (S.1 21)) rfl dX11_aheadIn_79 ?_
      obtain ⟨g3, h⟩ := zgd_s h
      refine lv_irem hx hb dX11_aheadIn_82 (znz_v g3) ?_
      refine lv_iload_n hx hb dX11_aheadIn_83 rfl (lv_at hl 1 rfl) ?_
      refine lv_aload_n hx hb dX11_aheadIn_84 rfl (lv_at hl 0 rfl) ?_
      refine z_get C hE hH zM_o rfl zh_X11 21 (by decide) zk22_2 (fun _ h9 => h9) (v := .int (S.1 21)) rfl dX11_aheadIn_85 ?_
      obtain ⟨g4, h⟩ := zgd_s h
      refine lv_irem hx hb dX11_aheadIn_88 (znz_v g4) ?_
      refine lv_icmp_ne (tgt := 111) hx hb dX11_aheadIn_89 (by decide) (fun c5 => ?_) (fun c5 => ?_)
      · replace h := zif_f c5 h
        refine lv_iinc (v := (x4 + 1)) (lv' := [(4, .int (x4 + 1)), (0, .ref (q 32)), (1, .int x1), (2, .int x2), (3, .int x3)]) hx hb dX11_aheadIn_111 hl (k := 4) rfl rfl (by decide) rfl (fun ls hl => ?_)
        refine lv_goto (tgt := 62) hx hb dX11_aheadIn_114 (by decide) ?_
        exact hK62 x1 x2 x3 (x4 + 1) S H locs ls hH (lv_sub hl [1, 2, 3, 4, 0] rfl) h
      · replace h := zif_t c5 h
        refine lv_aload_n hx hb dX11_aheadIn_92 rfl (lv_at hl 0 rfl) ?_
        refine z_get C hE hH zM_o rfl zh_X11 20 (by decide) zk6_3 (fun _ h9 => h9) (v := .ref (q 20)) rfl dX11_aheadIn_93 ?_
        refine lv_iload hx hb dX11_aheadIn_96 (lv_at hl 4 rfl) ?_
        obtain ⟨g6, h⟩ := zgd_s h
        refine z_iald C hE hH zM_a20 (t0 := 0) rfl g6 dX11_aheadIn_98 ?_
        refine lv_aload_n hx hb dX11_aheadIn_99 rfl (lv_at hl 0 rfl) ?_
        refine z_get C hE hH zM_o rfl zh_X11 20 (by decide) zk6_3 (fun _ h9 => h9) (v := .ref (q 20)) rfl dX11_aheadIn_100 ?_
        refine lv_iload_n hx hb dX11_aheadIn_103 rfl (lv_at hl 2 rfl) ?_
        obtain ⟨g7, h⟩ := zgd_s h
        refine z_iald C hE hH zM_a20 (t0 := 0) rfl g7 dX11_aheadIn_104 ?_
        refine lv_icmp_le (tgt := 111) hx hb dX11_aheadIn_105 (by decide) (fun c8 => ?_) (fun c8 => ?_)
        · replace h := zif_t c8 h
          refine lv_iinc (v := (x4 + 1)) (lv' := [(4, .int (x4 + 1)), (0, .ref (q 32)), (1, .int x1), (2, .int x2), (3, .int x3)]) hx hb dX11_aheadIn_111 hl (k := 4) rfl rfl (by decide) rfl (fun ls hl => ?_)
          refine lv_goto (tgt := 62) hx hb dX11_aheadIn_114 (by decide) ?_
          exact hK62 x1 x2 x3 (x4 + 1) S H locs ls hH (lv_sub hl [1, 2, 3, 4, 0] rfl) h
        · replace h := zif_f c8 h
          refine lv_iinc (v := (x3 + 1)) (lv' := [(3, .int (x3 + 1)), (0, .ref (q 32)), (1, .int x1), (2, .int x2), (4, .int x4)]) hx hb dX11_aheadIn_108 hl (k := 3) rfl rfl (by decide) rfl (fun ls hl => ?_)
          refine lv_iinc (v := (x4 + 1)) (lv' := [(4, .int (x4 + 1)), (3, .int (x3 + 1)), (0, .ref (q 32)), (1, .int x1), (2, .int x2)]) hx hb dX11_aheadIn_111 hl (k := 4) rfl rfl (by decide) rfl (fun ls hl => ?_)
          refine lv_goto (tgt := 62) hx hb dX11_aheadIn_114 (by decide) ?_
          exact hK62 x1 x2 (x3 + 1) (x4 + 1) S H locs ls hH (lv_sub hl [2, 3, 4, 1, 0] rfl) h
set_option maxHeartbeats 4000000 in
set_option maxRecDepth 100000 in
theorem bM_X11_aheadIn_42 {p : Program} {l : Launch} {e : Env} {s : State} {m : MethodId} {args : Array Value} {below : List Frame} {meth : Method} {c : Code} {D : va_G} {cI : ClassId} {q : Nat → Nat} {A : Nat → Prop} {res : Int32} (C : zCX p s m args meth c cX11_aheadIn 5 (some .int) zU RX11) (hE : zE D [(cI, .int)] [] A s) (K4 : (Int32 → Int32 → Int32 → zSt → Option (Int32))) (hK4 : ∀ (x1 x2 x3 : Int32) (S : zSt) (H : Heap) (locs : List Loc) (ls : Array Slot), zH D (zwM cI q) A s S H locs → lv_has ls 5 [(0, .ref (q 32)), (1, .int x1), (2, .int x2), (3, .int x3)] → K4 x1 x2 x3 S = some res → W p l e rmM_X11_aheadIn s m args below meth c H locs 0 0 (zQi below D (zwM cI q) [(cI, .int)] A args s res S) (F0 m 4 ls [])) (x1 x3 : Int32) (S : zSt) (H : Heap) (locs : List Loc) (ls : Array Slot) (hH : zH D (zwM cI q) A s S H locs) (hl : lv_has ls 5 [(0, .ref (q 32)), (1, .int x1), (3, .int x3)]) (h : fM_X11_aheadIn_42 K4 x1 x3 S = some res) : W p l e rmM_X11_aheadIn s m args below meth c H locs 0 0 (zQi below D (zwM cI q) [(cI, .int)] A args s res S) (F0 m 42 ls []) := by
  have hx := C.1
  have hb := C.2.1
  unfold fM_X11_aheadIn_42 at h
  refine lv_iload_n hx hb dX11_aheadIn_42 rfl (lv_at hl 2 rfl) ?_
  refine lv_istore_n (lv' := [(2, .int x3), (0, .ref (q 32)), (1, .int x1), (3, .int x3)]) hx hb dX11_aheadIn_43 rfl hl (by decide) rfl (fun ls hl => ?_)
  refine lv_iinc (v := (x3 + 1)) (lv' := [(3, .int (x3 + 1)), (2, .int x3), (0, .ref (q 32)), (1, .int x1)]) hx hb dX11_aheadIn_44 hl (k := 3) rfl rfl (by decide) rfl (fun ls hl => ?_)
  refine lv_goto (tgt := 4) hx hb dX11_aheadIn_47 (by decide) ?_
  exact hK4 x1 x3 (x3 + 1) S H locs ls hH (lv_sub hl [2, 3, 1, 0] rfl) h
set_option maxHeartbeats 4000000 in
set_option maxRecDepth 100000 in
theorem bM_X11_aheadIn_4 {p : Program} {l : Launch} {e : Env} {s : State} {m : MethodId} {args : Array Value} {below : List Frame} {meth : Method} {c : Code} {D : va_G} {cI : ClassId} {q : Nat → Nat} {A : Nat → Prop} {res : Int32} (C : zCX p s m args meth c cX11_aheadIn 5 (some .int) zU RX11) (hE : zE D [(cI, .int)] [] A s) : ∀ (n : Nat) (x1 x2 x3 : Int32) (S : zSt) (H : Heap) (locs : List Loc) (ls : Array Slot), zH D (zwM cI q) A s S H locs → lv_has ls 5 [(0, .ref (q 32)), (1, .int x1), (2, .int x2), (3, .int x3)] → fM_X11_aheadIn_4  n x1 x2 x3 S = some res → W p l e rmM_X11_aheadIn s m args below meth c H locs 0 0 (zQi below D (zwM cI q) [(cI, .int)] A args s res S) (F0 m 4 ls []) := by
  have hx := C.1
  have hb := C.2.1
  intro n
  induction n with
  | zero =>
    intro x1 x2 x3 S H locs ls hH hl  h
    cases h
  | succ n hK4 =>
    intro x1 x2 x3 S H locs ls hH hl  h
    rw [fM_X11_aheadIn_4] at h
    refine lv_iload_n hx hb dX11_aheadIn_4 rfl (lv_at hl 3 rfl) ?_
    refine lv_aload_n hx hb dX11_aheadIn_5 rfl (lv_at hl 0 rfl) ?_
    refine z_get C hE hH zM_o rfl zh_X11 18 (by decide) zk22_1 (fun _ h9 => h9) (v := .int (S.1 18)) rfl dX11_aheadIn_6 ?_
    refine lv_icmp_ge (tgt := 50) hx hb dX11_aheadIn_9 (by decide) (fun c1 => ?_) (fun c1 => ?_)
    · replace h := zif_t c1 h
      refine lv_iload_n hx hb dX11_aheadIn_50 rfl (lv_at hl 2 rfl) ?_
      refine lv_iconst (v := (-1)) hx hb dX11_aheadIn_51 (by decide) ?_
      refine lv_icmp_ne (tgt := 57) hx hb dX11_aheadIn_52 (by decide) (fun c2 => ?_) (fun c2 => ?_)
      · replace h := zif_f c2 h
        refine lv_iconst (v := 0) hx hb dX11_aheadIn_57 (by decide) ?_
        refine lv_istore_n (lv' := [(3, .int 0), (0, .ref (q 32)), (1, .int x1), (2, .int x2)]) hx hb dX11_aheadIn_58 rfl hl (by decide) rfl (fun ls hl => ?_)
        refine lv_iconst (v := 0) hx hb dX11_aheadIn_59 (by decide) ?_
        refine lv_istore (lv' := [(4, .int 0), (3, .int 0), (0, .ref (q 32)), (1, .int x1), (2, .int x2)]) hx hb dX11_aheadIn_60 hl (by decide) rfl (fun ls hl => ?_)
        exact bM_X11_aheadIn_62 C hE   1000 x1 x2 0 0 S H locs ls hH (lv_sub hl [2, 3, 4, 1, 0] rfl) h
      · replace h := zif_t c2 h
        refine lv_iconst (v := (-1)) hx hb dX11_aheadIn_55 (by decide) ?_
        cases h
        exact z_iret C hE hH dX11_aheadIn_56
    · replace h := zif_f c1 h
      refine lv_aload_n hx hb dX11_aheadIn_12 rfl (lv_at hl 0 rfl) ?_
      refine z_get C hE hH zM_o rfl zh_X11 19 (by decide) zk6_2 (fun _ h9 => h9) (v := .ref (q 19)) rfl dX11_aheadIn_13 ?_
      refine lv_iload_n hx hb dX11_aheadIn_16 rfl (lv_at hl 3 rfl) ?_
      obtain ⟨g3, h⟩ := zgd_s h
      refine z_iald C hE hH zM_a19 (t0 := 0) rfl g3 dX11_aheadIn_17 ?_
      refine lv_iload_n hx hb dX11_aheadIn_18 rfl (lv_at hl 1 rfl) ?_
      refine lv_icmp_ne (tgt := 44) hx hb dX11_aheadIn_19 (by decide) (fun c4 => ?_) (fun c4 => ?_)
      · replace h := zif_f c4 h
        refine lv_iinc (v := (x3 + 1)) (lv' := [(3, .int (x3 + 1)), (0, .ref (q 32)), (1, .int x1), (2, .int x2)]) hx hb dX11_aheadIn_44 hl (k := 3) rfl rfl (by decide) rfl (fun ls hl => ?_)
        refine lv_goto (tgt := 4) hx hb dX11_aheadIn_47 (by decide) ?_
        exact hK4 x1 x2 (x3 + 1) S H locs ls hH (lv_sub hl [1, 2, 3, 0] rfl) h
      · replace h := zif_t c4 h
        refine lv_iload_n hx hb dX11_aheadIn_22 rfl (lv_at hl 2 rfl) ?_
        refine lv_iconst (v := (-1)) hx hb dX11_aheadIn_23 (by decide) ?_
        refine lv_icmp_eq (tgt := 42) hx hb dX11_aheadIn_24 (by decide) (fun c5 => ?_) (fun c5 => ?_)
        · replace h := zif_t c5 h
          exact bM_X11_aheadIn_42 C hE (fM_X11_aheadIn_4  n) hK4 x1 x3 S H locs ls hH (lv_sub hl [0, 1, 3] rfl) h
        · replace h := zif_f c5 h
          refine lv_aload_n hx hb dX11_aheadIn_27 rfl (lv_at hl 0 rfl) ?_
          refine z_get C hE hH zM_o rfl zh_X11 20 (by decide) zk6_3 (fun _ h9 => h9) (v := .ref (q 20)) rfl dX11_aheadIn_28 ?_
          refine lv_iload_n hx hb dX11_aheadIn_31 rfl (lv_at hl 3 rfl) ?_
          obtain ⟨g6, h⟩ := zgd_s h
          refine z_iald C hE hH zM_a20 (t0 := 0) rfl g6 dX11_aheadIn_32 ?_
          refine lv_aload_n hx hb dX11_aheadIn_33 rfl (lv_at hl 0 rfl) ?_
          refine z_get C hE hH zM_o rfl zh_X11 20 (by decide) zk6_3 (fun _ h9 => h9) (v := .ref (q 20)) rfl dX11_aheadIn_34 ?_
          refine lv_iload_n hx hb dX11_aheadIn_37 rfl (lv_at hl 2 rfl) ?_
          obtain ⟨g7, h⟩ := zgd_s h
          refine z_iald C hE hH zM_a20 (t0 := 0) rfl g7 dX11_aheadIn_38 ?_
          refine lv_icmp_le (tgt := 44) hx hb dX11_aheadIn_39 (by decide) (fun c8 => ?_) (fun c8 => ?_)
          · replace h := zif_t c8 h
            refine lv_iinc (v := (x3 + 1)) (lv' := [(3, .int (x3 + 1)), (0, .ref (q 32)), (1, .int x1), (2, .int x2)]) hx hb dX11_aheadIn_44 hl (k := 3) rfl rfl (by decide) rfl (fun ls hl => ?_)
            refine lv_goto (tgt := 4) hx hb dX11_aheadIn_47 (by decide) ?_
            exact hK4 x1 x2 (x3 + 1) S H locs ls hH (lv_sub hl [1, 2, 3, 0] rfl) h
          · replace h := zif_f c8 h
            exact bM_X11_aheadIn_42 C hE (fM_X11_aheadIn_4  n) hK4 x1 x3 S H locs ls hH (lv_sub hl [0, 1, 3] rfl) h
set_option maxHeartbeats 4000000 in
set_option maxRecDepth 100000 in
theorem bM_X11_aheadIn {p : Program} {l : Launch} {e : Env} {s : State} {m : MethodId} {args : Array Value} {below : List Frame} {meth : Method} {c : Code} {D : va_G} {cI : ClassId} {q : Nat → Nat} {A : Nat → Prop} {res : Int32} (C : zCX p s m args meth c cX11_aheadIn 5 (some .int) zU RX11) (hE : zE D [(cI, .int)] [] A s) (x1 : Int32) (S : zSt) (H : Heap) (locs : List Loc) (ls : Array Slot) (hH : zH D (zwM cI q) A s S H locs) (hl : lv_has ls 5 [(0, .ref (q 32)), (1, .int x1)]) (h : fM_X11_aheadIn  x1 S = some res) : W p l e rmM_X11_aheadIn s m args below meth c H locs 0 0 (zQi below D (zwM cI q) [(cI, .int)] A args s res S) (F0 m 0 ls []) := by
  have hx := C.1
  have hb := C.2.1
  unfold fM_X11_aheadIn at h
  refine lv_iconst (v := (-1)) hx hb dX11_aheadIn_0 (by decide) ?_
  refine lv_istore_n (lv' := [(2, .int (-1)), (0, .ref (q 32)), (1, .int x1)]) hx hb dX11_aheadIn_1 rfl hl (by decide) rfl (fun ls hl => ?_)
  refine lv_iconst (v := 0) hx hb dX11_aheadIn_2 (by decide) ?_
  refine lv_istore_n (lv' := [(3, .int 0), (2, .int (-1)), (0, .ref (q 32)), (1, .int x1)]) hx hb dX11_aheadIn_3 rfl hl (by decide) rfl (fun ls hl => ?_)
  exact bM_X11_aheadIn_4 C hE   1000 x1 (-1) 0 S H locs ls hH (lv_sub hl [2, 3, 1, 0] rfl) h
set_option maxHeartbeats 4000000 in
set_option maxRecDepth 100000 in
theorem cM_X11_aheadIn (l : Launch) (D : va_G) (cI : ClassId) (q : Nat → Nat) (sz : Nat) (x1 : Int32) (S : zSt) {res : Int32} (h : fM_X11_aheadIn x1 S = some res) : zMi l yX11_aheadIn vsX11_aheadIn rmM_X11_aheadIn [.ref (q 32), .int x1] D (zwM cI q) [(cI, .int)] [] sz S res S := by
  refine Met.ofW (cc := cX11_aheadIn) (maxL := 5) (ret := (some .int)) (by decide) rfl ?_
  intro p e s m args below meth c s₁ B hml hv
  obtain ⟨rfl, rfl, hP, hK, hD0, hN⟩ := hv
  have hl := lv_entry ([.ref (q 32), .int x1]) (n := 5) (Nat.le_of_ble_eq_true rfl)
  rw [lg_entry_eq]
  generalize (lg_sl ([.ref (q 32), .int x1]) ++ List.replicate (5 - (lg_sl ([.ref (q 32), .int x1])).length) Slot.unset).toArray = ls at hl ⊢
  exact bM_X11_aheadIn ⟨B.exec, B.bytes, hml, findClass_of_methodNamed B.named, fun w h => atoms_spec (ws := vsX11_aheadIn) B.pre w (List.mem_cons_of_mem _ h), B.returns, B.notSynchronized⟩ ⟨hK, fun q h => Or.inr h, hN⟩ x1 S s.heap [] ls ⟨hP, hD0.self, va_S.rf⟩ hl  h
def rmM_X11_lengthOf : Room := { frames := 0, cells := 0, slots := 0, locals := 0 }
set_option maxHeartbeats 4000000 in
set_option maxRecDepth 100000 in
theorem bM_X11_lengthOf_4 {p : Program} {l : Launch} {e : Env} {s : State} {m : MethodId} {args : Array Value} {below : List Frame} {meth : Method} {c : Code} {D : va_G} {cI : ClassId} {q : Nat → Nat} {A : Nat → Prop} {res : Int32} (C : zCX p s m args meth c cX11_lengthOf 4 (some .int) zU RX11) (hE : zE D [(cI, .int)] [] A s) : ∀ (n : Nat) (x1 x2 x3 : Int32) (S : zSt) (H : Heap) (locs : List Loc) (ls : Array Slot), zH D (zwM cI q) A s S H locs → lv_has ls 4 [(0, .ref (q 32)), (1, .int x1), (2, .int x2), (3, .int x3)] → fM_X11_lengthOf_4  n x1 x2 x3 S = some res → W p l e rmM_X11_lengthOf s m args below meth c H locs 0 0 (zQi below D (zwM cI q) [(cI, .int)] A args s res S) (F0 m 4 ls []) := by
  have hx := C.1
  have hb := C.2.1
  intro n
  induction n with
  | zero =>
    intro x1 x2 x3 S H locs ls hH hl  h
    cases h
  | succ n hK4 =>
    intro x1 x2 x3 S H locs ls hH hl  h
    rw [fM_X11_lengthOf_4] at h
    refine lv_iload_n hx hb dX11_lengthOf_4 rfl (lv_at hl 3 rfl) ?_
    refine lv_aload_n hx hb dX11_lengthOf_5 rfl (lv_at hl 0 rfl) ?_
    refine z_get C hE hH zM_o rfl zh_X11 18 (by decide) zk22_1 (fun _ h9 => h9) (v := .int (S.1 18)) rfl dX11_lengthOf_6 ?_
    refine lv_icmp_ge (tgt := 36) hx hb dX11_lengthOf_9 (by decide) (fun c1 => ?_) (fun c1 => ?_)
    · replace h := zif_t c1 h
      refine lv_iload_n hx hb dX11_lengthOf_36 rfl (lv_at hl 2 rfl) ?_
      cases h
      exact z_iret C hE hH dX11_lengthOf_37
    · replace h := zif_f c1 h
      refine lv_aload_n hx hb dX11_lengthOf_12 rfl (lv_at hl 0 rfl) ?_
      refine z_get C hE hH zM_o rfl zh_X11 19 (by decide) zk6_2 (fun _ h9 => h9) (v := .ref (q 19)) rfl dX11_lengthOf_13 ?_
      refine lv_iload_n hx hb dX11_lengthOf_16 rfl (lv_at hl 3 rfl) ?_
      obtain ⟨g2, h⟩ := zgd_s h
      refine z_iald C hE hH zM_a19 (t0 := 0) rfl g2 dX11_lengthOf_17 ?_
      refine lv_aload_n hx hb dX11_lengthOf_18 rfl (lv_at hl 0 rfl) ?_
      refine z_get C hE hH zM_o rfl zh_X11 21 (by decide) zk22_2 (fun _ h9 => h9) (v := .int (S.1 21)) rfl dX11_lengthOf_19 ?_
      obtain ⟨g3, h⟩ := zgd_s h
      refine lv_irem hx hb dX11_lengthOf_22 (znz_v g3) ?_
      refine lv_iload_n hx hb dX11_lengthOf_23 rfl (lv_at hl 1 rfl) ?_
      refine lv_icmp_ne (tgt := 30) hx hb dX11_lengthOf_24 (by decide) (fun c4 => ?_) (fun c4 => ?_)
      · replace h := zif_f c4 h
        refine lv_iinc (v := (x3 + 1)) (lv' := [(3, .int (x3 + 1)), (0, .ref (q 32)), (1, .int x1), (2, .int x2)]) hx hb dX11_lengthOf_30 hl (k := 3) rfl rfl (by decide) rfl (fun ls hl => ?_)
        refine lv_goto (tgt := 4) hx hb dX11_lengthOf_33 (by decide) ?_
        exact hK4 x1 x2 (x3 + 1) S H locs ls hH (lv_sub hl [1, 2, 3, 0] rfl) h
      · replace h := zif_t c4 h
        refine lv_iinc (v := (x2 + 1)) (lv' := [(2, .int (x2 + 1)), (0, .ref (q 32)), (1, .int x1), (3, .int x3)]) hx hb dX11_lengthOf_27 hl (k := 2) rfl rfl (by decide) rfl (fun ls hl => ?_)
        refine lv_iinc (v := (x3 + 1)) (lv' := [(3, .int (x3 + 1)), (2, .int (x2 + 1)), (0, .ref (q 32)), (1, .int x1)]) hx hb dX11_lengthOf_30 hl (k := 3) rfl rfl (by decide) rfl (fun ls hl => ?_)
        refine lv_goto (tgt := 4) hx hb dX11_lengthOf_33 (by decide) ?_
        exact hK4 x1 (x2 + 1) (x3 + 1) S H locs ls hH (lv_sub hl [2, 3, 1, 0] rfl) h
set_option maxHeartbeats 4000000 in
set_option maxRecDepth 100000 in
theorem bM_X11_lengthOf {p : Program} {l : Launch} {e : Env} {s : State} {m : MethodId} {args : Array Value} {below : List Frame} {meth : Method} {c : Code} {D : va_G} {cI : ClassId} {q : Nat → Nat} {A : Nat → Prop} {res : Int32} (C : zCX p s m args meth c cX11_lengthOf 4 (some .int) zU RX11) (hE : zE D [(cI, .int)] [] A s) (x1 : Int32) (S : zSt) (H : Heap) (locs : List Loc) (ls : Array Slot) (hH : zH D (zwM cI q) A s S H locs) (hl : lv_has ls 4 [(0, .ref (q 32)), (1, .int x1)]) (h : fM_X11_lengthOf  x1 S = some res) : W p l e rmM_X11_lengthOf s m args below meth c H locs 0 0 (zQi below D (zwM cI q) [(cI, .int)] A args s res S) (F0 m 0 ls []) := by
  have hx := C.1
  have hb := C.2.1
  unfold fM_X11_lengthOf at h
  refine lv_iconst (v := 0) hx hb dX11_lengthOf_0 (by decide) ?_
  refine lv_istore_n (lv' := [(2, .int 0), (0, .ref (q 32)), (1, .int x1)]) hx hb dX11_lengthOf_1 rfl hl (by decide) rfl (fun ls hl => ?_)
  refine lv_iconst (v := 0) hx hb dX11_lengthOf_2 (by decide) ?_
  refine lv_istore_n (lv' := [(3, .int 0), (2, .int 0), (0, .ref (q 32)), (1, .int x1)]) hx hb dX11_lengthOf_3 rfl hl (by decide) rfl (fun ls hl => ?_)
  exact bM_X11_lengthOf_4 C hE   1000 x1 0 0 S H locs ls hH (lv_sub hl [2, 3, 1, 0] rfl) h
set_option maxHeartbeats 4000000 in
set_option maxRecDepth 100000 in
theorem cM_X11_lengthOf (l : Launch) (D : va_G) (cI : ClassId) (q : Nat → Nat) (sz : Nat) (x1 : Int32) (S : zSt) {res : Int32} (h : fM_X11_lengthOf x1 S = some res) : zMi l yX11_lengthOf vsX11_lengthOf rmM_X11_lengthOf [.ref (q 32), .int x1] D (zwM cI q) [(cI, .int)] [] sz S res S := by
  refine Met.ofW (cc := cX11_lengthOf) (maxL := 4) (ret := (some .int)) (by decide) rfl ?_
  intro p e s m args below meth c s₁ B hml hv
  obtain ⟨rfl, rfl, hP, hK, hD0, hN⟩ := hv
  have hl := lv_entry ([.ref (q 32), .int x1]) (n := 4) (Nat.le_of_ble_eq_true rfl)
  rw [lg_entry_eq]
  generalize (lg_sl ([.ref (q 32), .int x1]) ++ List.replicate (4 - (lg_sl ([.ref (q 32), .int x1])).length) Slot.unset).toArray = ls at hl ⊢
  exact bM_X11_lengthOf ⟨B.exec, B.bytes, hml, findClass_of_methodNamed B.named, fun w h => atoms_spec (ws := vsX11_lengthOf) B.pre w (List.mem_cons_of_mem _ h), B.returns, B.notSynchronized⟩ ⟨hK, fun q h => Or.inr h, hN⟩ x1 S s.heap [] ls ⟨hP, hD0.self, va_S.rf⟩ hl  h
def rmM_X11_thingAt : Room := { frames := 0, cells := 0, slots := 0, locals := 0 }
set_option maxHeartbeats 4000000 in
set_option maxRecDepth 100000 in
theorem bM_X11_thingAt_34 {p : Program} {l : Launch} {e : Env} {s : State} {m : MethodId} {args : Array Value} {below : List Frame} {meth : Method} {c : Code} {D : va_G} {cI : ClassId} {q : Nat → Nat} {A : Nat → Prop} {res : Int32} (C : zCX p s m args meth c cX11_thingAt 7 (some .int) zU RX11) (hE : zE D [(cI, .int)] [] A s) (K3 : (Int32 → Int32 → Int32 → Int32 → zSt → Option (Int32))) (hK3 : ∀ (x1 x2 x3 x4 : Int32) (S : zSt) (H : Heap) (locs : List Loc) (ls : Array Slot), zH D (zwM cI q) A s S H locs → lv_has ls 7 [(0, .ref (q 32)), (1, .int x1), (2, .int x2), (3, .int x3), (4, .int x4)] → K3 x1 x2 x3 x4 S = some res → W p l e rmM_X11_thingAt s m args below meth c H locs 0 0 (zQi below D (zwM cI q) [(cI, .int)] A args s res S) (F0 m 3 ls [])) : ∀ (n : Nat) (x1 x2 x3 x4 x5 x6 : Int32) (S : zSt) (H : Heap) (locs : List Loc) (ls : Array Slot), zH D (zwM cI q) A s S H locs → lv_has ls 7 [(0, .ref (q 32)), (1, .int x1), (2, .int x2), (3, .int x3), (4, .int x4), (5, .int x5), (6, .int x6)] → fM_X11_thingAt_34 K3 n x1 x2 x3 x4 x5 x6 S = some res → W p l e rmM_X11_thingAt s m args below meth c H locs 0 0 (zQi below D (zwM cI q) [(cI, .int)] A args s res S) (F0 m 34 ls []) := by
  have hx := C.1
  have hb := C.2.1
  intro n
  induction n with
  | zero =>
    intro x1 x2 x3 x4 x5 x6 S H locs ls hH hl  h
    cases h
  | succ n hK34 =>
    intro x1 x2 x3 x4 x5 x6 S H locs ls hH hl  h
    rw [fM_X11_thingAt_34] at h
    refine lv_iload hx hb dX11_thingAt_34 (lv_at hl 6 rfl) ?_
    refine lv_iload_n hx hb dX11_thingAt_36 rfl (lv_at hl 3 rfl) ?_
    refine lv_icmp_ge (tgt := 82) hx hb dX11_thingAt_37 (by decide) (fun c1 => ?_) (fun c1 => ?_)
    · replace h := zif_t c1 h
      refine lv_iload hx hb dX11_thingAt_82 (lv_at hl 5 rfl) ?_
      refine lv_iload_n hx hb dX11_thingAt_84 rfl (lv_at hl 2 rfl) ?_
      refine lv_icmp_ne (tgt := 91) hx hb dX11_thingAt_85 (by decide) (fun c2 => ?_) (fun c2 => ?_)
      · replace h := zif_f c2 h
        refine lv_iinc (v := (x4 + 1)) (lv' := [(4, .int (x4 + 1)), (0, .ref (q 32)), (1, .int x1), (2, .int x2), (3, .int x3), (5, .int x5), (6, .int x6)]) hx hb dX11_thingAt_91 hl (k := 4) rfl rfl (by decide) rfl (fun ls hl => ?_)
        refine lv_goto (tgt := 3) hx hb dX11_thingAt_94 (by decide) ?_
        exact hK3 x1 x2 x3 (x4 + 1) S H locs ls hH (lv_sub hl [1, 2, 3, 4, 0] rfl) h
      · replace h := zif_t c2 h
        refine lv_iload hx hb dX11_thingAt_88 (lv_at hl 4 rfl) ?_
        cases h
        exact z_iret C hE hH dX11_thingAt_90
    · replace h := zif_f c1 h
      refine lv_aload_n hx hb dX11_thingAt_40 rfl (lv_at hl 0 rfl) ?_
      refine z_get C hE hH zM_o rfl zh_X11 19 (by decide) zk6_2 (fun _ h9 => h9) (v := .ref (q 19)) rfl dX11_thingAt_41 ?_
      refine lv_iload hx hb dX11_thingAt_44 (lv_at hl 6 rfl) ?_
      obtain ⟨g3, h⟩ := zgd_s h
      refine z_iald C hE hH zM_a19 (t0 := 0) rfl g3 dX11_thingAt_46 ?_
      refine lv_aload_n hx hb dX11_thingAt_47 rfl (lv_at hl 0 rfl) ?_
      refine z_get C hE hH zM_o rfl zh_X11 21 (by decide) zk22_2 (fun _ h9 => h9) (v := .int (S.1 21)) rfl dX11_thingAt_48 ?_
      obtain ⟨g4, h⟩ := zgd_s h
      refine lv_irem hx hb dX11_thingAt_51 (znz_v g4) ?_
      refine lv_iload_n hx hb dX11_thingAt_52 rfl (lv_at hl 1 rfl) ?_
      refine lv_icmp_ne (tgt := 76) hx hb dX11_thingAt_53 (by decide) (fun c5 => ?_) (fun c5 => ?_)
      · replace h := zif_f c5 h
        refine lv_iinc (v := (x6 + 1)) (lv' := [(6, .int (x6 + 1)), (0, .ref (q 32)), (1, .int x1), (2, .int x2), (3, .int x3), (4, .int x4), (5, .int x5)]) hx hb dX11_thingAt_76 hl (k := 6) rfl rfl (by decide) rfl (fun ls hl => ?_)
        refine lv_goto (tgt := 34) hx hb dX11_thingAt_79 (by decide) ?_
        exact hK34 x1 x2 x3 x4 x5 (x6 + 1) S H locs ls hH (lv_sub hl [1, 2, 3, 4, 5, 6, 0] rfl) h
      · replace h := zif_t c5 h
        refine lv_aload_n hx hb dX11_thingAt_56 rfl (lv_at hl 0 rfl) ?_
        refine z_get C hE hH zM_o rfl zh_X11 20 (by decide) zk6_3 (fun _ h9 => h9) (v := .ref (q 20)) rfl dX11_thingAt_57 ?_
        refine lv_iload hx hb dX11_thingAt_60 (lv_at hl 6 rfl) ?_
        obtain ⟨g6, h⟩ := zgd_s h
        refine z_iald C hE hH zM_a20 (t0 := 0) rfl g6 dX11_thingAt_62 ?_
        refine lv_aload_n hx hb dX11_thingAt_63 rfl (lv_at hl 0 rfl) ?_
        refine z_get C hE hH zM_o rfl zh_X11 20 (by decide) zk6_3 (fun _ h9 => h9) (v := .ref (q 20)) rfl dX11_thingAt_64 ?_
        refine lv_iload hx hb dX11_thingAt_67 (lv_at hl 4 rfl) ?_
        obtain ⟨g7, h⟩ := zgd_s h
        refine z_iald C hE hH zM_a20 (t0 := 0) rfl g7 dX11_thingAt_69 ?_
        refine lv_icmp_le (tgt := 76) hx hb dX11_thingAt_70 (by decide) (fun c8 => ?_) (fun c8 => ?_)
        · replace h := zif_t c8 h
          refine lv_iinc (v := (x6 + 1)) (lv' := [(6, .int (x6 + 1)), (0, .ref (q 32)), (1, .int x1), (2, .int x2), (3, .int x3), (4, .int x4), (5, .int x5)]) hx hb dX11_thingAt_76 hl (k := 6) rfl rfl (by decide) rfl (fun ls hl => ?_)
          refine lv_goto (tgt := 34) hx hb dX11_thingAt_79 (by decide) ?_
          exact hK34 x1 x2 x3 x4 x5 (x6 + 1) S H locs ls hH (lv_sub hl [1, 2, 3, 4, 5, 6, 0] rfl) h
        · replace h := zif_f c8 h
          refine lv_iinc (v := (x5 + 1)) (lv' := [(5, .int (x5 + 1)), (0, .ref (q 32)), (1, .int x1), (2, .int x2), (3, .int x3), (4, .int x4), (6, .int x6)]) hx hb dX11_thingAt_73 hl (k := 5) rfl rfl (by decide) rfl (fun ls hl => ?_)
          refine lv_iinc (v := (x6 + 1)) (lv' := [(6, .int (x6 + 1)), (5, .int (x5 + 1)), (0, .ref (q 32)), (1, .int x1), (2, .int x2), (3, .int x3), (4, .int x4)]) hx hb dX11_thingAt_76 hl (k := 6) rfl rfl (by decide) rfl (fun ls hl => ?_)
          refine lv_goto (tgt := 34) hx hb dX11_thingAt_79 (by decide) ?_
          exact hK34 x1 x2 x3 x4 (x5 + 1) (x6 + 1) S H locs ls hH (lv_sub hl [2, 3, 4, 5, 6, 1, 0] rfl) h
set_option maxHeartbeats 4000000 in
set_option maxRecDepth 100000 in
theorem bM_X11_thingAt_3 {p : Program} {l : Launch} {e : Env} {s : State} {m : MethodId} {args : Array Value} {below : List Frame} {meth : Method} {c : Code} {D : va_G} {cI : ClassId} {q : Nat → Nat} {A : Nat → Prop} {res : Int32} (C : zCX p s m args meth c cX11_thingAt 7 (some .int) zU RX11) (hE : zE D [(cI, .int)] [] A s) : ∀ (n : Nat) (x1 x2 x3 x4 : Int32) (S : zSt) (H : Heap) (locs : List Loc) (ls : Array Slot), zH D (zwM cI q) A s S H locs → lv_has ls 7 [(0, .ref (q 32)), (1, .int x1), (2, .int x2), (3, .int x3), (4, .int x4)] → fM_X11_thingAt_3  n x1 x2 x3 x4 S = some res → W p l e rmM_X11_thingAt s m args below meth c H locs 0 0 (zQi below D (zwM cI q) [(cI, .int)] A args s res S) (F0 m 3 ls []) := by
  have hx := C.1
  have hb := C.2.1
  intro n
  induction n with
  | zero =>
    intro x1 x2 x3 x4 S H locs ls hH hl  h
    cases h
  | succ n hK3 =>
    intro x1 x2 x3 x4 S H locs ls hH hl  h
    rw [fM_X11_thingAt_3] at h
    refine lv_iload hx hb dX11_thingAt_3 (lv_at hl 4 rfl) ?_
    refine lv_iload_n hx hb dX11_thingAt_5 rfl (lv_at hl 3 rfl) ?_
    refine lv_icmp_ge (tgt := 97) hx hb dX11_thingAt_6 (by decide) (fun c1 => ?_) (fun c1 => ?_)
    · replace h := zif_t c1 h
      refine lv_iconst (v := (-1)) hx hb dX11_thingAt_97 (by decide) ?_
      cases h
      exact z_iret C hE hH dX11_thingAt_98
    · replace h := zif_f c1 h
      refine lv_aload_n hx hb dX11_thingAt_9 rfl (lv_at hl 0 rfl) ?_
      refine z_get C hE hH zM_o rfl zh_X11 19 (by decide) zk6_2 (fun _ h9 => h9) (v := .ref (q 19)) rfl dX11_thingAt_10 ?_
      refine lv_iload hx hb dX11_thingAt_13 (lv_at hl 4 rfl) ?_
      obtain ⟨g2, h⟩ := zgd_s h
      refine z_iald C hE hH zM_a19 (t0 := 0) rfl g2 dX11_thingAt_15 ?_
      refine lv_aload_n hx hb dX11_thingAt_16 rfl (lv_at hl 0 rfl) ?_
      refine z_get C hE hH zM_o rfl zh_X11 21 (by decide) zk22_2 (fun _ h9 => h9) (v := .int (S.1 21)) rfl dX11_thingAt_17 ?_
      obtain ⟨g3, h⟩ := zgd_s h
      refine lv_irem hx hb dX11_thingAt_20 (znz_v g3) ?_
      refine lv_iload_n hx hb dX11_thingAt_21 rfl (lv_at hl 1 rfl) ?_
      refine lv_icmp_eq (tgt := 28) hx hb dX11_thingAt_22 (by decide) (fun c4 => ?_) (fun c4 => ?_)
      · replace h := zif_t c4 h
        refine lv_iconst (v := 0) hx hb dX11_thingAt_28 (by decide) ?_
        refine lv_istore (lv' := [(5, .int 0), (0, .ref (q 32)), (1, .int x1), (2, .int x2), (3, .int x3), (4, .int x4)]) hx hb dX11_thingAt_29 hl (by decide) rfl (fun ls hl => ?_)
        refine lv_iconst (v := 0) hx hb dX11_thingAt_31 (by decide) ?_
        refine lv_istore (lv' := [(6, .int 0), (5, .int 0), (0, .ref (q 32)), (1, .int x1), (2, .int x2), (3, .int x3), (4, .int x4)]) hx hb dX11_thingAt_32 hl (by decide) rfl (fun ls hl => ?_)
        exact bM_X11_thingAt_34 C hE (fM_X11_thingAt_3  n) hK3 1000 x1 x2 x3 x4 0 0 S H locs ls hH (lv_sub hl [2, 3, 4, 5, 6, 1, 0] rfl) h
      · replace h := zif_f c4 h
        refine lv_goto (tgt := 91) hx hb dX11_thingAt_25 (by decide) ?_
        refine lv_iinc (v := (x4 + 1)) (lv' := [(4, .int (x4 + 1)), (0, .ref (q 32)), (1, .int x1), (2, .int x2), (3, .int x3)]) hx hb dX11_thingAt_91 hl (k := 4) rfl rfl (by decide) rfl (fun ls hl => ?_)
        refine lv_goto (tgt := 3) hx hb dX11_thingAt_94 (by decide) ?_
        exact hK3 x1 x2 x3 (x4 + 1) S H locs ls hH (lv_sub hl [1, 2, 3, 4, 0] rfl) h
set_option maxHeartbeats 4000000 in
set_option maxRecDepth 100000 in
theorem bM_X11_thingAt {p : Program} {l : Launch} {e : Env} {s : State} {m : MethodId} {args : Array Value} {below : List Frame} {meth : Method} {c : Code} {D : va_G} {cI : ClassId} {q : Nat → Nat} {A : Nat → Prop} {res : Int32} (C : zCX p s m args meth c cX11_thingAt 7 (some .int) zU RX11) (hE : zE D [(cI, .int)] [] A s) (x1 x2 x3 : Int32) (S : zSt) (H : Heap) (locs : List Loc) (ls : Array Slot) (hH : zH D (zwM cI q) A s S H locs) (hl : lv_has ls 7 [(0, .ref (q 32)), (1, .int x1), (2, .int x2), (3, .int x3)]) (h : fM_X11_thingAt  x1 x2 x3 S = some res) : W p l e rmM_X11_thingAt s m args below meth c H locs 0 0 (zQi below D (zwM cI q) [(cI, .int)] A args s res S) (F0 m 0 ls []) := by
  have hx := C.1
  have hb := C.2.1
  unfold fM_X11_thingAt at h
  refine lv_iconst (v := 0) hx hb dX11_thingAt_0 (by decide) ?_
  refine lv_istore (lv' := [(4, .int 0), (0, .ref (q 32)), (1, .int x1), (2, .int x2), (3, .int x3)]) hx hb dX11_thingAt_1 hl (by decide) rfl (fun ls hl => ?_)
  exact bM_X11_thingAt_3 C hE   1000 x1 x2 x3 0 S H locs ls hH (lv_sub hl [1, 2, 3, 4, 0] rfl) h
set_option maxHeartbeats 4000000 in
set_option maxRecDepth 100000 in
theorem cM_X11_thingAt (l : Launch) (D : va_G) (cI : ClassId) (q : Nat → Nat) (sz : Nat) (x1 : Int32) (x2 : Int32) (x3 : Int32) (S : zSt) {res : Int32} (h : fM_X11_thingAt x1 x2 x3 S = some res) : zMi l yX11_thingAt vsX11_thingAt rmM_X11_thingAt [.ref (q 32), .int x1, .int x2, .int x3] D (zwM cI q) [(cI, .int)] [] sz S res S := by
  refine Met.ofW (cc := cX11_thingAt) (maxL := 7) (ret := (some .int)) (by decide) rfl ?_
  intro p e s m args below meth c s₁ B hml hv
  obtain ⟨rfl, rfl, hP, hK, hD0, hN⟩ := hv
  have hl := lv_entry ([.ref (q 32), .int x1, .int x2, .int x3]) (n := 7) (Nat.le_of_ble_eq_true rfl)
  rw [lg_entry_eq]
  generalize (lg_sl ([.ref (q 32), .int x1, .int x2, .int x3]) ++ List.replicate (7 - (lg_sl ([.ref (q 32), .int x1, .int x2, .int x3])).length) Slot.unset).toArray = ls at hl ⊢
  exact bM_X11_thingAt ⟨B.exec, B.bytes, hml, findClass_of_methodNamed B.named, fun w h => atoms_spec (ws := vsX11_thingAt) B.pre w (List.mem_cons_of_mem _ h), B.returns, B.notSynchronized⟩ ⟨hK, fun q h => Or.inr h, hN⟩ x1 x2 x3 S s.heap [] ls ⟨hP, hD0.self, va_S.rf⟩ hl  h
def rmM_X11_rehash : Room := { frames := 1, cells := 0, slots := 0, locals := 26 }
set_option maxHeartbeats 4000000 in
set_option maxRecDepth 100000 in
theorem bM_X11_rehash_71 {p : Program} {l : Launch} {e : Env} {s : State} {m : MethodId} {args : Array Value} {below : List Frame} {meth : Method} {c : Code} {D : va_G} {cI : ClassId} {q : Nat → Nat} {A : Nat → Prop} {res : zSt} (C : zCX p s m args meth c cX11_rehash 5 none zU RX11) (hE : zE D [(cI, .int)] [] A s) : ∀ (n : Nat) (x1 x2 : Int32) (S : zSt) (H : Heap) (locs : List Loc) (ls : Array Slot), zH D (zwM cI q) A s S H locs → lv_has ls 5 [(0, .ref (q 32)), (1, .int x1), (2, .int x2)] → fM_X11_rehash_71  n x1 x2 S = some res → W p l e rmM_X11_rehash s m args below meth c H locs 0 0 (zQv below D (zwM cI q) [(cI, .int)] A args s res) (F0 m 71 ls []) := by
  have hx := C.1
  have hb := C.2.1
  intro n
  induction n with
  | zero =>
    intro x1 x2 S H locs ls hH hl  h
    cases h
  | succ n hK71 =>
    intro x1 x2 S H locs ls hH hl  h
    rw [fM_X11_rehash_71] at h
    refine lv_iload_n hx hb dX11_rehash_71 rfl (lv_at hl 2 rfl) ?_
    refine lv_iload_n hx hb dX11_rehash_72 rfl (lv_at hl 1 rfl) ?_
    refine lv_icmp_ge (tgt := 107) hx hb dX11_rehash_73 (by decide) (fun c1 => ?_) (fun c1 => ?_)
    · replace h := zif_t c1 h
      cases h
      exact z_vret C hE hH dX11_rehash_107
    · replace h := zif_f c1 h
      refine lv_aload_n hx hb dX11_rehash_76 rfl (lv_at hl 0 rfl) ?_
      refine lv_dup hx hb dX11_rehash_77 rfl ?_
      refine z_get C hE hH zM_o rfl zh_X11 22 (by decide) zk22_3 (fun _ h9 => h9) (v := .int (S.1 22)) rfl dX11_rehash_78 ?_
      refine lv_iconst (v := 1) hx hb dX11_rehash_81 (by decide) ?_
      refine lv_iadd hx hb dX11_rehash_82 ?_
      refine z_put C hE hH zM_o rfl zh_X11 tyX11_ok nmX11 22 (by decide) zk22_3 (fun _ h9 => h9) rfl (ty := .int) rfl rfl rfl (Nat.le_of_ble_eq_true rfl) zM_i22 dX11_rehash_83 (fun H locs hH => ?_)
      refine lv_aload_n hx hb dX11_rehash_86 rfl (lv_at hl 0 rfl) ?_
      refine z_get C hE hH zM_o rfl zh_X11 20 (by decide) zk6_3 (fun _ h9 => h9) (v := .ref (q 20)) rfl dX11_rehash_87 ?_
      refine lv_aload_n hx hb dX11_rehash_90 rfl (lv_at hl 0 rfl) ?_
      refine z_get C hE hH zM_o rfl zh_X11 29 (by decide) zk6_8 (fun _ h9 => h9) (v := .ref (q 29)) rfl dX11_rehash_91 ?_
      refine lv_iload_n hx hb dX11_rehash_94 rfl (lv_at hl 2 rfl) ?_
      obtain ⟨g2, h⟩ := zgd_s h
      refine z_iald C hE hH zM_a29 (t0 := 0) rfl g2 dX11_rehash_95 ?_
      refine lv_aload_n hx hb dX11_rehash_96 rfl (lv_at hl 0 rfl) ?_
      refine z_get C hE hH zM_o rfl zh_X11 22 (by decide) zk22_3 (fun _ h9 => h9) (v := .int ((S.1 22) + 1)) rfl dX11_rehash_97 ?_
      obtain ⟨g3, h⟩ := zgd_s h
      refine z_iast C hE hH zM_a20 (t0 := 0) rfl g3 zM_r20 dX11_rehash_100 (fun H locs hH => ?_)
      refine lv_iinc (v := (x2 + 1)) (lv' := [(2, .int (x2 + 1)), (0, .ref (q 32)), (1, .int x1)]) hx hb dX11_rehash_101 hl (k := 2) rfl rfl (by decide) rfl (fun ls hl => ?_)
      refine lv_goto (tgt := 71) hx hb dX11_rehash_104 (by decide) ?_
      exact hK71 x1 (x2 + 1) (zsR (zsI S 22 ((S.1 22) + 1)) 20 (S.2 29 x2.toNatClampNeg).toNatClampNeg ((S.1 22) + 1)) H locs ls hH (lv_sub hl [1, 2, 0] rfl) h
set_option maxHeartbeats 4000000 in
set_option maxRecDepth 100000 in
theorem bM_X11_rehash_21 {p : Program} {l : Launch} {e : Env} {s : State} {m : MethodId} {args : Array Value} {below : List Frame} {meth : Method} {c : Code} {D : va_G} {cI : ClassId} {q : Nat → Nat} {A : Nat → Prop} {res : zSt} (C : zCX p s m args meth c cX11_rehash 5 none zU RX11) (hE : zE D [(cI, .int)] [] A s) (K4 : (Int32 → Int32 → zSt → Option (zSt))) (hK4 : ∀ (x1 x2 : Int32) (S : zSt) (H : Heap) (locs : List Loc) (ls : Array Slot), zH D (zwM cI q) A s S H locs → lv_has ls 5 [(0, .ref (q 32)), (1, .int x1), (2, .int x2)] → K4 x1 x2 S = some res → W p l e rmM_X11_rehash s m args below meth c H locs 0 0 (zQv below D (zwM cI q) [(cI, .int)] A args s res) (F0 m 4 ls [])) : ∀ (n : Nat) (x1 x2 x3 x4 : Int32) (S : zSt) (H : Heap) (locs : List Loc) (ls : Array Slot), zH D (zwM cI q) A s S H locs → lv_has ls 5 [(0, .ref (q 32)), (1, .int x1), (2, .int x2), (3, .int x3), (4, .int x4)] → fM_X11_rehash_21 K4 n x1 x2 x3 x4 S = some res → W p l e rmM_X11_rehash s m args below meth c H locs 0 0 (zQv below D (zwM cI q) [(cI, .int)] A args s res) (F0 m 21 ls []) := by
  have hx := C.1
  have hb := C.2.1
  intro n
  induction n with
  | zero =>
    intro x1 x2 x3 x4 S H locs ls hH hl  h
    cases h
  | succ n hK21 =>
    intro x1 x2 x3 x4 S H locs ls hH hl  h
    rw [fM_X11_rehash_21] at h
    refine lv_iload hx hb dX11_rehash_21 (lv_at hl 4 rfl) ?_
    refine lv_iload_n hx hb dX11_rehash_23 rfl (lv_at hl 3 rfl) ?_
    refine lv_icmp_ge (tgt := 53) hx hb dX11_rehash_24 (by decide) (fun c1 => ?_) (fun c1 => ?_)
    · replace h := zif_t c1 h
      refine lv_iinc (v := (x2 + 1)) (lv' := [(2, .int (x2 + 1)), (0, .ref (q 32)), (1, .int x1), (3, .int x3), (4, .int x4)]) hx hb dX11_rehash_53 hl (k := 2) rfl rfl (by decide) rfl (fun ls hl => ?_)
      refine lv_goto (tgt := 4) hx hb dX11_rehash_56 (by decide) ?_
      exact hK4 x1 (x2 + 1) S H locs ls hH (lv_sub hl [1, 2, 0] rfl) h
    · replace h := zif_f c1 h
      refine lv_aload_n hx hb dX11_rehash_27 rfl (lv_at hl 0 rfl) ?_
      refine z_get C hE hH zM_o rfl zh_X11 29 (by decide) zk6_8 (fun _ h9 => h9) (v := .ref (q 29)) rfl dX11_rehash_28 ?_
      refine lv_iload_n hx hb dX11_rehash_31 rfl (lv_at hl 1 rfl) ?_
      refine lv_aload_n hx hb dX11_rehash_32 rfl (lv_at hl 0 rfl) ?_
      refine lv_iload_n hx hb dX11_rehash_33 rfl (lv_at hl 2 rfl) ?_
      refine lv_iload hx hb dX11_rehash_34 (lv_at hl 4 rfl) ?_
      refine lv_aload_n hx hb dX11_rehash_36 rfl (lv_at hl 0 rfl) ?_
      refine z_get C hE hH zM_o rfl zh_X11 18 (by decide) zk22_1 (fun _ h9 => h9) (v := .int (S.1 18)) rfl dX11_rehash_37 ?_
      obtain ⟨u2, e3, h⟩ := zbd_s h
      refine z_calli (va_runV (As := [.int x2, .int x4, .int (S.1 18)]) (rest := [.int x1, .ref (q 29)]) (z_fix C) (cM_X11_thingAt l D cI q H.size x2 x4 (S.1 18) S e3) (cwV 3 C.2.2.2.2.1 (zGV zk24_12 zk24_13 zk24_14 zk1_5 zk24_15) rfl rfl rfl yd_X11_thingAt ⟨Nat.le_of_ble_eq_true rfl, Nat.le_of_ble_eq_true rfl⟩) (z_preV zNm0 hE hH zM_o rfl) rfl rfl hl.1 rfl (lv_room (Nat.le_of_ble_eq_true rfl)) dX11_rehash_40 ⟨Nat.le_refl 0, Nat.le_refl 0⟩) hE hH (fun H locs hH => ?_)
      obtain ⟨g4, h⟩ := zgd_s h
      refine z_iast C hE hH zM_a29 (t0 := 0) rfl g4 zM_r29 dX11_rehash_43 (fun H locs hH => ?_)
      refine lv_iinc (v := (x1 + 1)) (lv' := [(1, .int (x1 + 1)), (0, .ref (q 32)), (2, .int x2), (3, .int x3), (4, .int x4)]) hx hb dX11_rehash_44 hl (k := 1) rfl rfl (by decide) rfl (fun ls hl => ?_)
      refine lv_iinc (v := (x4 + 1)) (lv' := [(4, .int (x4 + 1)), (1, .int (x1 + 1)), (0, .ref (q 32)), (2, .int x2), (3, .int x3)]) hx hb dX11_rehash_47 hl (k := 4) rfl rfl (by decide) rfl (fun ls hl => ?_)
      refine lv_goto (tgt := 21) hx hb dX11_rehash_50 (by decide) ?_
      exact hK21 (x1 + 1) x2 x3 (x4 + 1) (zsR S 29 x1.toNatClampNeg u2) H locs ls hH (lv_sub hl [2, 1, 3, 4, 0] rfl) h
set_option maxHeartbeats 4000000 in
set_option maxRecDepth 100000 in
theorem bM_X11_rehash_4 {p : Program} {l : Launch} {e : Env} {s : State} {m : MethodId} {args : Array Value} {below : List Frame} {meth : Method} {c : Code} {D : va_G} {cI : ClassId} {q : Nat → Nat} {A : Nat → Prop} {res : zSt} (C : zCX p s m args meth c cX11_rehash 5 none zU RX11) (hE : zE D [(cI, .int)] [] A s) : ∀ (n : Nat) (x1 x2 : Int32) (S : zSt) (H : Heap) (locs : List Loc) (ls : Array Slot), zH D (zwM cI q) A s S H locs → lv_has ls 5 [(0, .ref (q 32)), (1, .int x1), (2, .int x2)] → fM_X11_rehash_4  n x1 x2 S = some res → W p l e rmM_X11_rehash s m args below meth c H locs 0 0 (zQv below D (zwM cI q) [(cI, .int)] A args s res) (F0 m 4 ls []) := by
  have hx := C.1
  have hb := C.2.1
  intro n
  induction n with
  | zero =>
    intro x1 x2 S H locs ls hH hl  h
    cases h
  | succ n hK4 =>
    intro x1 x2 S H locs ls hH hl  h
    rw [fM_X11_rehash_4] at h
    refine lv_iload_n hx hb dX11_rehash_4 rfl (lv_at hl 2 rfl) ?_
    refine lv_aload_n hx hb dX11_rehash_5 rfl (lv_at hl 0 rfl) ?_
    refine z_get C hE hH zM_o rfl zh_X11 21 (by decide) zk22_2 (fun _ h9 => h9) (v := .int (S.1 21)) rfl dX11_rehash_6 ?_
    refine lv_icmp_ge (tgt := 59) hx hb dX11_rehash_9 (by decide) (fun c1 => ?_) (fun c1 => ?_)
    · replace h := zif_t c1 h
      refine lv_aload_n hx hb dX11_rehash_59 rfl (lv_at hl 0 rfl) ?_
      refine lv_dup hx hb dX11_rehash_60 rfl ?_
      refine z_get C hE hH zM_o rfl zh_X11 21 (by decide) zk22_2 (fun _ h9 => h9) (v := .int (S.1 21)) rfl dX11_rehash_61 ?_
      refine lv_iconst (v := 2) hx hb dX11_rehash_64 (by decide) ?_
      refine lv_imul hx hb dX11_rehash_65 ?_
      refine z_put C hE hH zM_o rfl zh_X11 tyX11_ok nmX11 21 (by decide) zk22_2 (fun _ h9 => h9) rfl (ty := .int) rfl rfl rfl (Nat.le_of_ble_eq_true rfl) zM_i21 dX11_rehash_66 (fun H locs hH => ?_)
      refine lv_iconst (v := 0) hx hb dX11_rehash_69 (by decide) ?_
      refine lv_istore_n (lv' := [(2, .int 0), (0, .ref (q 32)), (1, .int x1)]) hx hb dX11_rehash_70 rfl hl (by decide) rfl (fun ls hl => ?_)
      exact bM_X11_rehash_71 C hE   1000 x1 0 (zsI S 21 ((S.1 21) * 2)) H locs ls hH (lv_sub hl [1, 2, 0] rfl) h
    · replace h := zif_f c1 h
      refine lv_aload_n hx hb dX11_rehash_12 rfl (lv_at hl 0 rfl) ?_
      refine lv_iload_n hx hb dX11_rehash_13 rfl (lv_at hl 2 rfl) ?_
      obtain ⟨u2, e3, h⟩ := zbd_s h
      refine z_calli (va_runV (As := [.int x2]) (rest := []) (z_fix C) (cM_X11_lengthOf l D cI q H.size x2 S e3) (cwV 1 C.2.2.2.2.1 (zGV zk24_4 zk24_5 zk24_6 zk1_5 zk24_7) rfl rfl rfl yd_X11_lengthOf ⟨Nat.le_of_ble_eq_true rfl, Nat.le_of_ble_eq_true rfl⟩) (z_preV zNm0 hE hH zM_o rfl) rfl rfl hl.1 rfl (lv_room (Nat.le_of_ble_eq_true rfl)) dX11_rehash_14 ⟨Nat.le_refl 0, Nat.le_refl 0⟩) hE hH (fun H locs hH => ?_)
      refine lv_istore_n (lv' := [(3, .int u2), (0, .ref (q 32)), (1, .int x1), (2, .int x2)]) hx hb dX11_rehash_17 rfl hl (by decide) rfl (fun ls hl => ?_)
      refine lv_iconst (v := 0) hx hb dX11_rehash_18 (by decide) ?_
      refine lv_istore (lv' := [(4, .int 0), (3, .int u2), (0, .ref (q 32)), (1, .int x1), (2, .int x2)]) hx hb dX11_rehash_19 hl (by decide) rfl (fun ls hl => ?_)
      exact bM_X11_rehash_21 C hE (fM_X11_rehash_4  n) hK4 1000 x1 x2 u2 0 S H locs ls hH (lv_sub hl [2, 3, 4, 1, 0] rfl) h
set_option maxHeartbeats 4000000 in
set_option maxRecDepth 100000 in
theorem bM_X11_rehash {p : Program} {l : Launch} {e : Env} {s : State} {m : MethodId} {args : Array Value} {below : List Frame} {meth : Method} {c : Code} {D : va_G} {cI : ClassId} {q : Nat → Nat} {A : Nat → Prop} {res : zSt} (C : zCX p s m args meth c cX11_rehash 5 none zU RX11) (hE : zE D [(cI, .int)] [] A s) (S : zSt) (H : Heap) (locs : List Loc) (ls : Array Slot) (hH : zH D (zwM cI q) A s S H locs) (hl : lv_has ls 5 [(0, .ref (q 32))]) (h : fM_X11_rehash   S = some res) : W p l e rmM_X11_rehash s m args below meth c H locs 0 0 (zQv below D (zwM cI q) [(cI, .int)] A args s res) (F0 m 0 ls []) := by
  have hx := C.1
  have hb := C.2.1
  unfold fM_X11_rehash at h
  refine lv_iconst (v := 0) hx hb dX11_rehash_0 (by decide) ?_
  refine lv_istore_n (lv' := [(1, .int 0), (0, .ref (q 32))]) hx hb dX11_rehash_1 rfl hl (by decide) rfl (fun ls hl => ?_)
  refine lv_iconst (v := 0) hx hb dX11_rehash_2 (by decide) ?_
  refine lv_istore_n (lv' := [(2, .int 0), (1, .int 0), (0, .ref (q 32))]) hx hb dX11_rehash_3 rfl hl (by decide) rfl (fun ls hl => ?_)
  exact bM_X11_rehash_4 C hE   1000 0 0 S H locs ls hH (lv_sub hl [2, 1, 0] rfl) h
set_option maxHeartbeats 4000000 in
set_option maxRecDepth 100000 in
theorem cM_X11_rehash (l : Launch) (D : va_G) (cI : ClassId) (q : Nat → Nat) (sz : Nat) (S : zSt) {res : zSt} (h : fM_X11_rehash  S = some res) : zMv l yX11_rehash vsX11_rehash rmM_X11_rehash [.ref (q 32)] D (zwM cI q) [(cI, .int)] [] sz S res := by
  refine Met.ofW (cc := cX11_rehash) (maxL := 5) (ret := none) (by decide) rfl ?_
  intro p e s m args below meth c s₁ B hml hv
  obtain ⟨rfl, rfl, hP, hK, hD0, hN⟩ := hv
  have hl := lv_entry ([.ref (q 32)]) (n := 5) (Nat.le_of_ble_eq_true rfl)
  rw [lg_entry_eq]
  generalize (lg_sl ([.ref (q 32)]) ++ List.replicate (5 - (lg_sl ([.ref (q 32)])).length) Slot.unset).toArray = ls at hl ⊢
  exact bM_X11_rehash ⟨B.exec, B.bytes, hml, findClass_of_methodNamed B.named, fun w h => atoms_spec (ws := vsX11_rehash) B.pre w (List.mem_cons_of_mem _ h), B.returns, B.notSynchronized⟩ ⟨hK, fun q h => Or.inr h, hN⟩  S s.heap [] ls ⟨hP, hD0.self, va_S.rf⟩ hl  h

def rmX_X1_keyAt_Bits : Room := { frames := 0, cells := 0, slots := 0, locals := 0 }
set_option maxHeartbeats 4000000 in
set_option maxRecDepth 100000 in
theorem bX_X1_keyAt_Bits_4 {p : Program} {l : Launch} {e : Env} {s : State} {m : MethodId} {args : Array Value} {below : List Frame} {meth : Method} {c : Code} {D : va_G} {cI cS cW : ClassId} {q : Nat → Nat} {A : Nat → Prop} {res : Int32} (C : zCX p s m args meth c cX1_keyAt 4 (some .int) zU RX1) (hE : zE D (zyX cI cS cW) znX A s) : ∀ (n : Nat) (x1 x2 x3 : Int32) (S : zSt) (H : Heap) (locs : List Loc) (ls : Array Slot), zH D (zwX cI cS cW q) A s S H locs → lv_has ls 4 [(0, .ref (q 5)), (1, .int x1), (2, .int x2), (3, .int x3)] → fX_X1_keyAt_Bits_4  n x1 x2 x3 S = some res → W p l e rmX_X1_keyAt_Bits s m args below meth c H locs 0 0 (zQi below D (zwX cI cS cW q) (zyX cI cS cW) A args s res S) (F0 m 4 ls []) := by
  have hx := C.1
  have hb := C.2.1
  intro n
  induction n with
  | zero =>
    intro x1 x2 x3 S H locs ls hH hl  h
    cases h
  | succ n hK4 =>
    intro x1 x2 x3 S H locs ls hH hl  h
    rw [fX_X1_keyAt_Bits_4] at h
    refine lv_iload_n hx hb dX1_keyAt_4 rfl (lv_at hl 3 rfl) ?_
    refine lv_bipush (v := 64) hx hb dX1_keyAt_5 (by decide) ?_
    refine lv_icmp_ge (tgt := 36) hx hb dX1_keyAt_7 (by decide) (fun c1 => ?_) (fun c1 => ?_)
    · replace h := zif_t c1 h
      refine lv_iconst (v := (-1)) hx hb dX1_keyAt_36 (by decide) ?_
      cases h
      exact z_iret C hE hH dX1_keyAt_37
    · replace h := zif_f c1 h
      refine lv_iload_n hx hb dX1_keyAt_10 rfl (lv_at hl 2 rfl) ?_
      refine lv_aload_n hx hb dX1_keyAt_11 rfl (lv_at hl 0 rfl) ?_
      refine z_get C hE hH zX_o5 rfl zh_X0 0 (by decide) zk4_15 (fun _ h9 => h9) (v := .ref (q 39)) rfl dX1_keyAt_12 ?_
      refine lv_iload_n hx hb dX1_keyAt_15 rfl (lv_at hl 3 rfl) ?_
      obtain ⟨g2, h⟩ := zgd_s h
      refine z_iald C hE hH zX_a39 (t0 := 0) rfl g2 dX1_keyAt_16 ?_
      refine lv_iadd hx hb dX1_keyAt_17 ?_
      refine lv_istore_n (lv' := [(2, .int (x2 + (S.2 39 x3.toNatClampNeg))), (0, .ref (q 5)), (1, .int x1), (3, .int x3)]) hx hb dX1_keyAt_18 rfl hl (by decide) rfl (fun ls hl => ?_)
      refine lv_iload_n hx hb dX1_keyAt_19 rfl (lv_at hl 2 rfl) ?_
      refine lv_if_lt (tgt := 30) hx hb dX1_keyAt_20 (by decide) (fun c3 => ?_) (fun c3 => ?_)
      · replace h := zif_t c3 h
        refine lv_iinc (v := (x3 + 1)) (lv' := [(3, .int (x3 + 1)), (2, .int (x2 + (S.2 39 x3.toNatClampNeg))), (0, .ref (q 5)), (1, .int x1)]) hx hb dX1_keyAt_30 hl (k := 3) rfl rfl (by decide) rfl (fun ls hl => ?_)
        refine lv_goto (tgt := 4) hx hb dX1_keyAt_33 (by decide) ?_
        exact hK4 x1 (x2 + (S.2 39 x3.toNatClampNeg)) (x3 + 1) S H locs ls hH (lv_sub hl [2, 3, 1, 0] rfl) h
      · replace h := zif_f c3 h
        refine lv_iload_n hx hb dX1_keyAt_23 rfl (lv_at hl 2 rfl) ?_
        refine lv_iload_n hx hb dX1_keyAt_24 rfl (lv_at hl 0 rfl) ?_
        refine lv_icmp_ge (tgt := 30) hx hb dX1_keyAt_25 (by decide) (fun c4 => ?_) (fun c4 => ?_)
        · replace h := zif_t c4 h
          refine lv_iinc (v := (x3 + 1)) (lv' := [(3, .int (x3 + 1)), (2, .int (x2 + (S.2 39 x3.toNatClampNeg))), (0, .ref (q 5)), (1, .int x1)]) hx hb dX1_keyAt_30 hl (k := 3) rfl rfl (by decide) rfl (fun ls hl => ?_)
          refine lv_goto (tgt := 4) hx hb dX1_keyAt_33 (by decide) ?_
          exact hK4 x1 (x2 + (S.2 39 x3.toNatClampNeg)) (x3 + 1) S H locs ls hH (lv_sub hl [2, 3, 1, 0] rfl) h
        · replace h := zif_f c4 h
          refine lv_iload_n hx hb dX1_keyAt_28 rfl (lv_at hl 3 rfl) ?_
          cases h
          exact z_iret C hE hH dX1_keyAt_29
set_option maxHeartbeats 4000000 in
set_option maxRecDepth 100000 in
theorem bX_X1_keyAt_Bits {p : Program} {l : Launch} {e : Env} {s : State} {m : MethodId} {args : Array Value} {below : List Frame} {meth : Method} {c : Code} {D : va_G} {cI cS cW : ClassId} {q : Nat → Nat} {A : Nat → Prop} {res : Int32} (C : zCX p s m args meth c cX1_keyAt 4 (some .int) zU RX1) (hE : zE D (zyX cI cS cW) znX A s) (x1 : Int32) (S : zSt) (H : Heap) (locs : List Loc) (ls : Array Slot) (hH : zH D (zwX cI cS cW q) A s S H locs) (hl : lv_has ls 4 [(0, .ref (q 5)), (1, .int x1)]) (h : fX_X1_keyAt_Bits  x1 S = some res) : W p l e rmX_X1_keyAt_Bits s m args below meth c H locs 0 0 (zQi below D (zwX cI cS cW q) (zyX cI cS cW) A args s res S) (F0 m 0 ls []) := by
  have hx := C.1
  have hb := C.2.1
  unfold fX_X1_keyAt_Bits at h
  refine lv_iconst (v := 0) hx hb dX1_keyAt_0 (by decide) ?_
  refine lv_istore_n (lv' := [(2, .int 0), (0, .ref (q 5)), (1, .int x1)]) hx hb dX1_keyAt_1 rfl hl (by decide) rfl (fun ls hl => ?_)
  refine lv_iconst (v := 0) hx hb dX1_keyAt_2 (by decide) ?_
  refine lv_istore_n (lv' := [(3, .int 0), (2, .int 0), (0, .ref (q 5)), (1, .int x1)]) hx hb dX1_keyAt_3 rfl hl (by decide) rfl (fun ls hl => ?_)
  exact bX_X1_keyAt_Bits_4 C hE   1000 x1 0 0 S H locs ls hH (lv_sub hl [2, 3, 1, 0] rfl) h
set_option maxHeartbeats 4000000 in
set_option maxRecDepth 100000 in
theorem cX_X1_keyAt_Bits (l : Launch) (D : va_G) (cI cS cW : ClassId) (q : Nat → Nat) (sz : Nat) (x1 : Int32) (S : zSt) {res : Int32} (h : fX_X1_keyAt_Bits x1 S = some res) : zMi l yX1_keyAt vsX1_keyAt rmX_X1_keyAt_Bits [.ref (q 5), .int x1] D (zwX cI cS cW q) (zyX cI cS cW) znX sz S res S := by
  refine Met.ofW (cc := cX1_keyAt) (maxL := 4) (ret := (some .int)) (by decide) rfl ?_
  intro p e s m args below meth c s₁ B hml hv
  obtain ⟨rfl, rfl, hP, hK, hD0, hN⟩ := hv
  have hl := lv_entry ([.ref (q 5), .int x1]) (n := 4) (Nat.le_of_ble_eq_true rfl)
  rw [lg_entry_eq]
  generalize (lg_sl ([.ref (q 5), .int x1]) ++ List.replicate (4 - (lg_sl ([.ref (q 5), .int x1])).length) Slot.unset).toArray = ls at hl ⊢
  exact bX_X1_keyAt_Bits ⟨B.exec, B.bytes, hml, findClass_of_methodNamed B.named, fun w h => atoms_spec (ws := vsX1_keyAt) B.pre w (List.mem_cons_of_mem _ h), B.returns, B.notSynchronized⟩ ⟨hK, fun q h => Or.inr h, hN⟩ x1 S s.heap [] ls ⟨hP, hD0.self, va_S.rf⟩ hl  h
def rmX_X10_key : Room := { frames := 1, cells := 0, slots := 0, locals := 23 }
set_option maxHeartbeats 4000000 in
set_option maxRecDepth 100000 in
theorem bX_X10_key_32 {p : Program} {l : Launch} {e : Env} {s : State} {m : MethodId} {args : Array Value} {below : List Frame} {meth : Method} {c : Code} {D : va_G} {cI cS cW : ClassId} {q : Nat → Nat} {A : Nat → Prop} {res : Int32} (C : zCX p s m args meth c cX10_key 3 (some .int) zU RX10) (hE : zE D (zyX cI cS cW) znX A s) (t0 : Int32) (S : zSt) (H : Heap) (locs : List Loc) (ls : Array Slot) (hH : zH D (zwX cI cS cW q) A s S H locs) (hl : lv_has ls 3 []) (h : fX_X10_key_32  t0 S = some res) : W p l e rmX_X10_key s m args below meth c H locs 0 0 (zQi below D (zwX cI cS cW q) (zyX cI cS cW) A args s res S) (F0 m 32 ls [.int t0]) := by
  have hx := C.1
  have hb := C.2.1
  unfold fX_X10_key_32 at h
  refine lv_goto (tgt := 36) hx hb dX10_key_32 (by decide) ?_
  cases h
  exact z_iret C hE hH dX10_key_36
set_option maxHeartbeats 4000000 in
set_option maxRecDepth 100000 in
theorem bX_X10_key_28 {p : Program} {l : Launch} {e : Env} {s : State} {m : MethodId} {args : Array Value} {below : List Frame} {meth : Method} {c : Code} {D : va_G} {cI cS cW : ClassId} {q : Nat → Nat} {A : Nat → Prop} {res : Int32} (C : zCX p s m args meth c cX10_key 3 (some .int) zU RX10) (hE : zE D (zyX cI cS cW) znX A s) (k0 : Nat) (x2 : Int32) (S : zSt) (H : Heap) (locs : List Loc) (ls : Array Slot) (hH : zH D (zwX cI cS cW q) A s S H locs) (hl : lv_has ls 3 [(2, .int x2)]) (hj_k0 : k0 < 6) (h : fX_X10_key_28  k0 x2 S = some res) : W p l e rmX_X10_key s m args below meth c H locs 0 0 (zQi below D (zwX cI cS cW q) (zyX cI cS cW) A args s res S) (F0 m 28 ls [.ref (q k0)]) := by
  have hx := C.1
  have hb := C.2.1
  unfold fX_X10_key_28 at h
  refine lv_iload_n hx hb dX10_key_28 rfl (lv_at hl 0 rfl) ?_
  obtain ⟨u1, e2, hh⟩ := zbd_s h
  clear h
  rcases z6 hj_k0 with rfl | rfl | rfl | rfl | rfl | rfl
  · have h := hh
    refine z_calli (va_runU (As := [.int x2]) (rest := []) (z_fix C) (cX_X4_keyAt_Row l D cI cS cW q H.size  x2 S (fX_d_keyAt_0.symm.trans e2)) (va_cwA 1 C.2.2.2.2.1 (zGU (x := ⟨"WhichShelf$Shelf", "keyAt", "(I)I"⟩) (owner := "WhichShelf$Shelf") zk28_0 zk28_1 zk28_7 zk7_17 zk3_6 zk7_18) rfl rfl rfl ((hE.2.2 _ znX_4).2) ydu_X7_keyAt ⟨Nat.le_of_ble_eq_true rfl, Nat.le_of_ble_eq_true rfl⟩) (z_preV (zNmX hE) hE hH zX_o0 rfl) rfl rfl hl.1 rfl (lv_room (Nat.le_of_ble_eq_true rfl)) dX10_key_29 ⟨Nat.le_refl 0, Nat.le_refl 0⟩) hE hH (fun H locs hH => ?_)
    exact bX_X10_key_32 C hE   u1 S H locs ls hH (lv_sub hl [] rfl) h
  · have h := hh
    refine z_calli (va_runU (As := [.int x2]) (rest := []) (z_fix C) (cX_X4_keyAt_Sorted l D cI cS cW q H.size  x2 S (fX_d_keyAt_1.symm.trans e2)) (va_cwA 1 C.2.2.2.2.1 (zGU (x := ⟨"WhichShelf$Shelf", "keyAt", "(I)I"⟩) (owner := "WhichShelf$Shelf") zk28_0 zk28_1 zk28_8 zk7_17 zk3_6 zk7_18) rfl rfl rfl ((hE.2.2 _ znX_4).2) ydu_X7_keyAt ⟨Nat.le_of_ble_eq_true rfl, Nat.le_of_ble_eq_true rfl⟩) (z_preV (zNmX hE) hE hH zX_o1 rfl) rfl rfl hl.1 rfl (lv_room (Nat.le_of_ble_eq_true rfl)) dX10_key_29 ⟨Nat.le_refl 0, Nat.le_refl 0⟩) hE hH (fun H locs hH => ?_)
    exact bX_X10_key_32 C hE   u1 S H locs ls hH (lv_sub hl [] rfl) h
  · have h := hh
    refine z_calli (va_runU (As := [.int x2]) (rest := []) (z_fix C) (cX_X4_keyAt_Hash l D cI cS cW q H.size  x2 S (fX_d_keyAt_2.symm.trans e2)) (va_cwA 1 C.2.2.2.2.1 (zGU (x := ⟨"WhichShelf$Shelf", "keyAt", "(I)I"⟩) (owner := "WhichShelf$Shelf") zk28_0 zk28_1 zk28_5 zk7_17 zk3_6 zk7_18) rfl rfl rfl ((hE.2.2 _ znX_4).2) ydu_X7_keyAt ⟨Nat.le_of_ble_eq_true rfl, Nat.le_of_ble_eq_true rfl⟩) (z_preV (zNmX hE) hE hH zX_o2 rfl) rfl rfl hl.1 rfl (lv_room (Nat.le_of_ble_eq_true rfl)) dX10_key_29 ⟨Nat.le_refl 0, Nat.le_refl 0⟩) hE hH (fun H locs hH => ?_)
    exact bX_X10_key_32 C hE   u1 S H locs ls hH (lv_sub hl [] rfl) h
  · have h := hh
    refine z_calli (va_runU (As := [.int x2]) (rest := []) (z_fix C) (cX_X1_keyAt_Tree l D cI cS cW q H.size  x2 S (fX_d_keyAt_3.symm.trans e2)) (va_cwA 1 C.2.2.2.2.1 (zGU (x := ⟨"WhichShelf$Shelf", "keyAt", "(I)I"⟩) (owner := "WhichShelf$Shelf") zk28_0 zk28_1 zk28_9 zk28_3 zk4_13 zk28_4) rfl rfl rfl ((hE.2.2 _ znX_4).2) ydu_X7_keyAt ⟨Nat.le_of_ble_eq_true rfl, Nat.le_of_ble_eq_true rfl⟩) (z_preV (zNmX hE) hE hH zX_o3 rfl) rfl rfl hl.1 rfl (lv_room (Nat.le_of_ble_eq_true rfl)) dX10_key_29 ⟨Nat.le_refl 0, Nat.le_refl 0⟩) hE hH (fun H locs hH => ?_)
    exact bX_X10_key_32 C hE   u1 S H locs ls hH (lv_sub hl [] rfl) h
  · have h := hh
    refine z_calli (va_runU (As := [.int x2]) (rest := []) (z_fix C) (cX_X4_keyAt_Heap l D cI cS cW q H.size  x2 S (fX_d_keyAt_4.symm.trans e2)) (va_cwA 1 C.2.2.2.2.1 (zGU (x := ⟨"WhichShelf$Shelf", "keyAt", "(I)I"⟩) (owner := "WhichShelf$Shelf") zk28_0 zk28_1 zk28_6 zk7_17 zk3_6 zk7_18) rfl rfl rfl ((hE.2.2 _ znX_4).2) ydu_X7_keyAt ⟨Nat.le_of_ble_eq_true rfl, Nat.le_of_ble_eq_true rfl⟩) (z_preV (zNmX hE) hE hH zX_o4 rfl) rfl rfl hl.1 rfl (lv_room (Nat.le_of_ble_eq_true rfl)) dX10_key_29 ⟨Nat.le_refl 0, Nat.le_refl 0⟩) hE hH (fun H locs hH => ?_)
    exact bX_X10_key_32 C hE   u1 S H locs ls hH (lv_sub hl [] rfl) h
  · have h := hh
    refine z_calli (va_runU (As := [.int x2]) (rest := []) (z_fix C) (cX_X1_keyAt_Bits l D cI cS cW q H.size  x2 S (fX_d_keyAt_5.symm.trans e2)) (va_cwA 1 C.2.2.2.2.1 (zGU (x := ⟨"WhichShelf$Shelf", "keyAt", "(I)I"⟩) (owner := "WhichShelf$Shelf") zk28_0 zk28_1 zk28_2 zk28_3 zk4_13 zk28_4) rfl rfl rfl ((hE.2.2 _ znX_4).2) ydu_X7_keyAt ⟨Nat.le_of_ble_eq_true rfl, Nat.le_of_ble_eq_true rfl⟩) (z_preV (zNmX hE) hE hH zX_o5 rfl) rfl rfl hl.1 rfl (lv_room (Nat.le_of_ble_eq_true rfl)) dX10_key_29 ⟨Nat.le_refl 0, Nat.le_refl 0⟩) hE hH (fun H locs hH => ?_)
    exact bX_X10_key_32 C hE   u1 S H locs ls hH (lv_sub hl [] rfl) h
set_option maxHeartbeats 4000000 in
set_option maxRecDepth 100000 in
theorem bX_X10_key {p : Program} {l : Launch} {e : Env} {s : State} {m : MethodId} {args : Array Value} {below : List Frame} {meth : Method} {c : Code} {D : va_G} {cI cS cW : ClassId} {q : Nat → Nat} {A : Nat → Prop} {res : Int32} (C : zCX p s m args meth c cX10_key 3 (some .int) zU RX10) (hE : zE D (zyX cI cS cW) znX A s) (x1 x2 : Int32) (S : zSt) (H : Heap) (locs : List Loc) (ls : Array Slot) (hH : zH D (zwX cI cS cW q) A s S H locs) (hl : lv_has ls 3 [(0, .ref (q 6)), (1, .int x1), (2, .int x2)]) (h : fX_X10_key  x1 x2 S = some res) : W p l e rmX_X10_key s m args below meth c H locs 0 0 (zQi below D (zwX cI cS cW q) (zyX cI cS cW) A args s res S) (F0 m 0 ls []) := by
  have hx := C.1
  have hb := C.2.1
  unfold fX_X10_key at h
  refine lv_iload_n hx hb dX10_key_0 rfl (lv_at hl 1 rfl) ?_
  obtain ⟨u1, e2, h⟩ := zbd_s h
  refine z_calli (va_runS (As := [.int x1]) (rest := []) (z_fix C) (cX_X10_isShelf l D cI cS cW q H.size  x1 S e2) (va_cwS 1 C.2.2.2.2.1 (zGS zk27_10 zk27_11 zk1_2 zk27_12) rfl rfl rfl yd_X10_isShelf ⟨Nat.le_of_ble_eq_true rfl, Nat.le_of_ble_eq_true rfl⟩) (z_preS (zNmX hE) hE hH) rfl rfl hl.1 rfl (lv_room (Nat.le_of_ble_eq_true rfl)) dX10_key_1 ⟨Nat.le_refl 0, Nat.le_refl 0⟩) hE hH (fun H locs hH => ?_)
  refine lv_if_eq (tgt := 35) hx hb dX10_key_4 (by decide) (fun c3 => ?_) (fun c3 => ?_)
  · replace h := zif_t c3 h
    refine lv_iconst (v := (-1)) hx hb dX10_key_35 (by decide) ?_
    cases h
    exact z_iret C hE hH dX10_key_36
  · replace h := zif_f c3 h
    refine lv_iload_n hx hb dX10_key_7 rfl (lv_at hl 2 rfl) ?_
    refine lv_if_lt (tgt := 35) hx hb dX10_key_8 (by decide) (fun c4 => ?_) (fun c4 => ?_)
    · replace h := zif_t c4 h
      refine lv_iconst (v := (-1)) hx hb dX10_key_35 (by decide) ?_
      cases h
      exact z_iret C hE hH dX10_key_36
    · replace h := zif_f c4 h
      refine lv_iload_n hx hb dX10_key_11 rfl (lv_at hl 2 rfl) ?_
      refine lv_aload_n hx hb dX10_key_12 rfl (lv_at hl 0 rfl) ?_
      refine z_get C hE hH zX_o6 rfl zh_X10 0 (by decide) zk1_16 (fun _ h9 => h9) (v := .ref (q 0)) rfl dX10_key_13 ?_
      refine z_get C hE hH zX_o0 rfl zh_X6 3 (by decide) zk6_20 (u_same (C.2.2.2.2.1 _ zk6_21)) (v := .int (S.1 20)) rfl dX10_key_16 ?_
      refine lv_icmp_ge (tgt := 35) hx hb dX10_key_19 (by decide) (fun c5 => ?_) (fun c5 => ?_)
      · replace h := zif_t c5 h
        refine lv_iconst (v := (-1)) hx hb dX10_key_35 (by decide) ?_
        cases h
        exact z_iret C hE hH dX10_key_36
      · replace h := zif_f c5 h
        refine lv_aload_n hx hb dX10_key_22 rfl (lv_at hl 0 rfl) ?_
        refine z_get C hE hH zX_o6 rfl zh_X10 1 (by decide) zk2_9 (fun _ h9 => h9) (v := .ref (q 8)) rfl dX10_key_23 ?_
        refine lv_iload_n hx hb dX10_key_26 rfl (lv_at hl 1 rfl) ?_
        obtain ⟨g6, h⟩ := zgd_s h
        refine z_aldq C hE hH zX_sh (t0 := 1) rfl g6 dX10_key_27 ?_
        exact bX_X10_key_28 C hE   x1.toNatClampNeg x2 S H locs ls hH (lv_sub hl [2] rfl) (zin_lt g6) h
set_option maxHeartbeats 4000000 in
set_option maxRecDepth 100000 in
theorem cX_X10_key (l : Launch) (D : va_G) (cI cS cW : ClassId) (q : Nat → Nat) (sz : Nat) (x1 : Int32) (x2 : Int32) (S : zSt) {res : Int32} (h : fX_X10_key x1 x2 S = some res) : zMi l yX10_key vsX10_key rmX_X10_key [.ref (q 6), .int x1, .int x2] D (zwX cI cS cW q) (zyX cI cS cW) znX sz S res S := by
  refine Met.ofW (cc := cX10_key) (maxL := 3) (ret := (some .int)) (by decide) rfl ?_
  intro p e s m args below meth c s₁ B hml hv
  obtain ⟨rfl, rfl, hP, hK, hD0, hN⟩ := hv
  have hl := lv_entry ([.ref (q 6), .int x1, .int x2]) (n := 3) (Nat.le_of_ble_eq_true rfl)
  rw [lg_entry_eq]
  generalize (lg_sl ([.ref (q 6), .int x1, .int x2]) ++ List.replicate (3 - (lg_sl ([.ref (q 6), .int x1, .int x2])).length) Slot.unset).toArray = ls at hl ⊢
  exact bX_X10_key ⟨B.exec, B.bytes, hml, findClass_of_methodNamed B.named, fun w h => atoms_spec (ws := vsX10_key) B.pre w (List.mem_cons_of_mem _ h), B.returns, B.notSynchronized⟩ ⟨hK, fun q h => Or.inr h, hN⟩ x1 x2 S s.heap [] ls ⟨hP, hD0.self, va_S.rf⟩ hl  h
def rmX_X7_stepsSince_Row : Room := { frames := 1, cells := 0, slots := 0, locals := 13 }
set_option maxHeartbeats 4000000 in
set_option maxRecDepth 100000 in
theorem bX_X7_stepsSince_Row_8 {p : Program} {l : Launch} {e : Env} {s : State} {m : MethodId} {args : Array Value} {below : List Frame} {meth : Method} {c : Code} {D : va_G} {cI cS cW : ClassId} {q : Nat → Nat} {A : Nat → Prop} {res : Int32} (C : zCX p s m args meth c cX7_stepsSince 4 (some .int) zU RX7) (hE : zE D (zyX cI cS cW) znX A s) : ∀ (n : Nat) (x2 x3 : Int32) (S : zSt) (H : Heap) (locs : List Loc) (ls : Array Slot), zH D (zwX cI cS cW q) A s S H locs → lv_has ls 4 [(0, .ref (q 0)), (2, .int x2), (3, .int x3)] → fX_X7_stepsSince_Row_8  n x2 x3 S = some res → W p l e rmX_X7_stepsSince_Row s m args below meth c H locs 0 0 (zQi below D (zwX cI cS cW q) (zyX cI cS cW) A args s res S) (F0 m 8 ls []) := by
  have hx := C.1
  have hb := C.2.1
  intro n
  induction n with
  | zero =>
    intro x2 x3 S H locs ls hH hl  h
    cases h
  | succ n hK8 =>
    intro x2 x3 S H locs ls hH hl  h
    rw [fX_X7_stepsSince_Row_8] at h
    refine lv_iload_n hx hb dX7_stepsSince_8 rfl (lv_at hl 2 rfl) ?_
    refine lv_aload_n hx hb dX7_stepsSince_9 rfl (lv_at hl 0 rfl) ?_
    refine z_get C hE hH zX_o0 rfl zh_X6 6 (by decide) zk3_18 (fun _ h9 => h9) (v := .int (S.1 12)) rfl dX7_stepsSince_10 ?_
    refine lv_icmp_ge (tgt := 31) hx hb dX7_stepsSince_13 (by decide) (fun c1 => ?_) (fun c1 => ?_)
    · replace h := zif_t c1 h
      refine lv_iload_n hx hb dX7_stepsSince_31 rfl (lv_at hl 1 rfl) ?_
      cases h
      exact z_iret C hE hH dX7_stepsSince_32
    · replace h := zif_f c1 h
      refine lv_iload_n hx hb dX7_stepsSince_16 rfl (lv_at hl 1 rfl) ?_
      refine lv_aload_n hx hb dX7_stepsSince_17 rfl (lv_at hl 0 rfl) ?_
      refine z_get C hE hH zX_o0 rfl zh_X6 4 (by decide) zk3_16 (fun _ h9 => h9) (v := .ref (q 10)) rfl dX7_stepsSince_18 ?_
      refine lv_iload_n hx hb dX7_stepsSince_21 rfl (lv_at hl 2 rfl) ?_
      obtain ⟨g2, h⟩ := zgd_s h
      refine z_iald C hE hH zX_a10 (t0 := 0) rfl g2 dX7_stepsSince_22 ?_
      refine lv_iadd hx hb dX7_stepsSince_23 ?_
      refine lv_istore_n (lv' := [(2, .int (x2 + (S.2 10 x3.toNatClampNeg))), (0, .ref (q 0)), (3, .int x3)]) hx hb dX7_stepsSince_24 rfl hl (by decide) rfl (fun ls hl => ?_)
      refine lv_iinc (v := (x3 + 1)) (lv' := [(3, .int (x3 + 1)), (2, .int (x2 + (S.2 10 x3.toNatClampNeg))), (0, .ref (q 0))]) hx hb dX7_stepsSince_25 hl (k := 2) rfl rfl (by decide) rfl (fun ls hl => ?_)
      refine lv_goto (tgt := 8) hx hb dX7_stepsSince_28 (by decide) ?_
      exact hK8 (x2 + (S.2 10 x3.toNatClampNeg)) (x3 + 1) S H locs ls hH (lv_sub hl [2, 1, 0] rfl) h
set_option maxHeartbeats 4000000 in
set_option maxRecDepth 100000 in
theorem bX_X7_stepsSince_Row {p : Program} {l : Launch} {e : Env} {s : State} {m : MethodId} {args : Array Value} {below : List Frame} {meth : Method} {c : Code} {D : va_G} {cI cS cW : ClassId} {q : Nat → Nat} {A : Nat → Prop} {res : Int32} (C : zCX p s m args meth c cX7_stepsSince 4 (some .int) zU RX7) (hE : zE D (zyX cI cS cW) znX A s) (x1 : Int32) (S : zSt) (H : Heap) (locs : List Loc) (ls : Array Slot) (hH : zH D (zwX cI cS cW q) A s S H locs) (hl : lv_has ls 4 [(0, .ref (q 0)), (1, .int x1)]) (h : fX_X7_stepsSince_Row  x1 S = some res) : W p l e rmX_X7_stepsSince_Row s m args below meth c H locs 0 0 (zQi below D (zwX cI cS cW q) (zyX cI cS cW) A args s res S) (F0 m 0 ls []) := by
  have hx := C.1
  have hb := C.2.1
  unfold fX_X7_stepsSince_Row at h
  refine lv_iconst (v := 0) hx hb dX7_stepsSince_0 (by decide) ?_
  refine lv_istore_n (lv' := [(2, .int 0), (0, .ref (q 0)), (1, .int x1)]) hx hb dX7_stepsSince_1 rfl hl (by decide) rfl (fun ls hl => ?_)
  refine lv_iload_n hx hb dX7_stepsSince_2 rfl (lv_at hl 2 rfl) ?_
  refine lv_iconst (v := 0) hx hb dX7_stepsSince_3 (by decide) ?_
  refine z_mmax C hl.1 zk29_7 zk8_12 zk8_13 zk8_14 (Nat.le_of_ble_eq_true rfl) (Nat.le_of_ble_eq_true rfl) dX7_stepsSince_4 ?_
  refine lv_istore_n (lv' := [(3, .int (zmax x1 0)), (2, .int 0), (0, .ref (q 0)), (1, .int x1)]) hx hb dX7_stepsSince_7 rfl hl (by decide) rfl (fun ls hl => ?_)
  exact bX_X7_stepsSince_Row_8 C hE   1000 0 (zmax x1 0) S H locs ls hH (lv_sub hl [2, 1, 0] rfl) h
set_option maxHeartbeats 4000000 in
set_option maxRecDepth 100000 in
theorem cX_X7_stepsSince_Row (l : Launch) (D : va_G) (cI cS cW : ClassId) (q : Nat → Nat) (sz : Nat) (x1 : Int32) (S : zSt) {res : Int32} (h : fX_X7_stepsSince_Row x1 S = some res) : zMi l yX7_stepsSince vsX7_stepsSince rmX_X7_stepsSince_Row [.ref (q 0), .int x1] D (zwX cI cS cW q) (zyX cI cS cW) znX sz S res S := by
  refine Met.ofW (cc := cX7_stepsSince) (maxL := 4) (ret := (some .int)) (by decide) rfl ?_
  intro p e s m args below meth c s₁ B hml hv
  obtain ⟨rfl, rfl, hP, hK, hD0, hN⟩ := hv
  have hl := lv_entry ([.ref (q 0), .int x1]) (n := 4) (Nat.le_of_ble_eq_true rfl)
  rw [lg_entry_eq]
  generalize (lg_sl ([.ref (q 0), .int x1]) ++ List.replicate (4 - (lg_sl ([.ref (q 0), .int x1])).length) Slot.unset).toArray = ls at hl ⊢
  exact bX_X7_stepsSince_Row ⟨B.exec, B.bytes, hml, findClass_of_methodNamed B.named, fun w h => atoms_spec (ws := vsX7_stepsSince) B.pre w (List.mem_cons_of_mem _ h), B.returns, B.notSynchronized⟩ ⟨hK, fun q h => Or.inr h, hN⟩ x1 S s.heap [] ls ⟨hP, hD0.self, va_S.rf⟩ hl  h
def rmX_X7_stepsSince_Sorted : Room := { frames := 1, cells := 0, slots := 0, locals := 13 }
set_option maxHeartbeats 4000000 in
set_option maxRecDepth 100000 in
theorem bX_X7_stepsSince_Sorted_8 {p : Program} {l : Launch} {e : Env} {s : State} {m : MethodId} {args : Array Value} {below : List Frame} {meth : Method} {c : Code} {D : va_G} {cI cS cW : ClassId} {q : Nat → Nat} {A : Nat → Prop} {res : Int32} (C : zCX p s m args meth c cX7_stepsSince 4 (some .int) zU RX7) (hE : zE D (zyX cI cS cW) znX A s) : ∀ (n : Nat) (x2 x3 : Int32) (S : zSt) (H : Heap) (locs : List Loc) (ls : Array Slot), zH D (zwX cI cS cW q) A s S H locs → lv_has ls 4 [(0, .ref (q 1)), (2, .int x2), (3, .int x3)] → fX_X7_stepsSince_Sorted_8  n x2 x3 S = some res → W p l e rmX_X7_stepsSince_Sorted s m args below meth c H locs 0 0 (zQi below D (zwX cI cS cW q) (zyX cI cS cW) A args s res S) (F0 m 8 ls []) := by
  have hx := C.1
  have hb := C.2.1
  intro n
  induction n with
  | zero =>
    intro x2 x3 S H locs ls hH hl  h
    cases h
  | succ n hK8 =>
    intro x2 x3 S H locs ls hH hl  h
    rw [fX_X7_stepsSince_Sorted_8] at h
    refine lv_iload_n hx hb dX7_stepsSince_8 rfl (lv_at hl 2 rfl) ?_
    refine lv_aload_n hx hb dX7_stepsSince_9 rfl (lv_at hl 0 rfl) ?_
    refine z_get C hE hH zX_o1 rfl zh_X8 6 (by decide) zk3_18 (fun _ h9 => h9) (v := .int (S.1 13)) rfl dX7_stepsSince_10 ?_
    refine lv_icmp_ge (tgt := 31) hx hb dX7_stepsSince_13 (by decide) (fun c1 => ?_) (fun c1 => ?_)
    · replace h := zif_t c1 h
      refine lv_iload_n hx hb dX7_stepsSince_31 rfl (lv_at hl 1 rfl) ?_
      cases h
      exact z_iret C hE hH dX7_stepsSince_32
    · replace h := zif_f c1 h
      refine lv_iload_n hx hb dX7_stepsSince_16 rfl (lv_at hl 1 rfl) ?_
      refine lv_aload_n hx hb dX7_stepsSince_17 rfl (lv_at hl 0 rfl) ?_
      refine z_get C hE hH zX_o1 rfl zh_X8 4 (by decide) zk3_16 (fun _ h9 => h9) (v := .ref (q 11)) rfl dX7_stepsSince_18 ?_
      refine lv_iload_n hx hb dX7_stepsSince_21 rfl (lv_at hl 2 rfl) ?_
      obtain ⟨g2, h⟩ := zgd_s h
      refine z_iald C hE hH zX_a11 (t0 := 0) rfl g2 dX7_stepsSince_22 ?_
      refine lv_iadd hx hb dX7_stepsSince_23 ?_
      refine lv_istore_n (lv' := [(2, .int (x2 + (S.2 11 x3.toNatClampNeg))), (0, .ref (q 1)), (3, .int x3)]) hx hb dX7_stepsSince_24 rfl hl (by decide) rfl (fun ls hl => ?_)
      refine lv_iinc (v := (x3 + 1)) (lv' := [(3, .int (x3 + 1)), (2, .int (x2 + (S.2 11 x3.toNatClampNeg))), (0, .ref (q 1))]) hx hb dX7_stepsSince_25 hl (k := 2) rfl rfl (by decide) rfl (fun ls hl => ?_)
      refine lv_goto (tgt := 8) hx hb dX7_stepsSince_28 (by decide) ?_
      exact hK8 (x2 + (S.2 11 x3.toNatClampNeg)) (x3 + 1) S H locs ls hH (lv_sub hl [2, 1, 0] rfl) h
set_option maxHeartbeats 4000000 in
set_option maxRecDepth 100000 in
theorem bX_X7_stepsSince_Sorted {p : Program} {l : Launch} {e : Env} {s : State} {m : MethodId} {args : Array Value} {below : List Frame} {meth : Method} {c : Code} {D : va_G} {cI cS cW : ClassId} {q : Nat → Nat} {A : Nat → Prop} {res : Int32} (C : zCX p s m args meth c cX7_stepsSince 4 (some .int) zU RX7) (hE : zE D (zyX cI cS cW) znX A s) (x1 : Int32) (S : zSt) (H : Heap) (locs : List Loc) (ls : Array Slot) (hH : zH D (zwX cI cS cW q) A s S H locs) (hl : lv_has ls 4 [(0, .ref (q 1)), (1, .int x1)]) (h : fX_X7_stepsSince_Sorted  x1 S = some res) : W p l e rmX_X7_stepsSince_Sorted s m args below meth c H locs 0 0 (zQi below D (zwX cI cS cW q) (zyX cI cS cW) A args s res S) (F0 m 0 ls []) := by
  have hx := C.1
  have hb := C.2.1
  unfold fX_X7_stepsSince_Sorted at h
  refine lv_iconst (v := 0) hx hb dX7_stepsSince_0 (by decide) ?_
  refine lv_istore_n (lv' := [(2, .int 0), (0, .ref (q 1)), (1, .int x1)]) hx hb dX7_stepsSince_1 rfl hl (by decide) rfl (fun ls hl => ?_)
  refine lv_iload_n hx hb dX7_stepsSince_2 rfl (lv_at hl 2 rfl) ?_
  refine lv_iconst (v := 0) hx hb dX7_stepsSince_3 (by decide) ?_
  refine z_mmax C hl.1 zk29_7 zk8_12 zk8_13 zk8_14 (Nat.le_of_ble_eq_true rfl) (Nat.le_of_ble_eq_true rfl) dX7_stepsSince_4 ?_
  refine lv_istore_n (lv' := [(3, .int (zmax x1 0)), (2, .int 0), (0, .ref (q 1)), (1, .int x1)]) hx hb dX7_stepsSince_7 rfl hl (by decide) rfl (fun ls hl => ?_)
  exact bX_X7_stepsSince_Sorted_8 C hE   1000 0 (zmax x1 0) S H locs ls hH (lv_sub hl [2, 1, 0] rfl) h
set_option maxHeartbeats 4000000 in
set_option maxRecDepth 100000 in
theorem cX_X7_stepsSince_Sorted (l : Launch) (D : va_G) (cI cS cW : ClassId) (q : Nat → Nat) (sz : Nat) (x1 : Int32) (S : zSt) {res : Int32} (h : fX_X7_stepsSince_Sorted x1 S = some res) : zMi l yX7_stepsSince vsX7_stepsSince rmX_X7_stepsSince_Sorted [.ref (q 1), .int x1] D (zwX cI cS cW q) (zyX cI cS cW) znX sz S res S := by
  refine Met.ofW (cc := cX7_stepsSince) (maxL := 4) (ret := (some .int)) (by decide) rfl ?_
  intro p e s m args below meth c s₁ B hml hv
  obtain ⟨rfl, rfl, hP, hK, hD0, hN⟩ := hv
  have hl := lv_entry ([.ref (q 1), .int x1]) (n := 4) (Nat.le_of_ble_eq_true rfl)
  rw [lg_entry_eq]
  generalize (lg_sl ([.ref (q 1), .int x1]) ++ List.replicate (4 - (lg_sl ([.ref (q 1), .int x1])).length) Slot.unset).toArray = ls at hl ⊢
  exact bX_X7_stepsSince_Sorted ⟨B.exec, B.bytes, hml, findClass_of_methodNamed B.named, fun w h => atoms_spec (ws := vsX7_stepsSince) B.pre w (List.mem_cons_of_mem _ h), B.returns, B.notSynchronized⟩ ⟨hK, fun q h => Or.inr h, hN⟩ x1 S s.heap [] ls ⟨hP, hD0.self, va_S.rf⟩ hl  h
def rmX_X7_stepsSince_Hash : Room := { frames := 1, cells := 0, slots := 0, locals := 13 }
set_option maxHeartbeats 4000000 in
set_option maxRecDepth 100000 in
theorem bX_X7_stepsSince_Hash_8 {p : Program} {l : Launch} {e : Env} {s : State} {m : MethodId} {args : Array Value} {below : List Frame} {meth : Method} {c : Code} {D : va_G} {cI cS cW : ClassId} {q : Nat → Nat} {A : Nat → Prop} {res : Int32} (C : zCX p s m args meth c cX7_stepsSince 4 (some .int) zU RX7) (hE : zE D (zyX cI cS cW) znX A s) : ∀ (n : Nat) (x2 x3 : Int32) (S : zSt) (H : Heap) (locs : List Loc) (ls : Array Slot), zH D (zwX cI cS cW q) A s S H locs → lv_has ls 4 [(0, .ref (q 2)), (2, .int x2), (3, .int x3)] → fX_X7_stepsSince_Hash_8  n x2 x3 S = some res → W p l e rmX_X7_stepsSince_Hash s m args below meth c H locs 0 0 (zQi below D (zwX cI cS cW q) (zyX cI cS cW) A args s res S) (F0 m 8 ls []) := by
  have hx := C.1
  have hb := C.2.1
  intro n
  induction n with
  | zero =>
    intro x2 x3 S H locs ls hH hl  h
    cases h
  | succ n hK8 =>
    intro x2 x3 S H locs ls hH hl  h
    rw [fX_X7_stepsSince_Hash_8] at h
    refine lv_iload_n hx hb dX7_stepsSince_8 rfl (lv_at hl 2 rfl) ?_
    refine lv_aload_n hx hb dX7_stepsSince_9 rfl (lv_at hl 0 rfl) ?_
    refine z_get C hE hH zX_o2 rfl zh_X2 6 (by decide) zk3_18 (fun _ h9 => h9) (v := .int (S.1 14)) rfl dX7_stepsSince_10 ?_
    refine lv_icmp_ge (tgt := 31) hx hb dX7_stepsSince_13 (by decide) (fun c1 => ?_) (fun c1 => ?_)
    · replace h := zif_t c1 h
      refine lv_iload_n hx hb dX7_stepsSince_31 rfl (lv_at hl 1 rfl) ?_
      cases h
      exact z_iret C hE hH dX7_stepsSince_32
    · replace h := zif_f c1 h
      refine lv_iload_n hx hb dX7_stepsSince_16 rfl (lv_at hl 1 rfl) ?_
      refine lv_aload_n hx hb dX7_stepsSince_17 rfl (lv_at hl 0 rfl) ?_
      refine z_get C hE hH zX_o2 rfl zh_X2 4 (by decide) zk3_16 (fun _ h9 => h9) (v := .ref (q 12)) rfl dX7_stepsSince_18 ?_
      refine lv_iload_n hx hb dX7_stepsSince_21 rfl (lv_at hl 2 rfl) ?_
      obtain ⟨g2, h⟩ := zgd_s h
      refine z_iald C hE hH zX_a12 (t0 := 0) rfl g2 dX7_stepsSince_22 ?_
      refine lv_iadd hx hb dX7_stepsSince_23 ?_
      refine lv_istore_n (lv' := [(2, .int (x2 + (S.2 12 x3.toNatClampNeg))), (0, .ref (q 2)), (3, .int x3)]) hx hb dX7_stepsSince_24 rfl hl (by decide) rfl (fun ls hl => ?_)
      refine lv_iinc (v := (x3 + 1)) (lv' := [(3, .int (x3 + 1)), (2, .int (x2 + (S.2 12 x3.toNatClampNeg))), (0, .ref (q 2))]) hx hb dX7_stepsSince_25 hl (k := 2) rfl rfl (by decide) rfl (fun ls hl => ?_)
      refine lv_goto (tgt := 8) hx hb dX7_stepsSince_28 (by decide) ?_
      exact hK8 (x2 + (S.2 12 x3.toNatClampNeg)) (x3 + 1) S H locs ls hH (lv_sub hl [2, 1, 0] rfl) h
set_option maxHeartbeats 4000000 in
set_option maxRecDepth 100000 in
theorem bX_X7_stepsSince_Hash {p : Program} {l : Launch} {e : Env} {s : State} {m : MethodId} {args : Array Value} {below : List Frame} {meth : Method} {c : Code} {D : va_G} {cI cS cW : ClassId} {q : Nat → Nat} {A : Nat → Prop} {res : Int32} (C : zCX p s m args meth c cX7_stepsSince 4 (some .int) zU RX7) (hE : zE D (zyX cI cS cW) znX A s) (x1 : Int32) (S : zSt) (H : Heap) (locs : List Loc) (ls : Array Slot) (hH : zH D (zwX cI cS cW q) A s S H locs) (hl : lv_has ls 4 [(0, .ref (q 2)), (1, .int x1)]) (h : fX_X7_stepsSince_Hash  x1 S = some res) : W p l e rmX_X7_stepsSince_Hash s m args below meth c H locs 0 0 (zQi below D (zwX cI cS cW q) (zyX cI cS cW) A args s res S) (F0 m 0 ls []) := by
  have hx := C.1
  have hb := C.2.1
  unfold fX_X7_stepsSince_Hash at h
  refine lv_iconst (v := 0) hx hb dX7_stepsSince_0 (by decide) ?_
  refine lv_istore_n (lv' := [(2, .int 0), (0, .ref (q 2)), (1, .int x1)]) hx hb dX7_stepsSince_1 rfl hl (by decide) rfl (fun ls hl => ?_)
  refine lv_iload_n hx hb dX7_stepsSince_2 rfl (lv_at hl 2 rfl) ?_
  refine lv_iconst (v := 0) hx hb dX7_stepsSince_3 (by decide) ?_
  refine z_mmax C hl.1 zk29_7 zk8_12 zk8_13 zk8_14 (Nat.le_of_ble_eq_true rfl) (Nat.le_of_ble_eq_true rfl) dX7_stepsSince_4 ?_
  refine lv_istore_n (lv' := [(3, .int (zmax x1 0)), (2, .int 0), (0, .ref (q 2)), (1, .int x1)]) hx hb dX7_stepsSince_7 rfl hl (by decide) rfl (fun ls hl => ?_)
  exact bX_X7_stepsSince_Hash_8 C hE   1000 0 (zmax x1 0) S H locs ls hH (lv_sub hl [2, 1, 0] rfl) h
set_option maxHeartbeats 4000000 in
set_option maxRecDepth 100000 in
theorem cX_X7_stepsSince_Hash (l : Launch) (D : va_G) (cI cS cW : ClassId) (q : Nat → Nat) (sz : Nat) (x1 : Int32) (S : zSt) {res : Int32} (h : fX_X7_stepsSince_Hash x1 S = some res) : zMi l yX7_stepsSince vsX7_stepsSince rmX_X7_stepsSince_Hash [.ref (q 2), .int x1] D (zwX cI cS cW q) (zyX cI cS cW) znX sz S res S := by
  refine Met.ofW (cc := cX7_stepsSince) (maxL := 4) (ret := (some .int)) (by decide) rfl ?_
  intro p e s m args below meth c s₁ B hml hv
  obtain ⟨rfl, rfl, hP, hK, hD0, hN⟩ := hv
  have hl := lv_entry ([.ref (q 2), .int x1]) (n := 4) (Nat.le_of_ble_eq_true rfl)
  rw [lg_entry_eq]
  generalize (lg_sl ([.ref (q 2), .int x1]) ++ List.replicate (4 - (lg_sl ([.ref (q 2), .int x1])).length) Slot.unset).toArray = ls at hl ⊢
  exact bX_X7_stepsSince_Hash ⟨B.exec, B.bytes, hml, findClass_of_methodNamed B.named, fun w h => atoms_spec (ws := vsX7_stepsSince) B.pre w (List.mem_cons_of_mem _ h), B.returns, B.notSynchronized⟩ ⟨hK, fun q h => Or.inr h, hN⟩ x1 S s.heap [] ls ⟨hP, hD0.self, va_S.rf⟩ hl  h
def rmX_X7_stepsSince_Tree : Room := { frames := 1, cells := 0, slots := 0, locals := 13 }
set_option maxHeartbeats 4000000 in
set_option maxRecDepth 100000 in
theorem bX_X7_stepsSince_Tree_8 {p : Program} {l : Launch} {e : Env} {s : State} {m : MethodId} {args : Array Value} {below : List Frame} {meth : Method} {c : Code} {D : va_G} {cI cS cW : ClassId} {q : Nat → Nat} {A : Nat → Prop} {res : Int32} (C : zCX p s m args meth c cX7_stepsSince 4 (some .int) zU RX7) (hE : zE D (zyX cI cS cW) znX A s) : ∀ (n : Nat) (x2 x3 : Int32) (S : zSt) (H : Heap) (locs : List Loc) (ls : Array Slot), zH D (zwX cI cS cW q) A s S H locs → lv_has ls 4 [(0, .ref (q 3)), (2, .int x2), (3, .int x3)] → fX_X7_stepsSince_Tree_8  n x2 x3 S = some res → W p l e rmX_X7_stepsSince_Tree s m args below meth c H locs 0 0 (zQi below D (zwX cI cS cW q) (zyX cI cS cW) A args s res S) (F0 m 8 ls []) := by
  have hx := C.1
  have hb := C.2.1
  intro n
  induction n with
  | zero =>
    intro x2 x3 S H locs ls hH hl  h
    cases h
  | succ n hK8 =>
    intro x2 x3 S H locs ls hH hl  h
    rw [fX_X7_stepsSince_Tree_8] at h
    refine lv_iload_n hx hb dX7_stepsSince_8 rfl (lv_at hl 2 rfl) ?_
    refine lv_aload_n hx hb dX7_stepsSince_9 rfl (lv_at hl 0 rfl) ?_
    refine z_get C hE hH zX_o3 rfl zh_X9 3 (by decide) zk3_18 (fun _ h9 => h9) (v := .int (S.1 15)) rfl dX7_stepsSince_10 ?_
    refine lv_icmp_ge (tgt := 31) hx hb dX7_stepsSince_13 (by decide) (fun c1 => ?_) (fun c1 => ?_)
    · replace h := zif_t c1 h
      refine lv_iload_n hx hb dX7_stepsSince_31 rfl (lv_at hl 1 rfl) ?_
      cases h
      exact z_iret C hE hH dX7_stepsSince_32
    · replace h := zif_f c1 h
      refine lv_iload_n hx hb dX7_stepsSince_16 rfl (lv_at hl 1 rfl) ?_
      refine lv_aload_n hx hb dX7_stepsSince_17 rfl (lv_at hl 0 rfl) ?_
      refine z_get C hE hH zX_o3 rfl zh_X9 1 (by decide) zk3_16 (fun _ h9 => h9) (v := .ref (q 13)) rfl dX7_stepsSince_18 ?_
      refine lv_iload_n hx hb dX7_stepsSince_21 rfl (lv_at hl 2 rfl) ?_
      obtain ⟨g2, h⟩ := zgd_s h
      refine z_iald C hE hH zX_a13 (t0 := 0) rfl g2 dX7_stepsSince_22 ?_
      refine lv_iadd hx hb dX7_stepsSince_23 ?_
      refine lv_istore_n (lv' := [(2, .int (x2 + (S.2 13 x3.toNatClampNeg))), (0, .ref (q 3)), (3, .int x3)]) hx hb dX7_stepsSince_24 rfl hl (by decide) rfl (fun ls hl => ?_)
      refine lv_iinc (v := (x3 + 1)) (lv' := [(3, .int (x3 + 1)), (2, .int (x2 + (S.2 13 x3.toNatClampNeg))), (0, .ref (q 3))]) hx hb dX7_stepsSince_25 hl (k := 2) rfl rfl (by decide) rfl (fun ls hl => ?_)
      refine lv_goto (tgt := 8) hx hb dX7_stepsSince_28 (by decide) ?_
      exact hK8 (x2 + (S.2 13 x3.toNatClampNeg)) (x3 + 1) S H locs ls hH (lv_sub hl [2, 1, 0] rfl) h
set_option maxHeartbeats 4000000 in
set_option maxRecDepth 100000 in
theorem bX_X7_stepsSince_Tree {p : Program} {l : Launch} {e : Env} {s : State} {m : MethodId} {args : Array Value} {below : List Frame} {meth : Method} {c : Code} {D : va_G} {cI cS cW : ClassId} {q : Nat → Nat} {A : Nat → Prop} {res : Int32} (C : zCX p s m args meth c cX7_stepsSince 4 (some .int) zU RX7) (hE : zE D (zyX cI cS cW) znX A s) (x1 : Int32) (S : zSt) (H : Heap) (locs : List Loc) (ls : Array Slot) (hH : zH D (zwX cI cS cW q) A s S H locs) (hl : lv_has ls 4 [(0, .ref (q 3)), (1, .int x1)]) (h : fX_X7_stepsSince_Tree  x1 S = some res) : W p l e rmX_X7_stepsSince_Tree s m args below meth c H locs 0 0 (zQi below D (zwX cI cS cW q) (zyX cI cS cW) A args s res S) (F0 m 0 ls []) := by
  have hx := C.1
  have hb := C.2.1
  unfold fX_X7_stepsSince_Tree at h
  refine lv_iconst (v := 0) hx hb dX7_stepsSince_0 (by decide) ?_
  refine lv_istore_n (lv' := [(2, .int 0), (0, .ref (q 3)), (1, .int x1)]) hx hb dX7_stepsSince_1 rfl hl (by decide) rfl (fun ls hl => ?_)
  refine lv_iload_n hx hb dX7_stepsSince_2 rfl (lv_at hl 2 rfl) ?_
  refine lv_iconst (v := 0) hx hb dX7_stepsSince_3 (by decide) ?_
  refine z_mmax C hl.1 zk29_7 zk8_12 zk8_13 zk8_14 (Nat.le_of_ble_eq_true rfl) (Nat.le_of_ble_eq_true rfl) dX7_stepsSince_4 ?_
  refine lv_istore_n (lv' := [(3, .int (zmax x1 0)), (2, .int 0), (0, .ref (q 3)), (1, .int x1)]) hx hb dX7_stepsSince_7 rfl hl (by decide) rfl (fun ls hl => ?_)
  exact bX_X7_stepsSince_Tree_8 C hE   1000 0 (zmax x1 0) S H locs ls hH (lv_sub hl [2, 1, 0] rfl) h
set_option maxHeartbeats 4000000 in
set_option maxRecDepth 100000 in
theorem cX_X7_stepsSince_Tree (l : Launch) (D : va_G) (cI cS cW : ClassId) (q : Nat → Nat) (sz : Nat) (x1 : Int32) (S : zSt) {res : Int32} (h : fX_X7_stepsSince_Tree x1 S = some res) : zMi l yX7_stepsSince vsX7_stepsSince rmX_X7_stepsSince_Tree [.ref (q 3), .int x1] D (zwX cI cS cW q) (zyX cI cS cW) znX sz S res S := by
  refine Met.ofW (cc := cX7_stepsSince) (maxL := 4) (ret := (some .int)) (by decide) rfl ?_
  intro p e s m args below meth c s₁ B hml hv
  obtain ⟨rfl, rfl, hP, hK, hD0, hN⟩ := hv
  have hl := lv_entry ([.ref (q 3), .int x1]) (n := 4) (Nat.le_of_ble_eq_true rfl)
  rw [lg_entry_eq]
  generalize (lg_sl ([.ref (q 3), .int x1]) ++ List.replicate (4 - (lg_sl ([.ref (q 3), .int x1])).length) Slot.unset).toArray = ls at hl ⊢
  exact bX_X7_stepsSince_Tree ⟨B.exec, B.bytes, hml, findClass_of_methodNamed B.named, fun w h => atoms_spec (ws := vsX7_stepsSince) B.pre w (List.mem_cons_of_mem _ h), B.returns, B.notSynchronized⟩ ⟨hK, fun q h => Or.inr h, hN⟩ x1 S s.heap [] ls ⟨hP, hD0.self, va_S.rf⟩ hl  h
def rmX_X7_stepsSince_Heap : Room := { frames := 1, cells := 0, slots := 0, locals := 13 }
set_option maxHeartbeats 4000000 in
set_option maxRecDepth 100000 in
theorem bX_X7_stepsSince_Heap_8 {p : Program} {l : Launch} {e : Env} {s : State} {m : MethodId} {args : Array Value} {below : List Frame} {meth : Method} {c : Code} {D : va_G} {cI cS cW : ClassId} {q : Nat → Nat} {A : Nat → Prop} {res : Int32} (C : zCX p s m args meth c cX7_stepsSince 4 (some .int) zU RX7) (hE : zE D (zyX cI cS cW) znX A s) : ∀ (n : Nat) (x2 x3 : Int32) (S : zSt) (H : Heap) (locs : List Loc) (ls : Array Slot), zH D (zwX cI cS cW q) A s S H locs → lv_has ls 4 [(0, .ref (q 4)), (2, .int x2), (3, .int x3)] → fX_X7_stepsSince_Heap_8  n x2 x3 S = some res → W p l e rmX_X7_stepsSince_Heap s m args below meth c H locs 0 0 (zQi below D (zwX cI cS cW q) (zyX cI cS cW) A args s res S) (F0 m 8 ls []) := by
  have hx := C.1
  have hb := C.2.1
  intro n
  induction n with
  | zero =>
    intro x2 x3 S H locs ls hH hl  h
    cases h
  | succ n hK8 =>
    intro x2 x3 S H locs ls hH hl  h
    rw [fX_X7_stepsSince_Heap_8] at h
    refine lv_iload_n hx hb dX7_stepsSince_8 rfl (lv_at hl 2 rfl) ?_
    refine lv_aload_n hx hb dX7_stepsSince_9 rfl (lv_at hl 0 rfl) ?_
    refine z_get C hE hH zX_o4 rfl zh_X3 6 (by decide) zk3_18 (fun _ h9 => h9) (v := .int (S.1 16)) rfl dX7_stepsSince_10 ?_
    refine lv_icmp_ge (tgt := 31) hx hb dX7_stepsSince_13 (by decide) (fun c1 => ?_) (fun c1 => ?_)
    · replace h := zif_t c1 h
      refine lv_iload_n hx hb dX7_stepsSince_31 rfl (lv_at hl 1 rfl) ?_
      cases h
      exact z_iret C hE hH dX7_stepsSince_32
    · replace h := zif_f c1 h
      refine lv_iload_n hx hb dX7_stepsSince_16 rfl (lv_at hl 1 rfl) ?_
      refine lv_aload_n hx hb dX7_stepsSince_17 rfl (lv_at hl 0 rfl) ?_
      refine z_get C hE hH zX_o4 rfl zh_X3 4 (by decide) zk3_16 (fun _ h9 => h9) (v := .ref (q 14)) rfl dX7_stepsSince_18 ?_
      refine lv_iload_n hx hb dX7_stepsSince_21 rfl (lv_at hl 2 rfl) ?_
      obtain ⟨g2, h⟩ := zgd_s h
      refine z_iald C hE hH zX_a14 (t0 := 0) rfl g2 dX7_stepsSince_22 ?_
      refine lv_iadd hx hb dX7_stepsSince_23 ?_
      refine lv_istore_n (lv' := [(2, .int (x2 + (S.2 14 x3.toNatClampNeg))), (0, .ref (q 4)), (3, .int x3)]) hx hb dX7_stepsSince_24 rfl hl (by decide) rfl (fun ls hl => ?_)
      refine lv_iinc (v := (x3 + 1)) (lv' := [(3, .int (x3 + 1)), (2, .int (x2 + (S.2 14 x3.toNatClampNeg))), (0, .ref (q 4))]) hx hb dX7_stepsSince_25 hl (k := 2) rfl rfl (by decide) rfl (fun ls hl => ?_)
      refine lv_goto (tgt := 8) hx hb dX7_stepsSince_28 (by decide) ?_
      exact hK8 (x2 + (S.2 14 x3.toNatClampNeg)) (x3 + 1) S H locs ls hH (lv_sub hl [2, 1, 0] rfl) h
set_option maxHeartbeats 4000000 in
set_option maxRecDepth 100000 in
theorem bX_X7_stepsSince_Heap {p : Program} {l : Launch} {e : Env} {s : State} {m : MethodId} {args : Array Value} {below : List Frame} {meth : Method} {c : Code} {D : va_G} {cI cS cW : ClassId} {q : Nat → Nat} {A : Nat → Prop} {res : Int32} (C : zCX p s m args meth c cX7_stepsSince 4 (some .int) zU RX7) (hE : zE D (zyX cI cS cW) znX A s) (x1 : Int32) (S : zSt) (H : Heap) (locs : List Loc) (ls : Array Slot) (hH : zH D (zwX cI cS cW q) A s S H locs) (hl : lv_has ls 4 [(0, .ref (q 4)), (1, .int x1)]) (h : fX_X7_stepsSince_Heap  x1 S = some res) : W p l e rmX_X7_stepsSince_Heap s m args below meth c H locs 0 0 (zQi below D (zwX cI cS cW q) (zyX cI cS cW) A args s res S) (F0 m 0 ls []) := by
  have hx := C.1
  have hb := C.2.1
  unfold fX_X7_stepsSince_Heap at h
  refine lv_iconst (v := 0) hx hb dX7_stepsSince_0 (by decide) ?_
  refine lv_istore_n (lv' := [(2, .int 0), (0, .ref (q 4)), (1, .int x1)]) hx hb dX7_stepsSince_1 rfl hl (by decide) rfl (fun ls hl => ?_)
  refine lv_iload_n hx hb dX7_stepsSince_2 rfl (lv_at hl 2 rfl) ?_
  refine lv_iconst (v := 0) hx hb dX7_stepsSince_3 (by decide) ?_
  refine z_mmax C hl.1 zk29_7 zk8_12 zk8_13 zk8_14 (Nat.le_of_ble_eq_true rfl) (Nat.le_of_ble_eq_true rfl) dX7_stepsSince_4 ?_
  refine lv_istore_n (lv' := [(3, .int (zmax x1 0)), (2, .int 0), (0, .ref (q 4)), (1, .int x1)]) hx hb dX7_stepsSince_7 rfl hl (by decide) rfl (fun ls hl => ?_)
  exact bX_X7_stepsSince_Heap_8 C hE   1000 0 (zmax x1 0) S H locs ls hH (lv_sub hl [2, 1, 0] rfl) h
set_option maxHeartbeats 4000000 in
set_option maxRecDepth 100000 in
theorem cX_X7_stepsSince_Heap (l : Launch) (D : va_G) (cI cS cW : ClassId) (q : Nat → Nat) (sz : Nat) (x1 : Int32) (S : zSt) {res : Int32} (h : fX_X7_stepsSince_Heap x1 S = some res) : zMi l yX7_stepsSince vsX7_stepsSince rmX_X7_stepsSince_Heap [.ref (q 4), .int x1] D (zwX cI cS cW q) (zyX cI cS cW) znX sz S res S := by
  refine Met.ofW (cc := cX7_stepsSince) (maxL := 4) (ret := (some .int)) (by decide) rfl ?_
  intro p e s m args below meth c s₁ B hml hv
  obtain ⟨rfl, rfl, hP, hK, hD0, hN⟩ := hv
  have hl := lv_entry ([.ref (q 4), .int x1]) (n := 4) (Nat.le_of_ble_eq_true rfl)
  rw [lg_entry_eq]
  generalize (lg_sl ([.ref (q 4), .int x1]) ++ List.replicate (4 - (lg_sl ([.ref (q 4), .int x1])).length) Slot.unset).toArray = ls at hl ⊢
  exact bX_X7_stepsSince_Heap ⟨B.exec, B.bytes, hml, findClass_of_methodNamed B.named, fun w h => atoms_spec (ws := vsX7_stepsSince) B.pre w (List.mem_cons_of_mem _ h), B.returns, B.notSynchronized⟩ ⟨hK, fun q h => Or.inr h, hN⟩ x1 S s.heap [] ls ⟨hP, hD0.self, va_S.rf⟩ hl  h
def rmX_X7_stepsSince_Bits : Room := { frames := 1, cells := 0, slots := 0, locals := 13 }
set_option maxHeartbeats 4000000 in
set_option maxRecDepth 100000 in
theorem bX_X7_stepsSince_Bits_8 {p : Program} {l : Launch} {e : Env} {s : State} {m : MethodId} {args : Array Value} {below : List Frame} {meth : Method} {c : Code} {D : va_G} {cI cS cW : ClassId} {q : Nat → Nat} {A : Nat → Prop} {res : Int32} (C : zCX p s m args meth c cX7_stepsSince 4 (some .int) zU RX7) (hE : zE D (zyX cI cS cW) znX A s) : ∀ (n : Nat) (x2 x3 : Int32) (S : zSt) (H : Heap) (locs : List Loc) (ls : Array Slot), zH D (zwX cI cS cW q) A s S H locs → lv_has ls 4 [(0, .ref (q 5)), (2, .int x2), (3, .int x3)] → fX_X7_stepsSince_Bits_8  n x2 x3 S = some res → W p l e rmX_X7_stepsSince_Bits s m args below meth c H locs 0 0 (zQi below D (zwX cI cS cW q) (zyX cI cS cW) A args s res S) (F0 m 8 ls []) := by
  have hx := C.1
  have hb := C.2.1
  intro n
  induction n with
  | zero =>
    intro x2 x3 S H locs ls hH hl  h
    cases h
  | succ n hK8 =>
    intro x2 x3 S H locs ls hH hl  h
    rw [fX_X7_stepsSince_Bits_8] at h
    refine lv_iload_n hx hb dX7_stepsSince_8 rfl (lv_at hl 2 rfl) ?_
    refine lv_aload_n hx hb dX7_stepsSince_9 rfl (lv_at hl 0 rfl) ?_
    refine z_get C hE hH zX_o5 rfl zh_X0 3 (by decide) zk3_18 (fun _ h9 => h9) (v := .int (S.1 17)) rfl dX7_stepsSince_10 ?_
    refine lv_icmp_ge (tgt := 31) hx hb dX7_stepsSince_13 (by decide) (fun c1 => ?_) (fun c1 => ?_)
    · replace h := zif_t c1 h
      refine lv_iload_n hx hb dX7_stepsSince_31 rfl (lv_at hl 1 rfl) ?_
      cases h
      exact z_iret C hE hH dX7_stepsSince_32
    · replace h := zif_f c1 h
      refine lv_iload_n hx hb dX7_stepsSince_16 rfl (lv_at hl 1 rfl) ?_
      refine lv_aload_n hx hb dX7_stepsSince_17 rfl (lv_at hl 0 rfl) ?_
      refine z_get C hE hH zX_o5 rfl zh_X0 1 (by decide) zk3_16 (fun _ h9 => h9) (v := .ref (q 15)) rfl dX7_stepsSince_18 ?_
      refine lv_iload_n hx hb dX7_stepsSince_21 rfl (lv_at hl 2 rfl) ?_
      obtain ⟨g2, h⟩ := zgd_s h
      refine z_iald C hE hH zX_a15 (t0 := 0) rfl g2 dX7_stepsSince_22 ?_
      refine lv_iadd hx hb dX7_stepsSince_23 ?_
      refine lv_istore_n (lv' := [(2, .int (x2 + (S.2 15 x3.toNatClampNeg))), (0, .ref (q 5)), (3, .int x3)]) hx hb dX7_stepsSince_24 rfl hl (by decide) rfl (fun ls hl => ?_)
      refine lv_iinc (v := (x3 + 1)) (lv' := [(3, .int (x3 + 1)), (2, .int (x2 + (S.2 15 x3.toNatClampNeg))), (0, .ref (q 5))]) hx hb dX7_stepsSince_25 hl (k := 2) rfl rfl (by decide) rfl (fun ls hl => ?_)
      refine lv_goto (tgt := 8) hx hb dX7_stepsSince_28 (by decide) ?_
      exact hK8 (x2 + (S.2 15 x3.toNatClampNeg)) (x3 + 1) S H locs ls hH (lv_sub hl [2, 1, 0] rfl) h
set_option maxHeartbeats 4000000 in
set_option maxRecDepth 100000 in
theorem bX_X7_stepsSince_Bits {p : Program} {l : Launch} {e : Env} {s : State} {m : MethodId} {args : Array Value} {below : List Frame} {meth : Method} {c : Code} {D : va_G} {cI cS cW : ClassId} {q : Nat → Nat} {A : Nat → Prop} {res : Int32} (C : zCX p s m args meth c cX7_stepsSince 4 (some .int) zU RX7) (hE : zE D (zyX cI cS cW) znX A s) (x1 : Int32) (S : zSt) (H : Heap) (locs : List Loc) (ls : Array Slot) (hH : zH D (zwX cI cS cW q) A s S H locs) (hl : lv_has ls 4 [(0, .ref (q 5)), (1, .int x1)]) (h : fX_X7_stepsSince_Bits  x1 S = some res) : W p l e rmX_X7_stepsSince_Bits s m args below meth c H locs 0 0 (zQi below D (zwX cI cS cW q) (zyX cI cS cW) A args s res S) (F0 m 0 ls []) := by
  have hx := C.1
  have hb := C.2.1
  unfold fX_X7_stepsSince_Bits at h
  refine lv_iconst (v := 0) hx hb dX7_stepsSince_0 (by decide) ?_
  refine lv_istore_n (lv' := [(2, .int 0), (0, .ref (q 5)), (1, .int x1)]) hx hb dX7_stepsSince_1 rfl hl (by decide) rfl (fun ls hl => ?_)
  refine lv_iload_n hx hb dX7_stepsSince_2 rfl (lv_at hl 2 rfl) ?_
  refine lv_iconst (v := 0) hx hb dX7_stepsSince_3 (by decide) ?_
  refine z_mmax C hl.1 zk29_7 zk8_12 zk8_13 zk8_14 (Nat.le_of_ble_eq_true rfl) (Nat.le_of_ble_eq_true rfl) dX7_stepsSince_4 ?_
  refine lv_istore_n (lv' := [(3, .int (zmax x1 0)), (2, .int 0), (0, .ref (q 5)), (1, .int x1)]) hx hb dX7_stepsSince_7 rfl hl (by decide) rfl (fun ls hl => ?_)
  exact bX_X7_stepsSince_Bits_8 C hE   1000 0 (zmax x1 0) S H locs ls hH (lv_sub hl [2, 1, 0] rfl) h
set_option maxHeartbeats 4000000 in
set_option maxRecDepth 100000 in
theorem cX_X7_stepsSince_Bits (l : Launch) (D : va_G) (cI cS cW : ClassId) (q : Nat → Nat) (sz : Nat) (x1 : Int32) (S : zSt) {res : Int32} (h : fX_X7_stepsSince_Bits x1 S = some res) : zMi l yX7_stepsSince vsX7_stepsSince rmX_X7_stepsSince_Bits [.ref (q 5), .int x1] D (zwX cI cS cW q) (zyX cI cS cW) znX sz S res S := by
  refine Met.ofW (cc := cX7_stepsSince) (maxL := 4) (ret := (some .int)) (by decide) rfl ?_
  intro p e s m args below meth c s₁ B hml hv
  obtain ⟨rfl, rfl, hP, hK, hD0, hN⟩ := hv
  have hl := lv_entry ([.ref (q 5), .int x1]) (n := 4) (Nat.le_of_ble_eq_true rfl)
  rw [lg_entry_eq]
  generalize (lg_sl ([.ref (q 5), .int x1]) ++ List.replicate (4 - (lg_sl ([.ref (q 5), .int x1])).length) Slot.unset).toArray = ls at hl ⊢
  exact bX_X7_stepsSince_Bits ⟨B.exec, B.bytes, hml, findClass_of_methodNamed B.named, fun w h => atoms_spec (ws := vsX7_stepsSince) B.pre w (List.mem_cons_of_mem _ h), B.returns, B.notSynchronized⟩ ⟨hK, fun q h => Or.inr h, hN⟩ x1 S s.heap [] ls ⟨hP, hD0.self, va_S.rf⟩ hl  h
def rmX_X7_worstCall_Row : Room := { frames := 0, cells := 0, slots := 0, locals := 0 }
set_option maxHeartbeats 4000000 in
set_option maxRecDepth 100000 in
theorem bX_X7_worstCall_Row_32 {p : Program} {l : Launch} {e : Env} {s : State} {m : MethodId} {args : Array Value} {below : List Frame} {meth : Method} {c : Code} {D : va_G} {cI cS cW : ClassId} {q : Nat → Nat} {A : Nat → Prop} {res : Int32} (C : zCX p s m args meth c cX7_worstCall 3 (some .int) zU RX7) (hE : zE D (zyX cI cS cW) znX A s) (K4 : (Int32 → Int32 → zSt → Option (Int32))) (hK4 : ∀ (x1 x2 : Int32) (S : zSt) (H : Heap) (locs : List Loc) (ls : Array Slot), zH D (zwX cI cS cW q) A s S H locs → lv_has ls 3 [(0, .ref (q 0)), (1, .int x1), (2, .int x2)] → K4 x1 x2 S = some res → W p l e rmX_X7_worstCall_Row s m args below meth c H locs 0 0 (zQi below D (zwX cI cS cW q) (zyX cI cS cW) A args s res S) (F0 m 4 ls [])) (x2 : Int32) (S : zSt) (H : Heap) (locs : List Loc) (ls : Array Slot) (hH : zH D (zwX cI cS cW q) A s S H locs) (hl : lv_has ls 3 [(0, .ref (q 0)), (2, .int x2)]) (h : fX_X7_worstCall_Row_32 K4 x2 S = some res) : W p l e rmX_X7_worstCall_Row s m args below meth c H locs 0 0 (zQi below D (zwX cI cS cW q) (zyX cI cS cW) A args s res S) (F0 m 32 ls []) := by
  have hx := C.1
  have hb := C.2.1
  unfold fX_X7_worstCall_Row_32 at h
  refine lv_iload_n hx hb dX7_worstCall_32 rfl (lv_at hl 1 rfl) ?_
  refine lv_istore_n (lv' := [(1, .int x2), (0, .ref (q 0)), (2, .int x2)]) hx hb dX7_worstCall_33 rfl hl (by decide) rfl (fun ls hl => ?_)
  refine lv_iinc (v := (x2 + 1)) (lv' := [(2, .int (x2 + 1)), (1, .int x2), (0, .ref (q 0))]) hx hb dX7_worstCall_34 hl (k := 2) rfl rfl (by decide) rfl (fun ls hl => ?_)
  refine lv_goto (tgt := 4) hx hb dX7_worstCall_37 (by decide) ?_
  exact hK4 x2 (x2 + 1) S H locs ls hH (lv_sub hl [2, 1, 0] rfl) h
set_option maxHeartbeats 4000000 in
set_option maxRecDepth 100000 in
theorem bX_X7_worstCall_Row_4 {p : Program} {l : Launch} {e : Env} {s : State} {m : MethodId} {args : Array Value} {below : List Frame} {meth : Method} {c : Code} {D : va_G} {cI cS cW : ClassId} {q : Nat → Nat} {A : Nat → Prop} {res : Int32} (C : zCX p s m args meth c cX7_worstCall 3 (some .int) zU RX7) (hE : zE D (zyX cI cS cW) znX A s) : ∀ (n : Nat) (x1 x2 : Int32) (S : zSt) (H : Heap) (locs : List Loc) (ls : Array Slot), zH D (zwX cI cS cW q) A s S H locs → lv_has ls 3 [(0, .ref (q 0)), (1, .int x1), (2, .int x2)] → fX_X7_worstCall_Row_4  n x1 x2 S = some res → W p l e rmX_X7_worstCall_Row s m args below meth c H locs 0 0 (zQi below D (zwX cI cS cW q) (zyX cI cS cW) A args s res S) (F0 m 4 ls []) := by
  have hx := C.1
  have hb := C.2.1
  intro n
  induction n with
  | zero =>
    intro x1 x2 S H locs ls hH hl  h
    cases h
  | succ n hK4 =>
    intro x1 x2 S H locs ls hH hl  h
    rw [fX_X7_worstCall_Row_4] at h
    refine lv_iload_n hx hb dX7_worstCall_4 rfl (lv_at hl 2 rfl) ?_
    refine lv_aload_n hx hb dX7_worstCall_5 rfl (lv_at hl 0 rfl) ?_
    refine z_get C hE hH zX_o0 rfl zh_X6 6 (by decide) zk3_18 (fun _ h9 => h9) (v := .int (S.1 12)) rfl dX7_worstCall_6 ?_
    refine lv_icmp_ge (tgt := 40) hx hb dX7_worstCall_9 (by decide) (fun c1 => ?_) (fun c1 => ?_)
    · replace h := zif_t c1 h
      refine lv_iload_n hx hb dX7_worstCall_40 rfl (lv_at hl 1 rfl) ?_
      cases h
      exact z_iret C hE hH dX7_worstCall_41
    · replace h := zif_f c1 h
      refine lv_iload_n hx hb dX7_worstCall_12 rfl (lv_at hl 1 rfl) ?_
      refine lv_iconst (v := (-1)) hx hb dX7_worstCall_13 (by decide) ?_
      refine lv_icmp_eq (tgt := 32) hx hb dX7_worstCall_14 (by decide) (fun c2 => ?_) (fun c2 => ?_)
      · replace h := zif_t c2 h
        exact bX_X7_worstCall_Row_32 C hE (fX_X7_worstCall_Row_4  n) hK4 x2 S H locs ls hH (lv_sub hl [0, 2] rfl) h
      · replace h := zif_f c2 h
        refine lv_aload_n hx hb dX7_worstCall_17 rfl (lv_at hl 0 rfl) ?_
        refine z_get C hE hH zX_o0 rfl zh_X6 4 (by decide) zk3_16 (fun _ h9 => h9) (v := .ref (q 10)) rfl dX7_worstCall_18 ?_
        refine lv_iload_n hx hb dX7_worstCall_21 rfl (lv_at hl 2 rfl) ?_
        obtain ⟨g3, h⟩ := zgd_s h
        refine z_iald C hE hH zX_a10 (t0 := 0) rfl g3 dX7_worstCall_22 ?_
        refine lv_aload_n hx hb dX7_worstCall_23 rfl (lv_at hl 0 rfl) ?_
        refine z_get C hE hH zX_o0 rfl zh_X6 4 (by decide) zk3_16 (fun _ h9 => h9) (v := .ref (q 10)) rfl dX7_worstCall_24 ?_
        refine lv_iload_n hx hb dX7_worstCall_27 rfl (lv_at hl 1 rfl) ?_
        obtain ⟨g4, h⟩ := zgd_s h
        refine z_iald C hE hH zX_a10 (t0 := 0) rfl g4 dX7_worstCall_28 ?_
        refine lv_icmp_le (tgt := 34) hx hb dX7_worstCall_29 (by decide) (fun c5 => ?_) (fun c5 => ?_)
        · replace h := zif_t c5 h
          refine lv_iinc (v := (x2 + 1)) (lv' := [(2, .int (x2 + 1)), (0, .ref (q 0)), (1, .int x1)]) hx hb dX7_worstCall_34 hl (k := 2) rfl rfl (by decide) rfl (fun ls hl => ?_)
          refine lv_goto (tgt := 4) hx hb dX7_worstCall_37 (by decide) ?_
          exact hK4 x1 (x2 + 1) S H locs ls hH (lv_sub hl [1, 2, 0] rfl) h
        · replace h := zif_f c5 h
          exact bX_X7_worstCall_Row_32 C hE (fX_X7_worstCall_Row_4  n) hK4 x2 S H locs ls hH (lv_sub hl [0, 2] rfl) h
set_option maxHeartbeats 4000000 in
set_option maxRecDepth 100000 in
theorem bX_X7_worstCall_Row {p : Program} {l : Launch} {e : Env} {s : State} {m : MethodId} {args : Array Value} {below : List Frame} {meth : Method} {c : Code} {D : va_G} {cI cS cW : ClassId} {q : Nat → Nat} {A : Nat → Prop} {res : Int32} (C : zCX p s m args meth c cX7_worstCall 3 (some .int) zU RX7) (hE : zE D (zyX cI cS cW) znX A s) (S : zSt) (H : Heap) (locs : List Loc) (ls : Array Slot) (hH : zH D (zwX cI cS cW q) A s S H locs) (hl : lv_has ls 3 [(0, .ref (q 0))]) (h : fX_X7_worstCall_Row   S = some res) : W p l e rmX_X7_worstCall_Row s m args below meth c H locs 0 0 (zQi below D (zwX cI cS cW q) (zyX cI cS cW) A args s res S) (F0 m 0 ls []) := by
  have hx := C.1
  have hb := C.2.1
  unfold fX_X7_worstCall_Row at h
  refine lv_iconst (v := (-1)) hx hb dX7_worstCall_0 (by decide) ?_
  refine lv_istore_n (lv' := [(1, .int (-1)), (0, .ref (q 0))]) hx hb dX7_worstCall_1 rfl hl (by decide) rfl (fun ls hl => ?_)
  refine lv_iconst (v := 0) hx hb dX7_worstCall_2 (by decide) ?_
  refine lv_istore_n (lv' := [(2, .int 0), (1, .int (-1)), (0, .ref (q 0))]) hx hb dX7_worstCall_3 rfl hl (by decide) rfl (fun ls hl => ?_)
  exact bX_X7_worstCall_Row_4 C hE   1000 (-1) 0 S H locs ls hH (lv_sub hl [2, 1, 0] rfl) h
set_option maxHeartbeats 4000000 in
set_option maxRecDepth 100000 in
theorem cX_X7_worstCall_Row (l : Launch) (D : va_G) (cI cS cW : ClassId) (q : Nat → Nat) (sz : Nat) (S : zSt) {res : Int32} (h : fX_X7_worstCall_Row  S = some res) : zMi l yX7_worstCall vsX7_worstCall rmX_X7_worstCall_Row [.ref (q 0)] D (zwX cI cS cW q) (zyX cI cS cW) znX sz S res S := by
  refine Met.ofW (cc := cX7_worstCall) (maxL := 3) (ret := (some .int)) (by decide) rfl ?_
  intro p e s m args below meth c s₁ B hml hv
  obtain ⟨rfl, rfl, hP, hK, hD0, hN⟩ := hv
  have hl := lv_entry ([.ref (q 0)]) (n := 3) (Nat.le_of_ble_eq_true rfl)
  rw [lg_entry_eq]
  generalize (lg_sl ([.ref (q 0)]) ++ List.replicate (3 - (lg_sl ([.ref (q 0)])).length) Slot.unset).toArray = ls at hl ⊢
  exact bX_X7_worstCall_Row ⟨B.exec, B.bytes, hml, findClass_of_methodNamed B.named, fun w h => atoms_spec (ws := vsX7_worstCall) B.pre w (List.mem_cons_of_mem _ h), B.returns, B.notSynchronized⟩ ⟨hK, fun q h => Or.inr h, hN⟩  S s.heap [] ls ⟨hP, hD0.self, va_S.rf⟩ hl  h
def rmX_X7_worstSteps_Row : Room := { frames := 1, cells := 0, slots := 0, locals := 22 }
set_option maxHeartbeats 4000000 in
set_option maxRecDepth 100000 in
theorem bX_X7_worstSteps_Row {p : Program} {l : Launch} {e : Env} {s : State} {m : MethodId} {args : Array Value} {below : List Frame} {meth : Method} {c : Code} {D : va_G} {cI cS cW : ClassId} {q : Nat → Nat} {A : Nat → Prop} {res : Int32} (C : zCX p s m args meth c cX7_worstSteps 2 (some .int) zU RX7) (hE : zE D (zyX cI cS cW) znX A s) (S : zSt) (H : Heap) (locs : List Loc) (ls : Array Slot) (hH : zH D (zwX cI cS cW q) A s S H locs) (hl : lv_has ls 2 [(0, .ref (q 0))]) (h : fX_X7_worstSteps_Row   S = some res) : W p l e rmX_X7_worstSteps_Row s m args below meth c H locs 0 0 (zQi below D (zwX cI cS cW q) (zyX cI cS cW) A args s res S) (F0 m 0 ls []) := by
  have hx := C.1
  have hb := C.2.1
  unfold fX_X7_worstSteps_Row at h
  refine lv_aload_n hx hb dX7_worstSteps_0 rfl (lv_at hl 0 rfl) ?_
  obtain ⟨u1, e2, h⟩ := zbd_s h
  refine z_calli (va_runU (As := []) (rest := []) (z_fix C) (cX_X7_worstCall_Row l D cI cS cW q H.size   S e2) (va_cwU 0 C.2.2.2.2.1 (zGU (x := ⟨"WhichShelf$Shelf", "worstCall", "()I"⟩) (owner := "WhichShelf$Shelf") zk29_18 zk29_19 zk30_1 zk29_21 zk3_13 zk29_22) rfl rfl rfl rfl ydu_X7_worstCall ⟨Nat.le_of_ble_eq_true rfl, Nat.le_of_ble_eq_true rfl⟩) (z_preV (zNmX hE) hE hH zX_o0 rfl) rfl rfl hl.1 rfl (lv_room (Nat.le_of_ble_eq_true rfl)) dX7_worstSteps_1 ⟨Nat.le_refl 0, Nat.le_refl 0⟩) hE hH (fun H locs hH => ?_)
  refine lv_istore_n (lv' := [(1, .int u1), (0, .ref (q 0))]) hx hb dX7_worstSteps_4 rfl hl (by decide) rfl (fun ls hl => ?_)
  refine lv_iload_n hx hb dX7_worstSteps_5 rfl (lv_at hl 0 rfl) ?_
  refine lv_iconst (v := (-1)) hx hb dX7_worstSteps_6 (by decide) ?_
  refine lv_icmp_ne (tgt := 14) hx hb dX7_worstSteps_7 (by decide) (fun c3 => ?_) (fun c3 => ?_)
  · replace h := zif_f c3 h
    refine lv_aload_n hx hb dX7_worstSteps_14 rfl (lv_at hl 1 rfl) ?_
    refine z_get C hE hH zX_o0 rfl zh_X6 4 (by decide) zk3_16 (fun _ h9 => h9) (v := .ref (q 10)) rfl dX7_worstSteps_15 ?_
    refine lv_iload_n hx hb dX7_worstSteps_18 rfl (lv_at hl 0 rfl) ?_
    obtain ⟨g4, h⟩ := zgd_s h
    refine z_iald C hE hH zX_a10 (t0 := 0) rfl g4 dX7_worstSteps_19 ?_
    cases h
    exact z_iret C hE hH dX7_worstSteps_20
  · replace h := zif_t c3 h
    refine lv_iconst (v := 0) hx hb dX7_worstSteps_10 (by decide) ?_
    refine lv_goto (tgt := 20) hx hb dX7_worstSteps_11 (by decide) ?_
    cases h
    exact z_iret C hE hH dX7_worstSteps_20
set_option maxHeartbeats 4000000 in
set_option maxRecDepth 100000 in
theorem cX_X7_worstSteps_Row (l : Launch) (D : va_G) (cI cS cW : ClassId) (q : Nat → Nat) (sz : Nat) (S : zSt) {res : Int32} (h : fX_X7_worstSteps_Row  S = some res) : zMi l yX7_worstSteps vsX7_worstSteps rmX_X7_worstSteps_Row [.ref (q 0)] D (zwX cI cS cW q) (zyX cI cS cW) znX sz S res S := by
  refine Met.ofW (cc := cX7_worstSteps) (maxL := 2) (ret := (some .int)) (by decide) rfl ?_
  intro p e s m args below meth c s₁ B hml hv
  obtain ⟨rfl, rfl, hP, hK, hD0, hN⟩ := hv
  have hl := lv_entry ([.ref (q 0)]) (n := 2) (Nat.le_of_ble_eq_true rfl)
  rw [lg_entry_eq]
  generalize (lg_sl ([.ref (q 0)]) ++ List.replicate (2 - (lg_sl ([.ref (q 0)])).length) Slot.unset).toArray = ls at hl ⊢
  exact bX_X7_worstSteps_Row ⟨B.exec, B.bytes, hml, findClass_of_methodNamed B.named, fun w h => atoms_spec (ws := vsX7_worstSteps) B.pre w (List.mem_cons_of_mem _ h), B.returns, B.notSynchronized⟩ ⟨hK, fun q h => Or.inr h, hN⟩  S s.heap [] ls ⟨hP, hD0.self, va_S.rf⟩ hl  h
def rmX_X7_worstCall_Sorted : Room := { frames := 0, cells := 0, slots := 0, locals := 0 }
set_option maxHeartbeats 4000000 in
set_option maxRecDepth 100000 in
theorem bX_X7_worstCall_Sorted_32 {p : Program} {l : Launch} {e : Env} {s : State} {m : MethodId} {args : Array Value} {below : List Frame} {meth : Method} {c : Code} {D : va_G} {cI cS cW : ClassId} {q : Nat → Nat} {A : Nat → Prop} {res : Int32} (C : zCX p s m args meth c cX7_worstCall 3 (some .int) zU RX7) (hE : zE D (zyX cI cS cW) znX A s) (K4 : (Int32 → Int32 → zSt → Option (Int32))) (hK4 : ∀ (x1 x2 : Int32) (S : zSt) (H : Heap) (locs : List Loc) (ls : Array Slot), zH D (zwX cI cS cW q) A s S H locs → lv_has ls 3 [(0, .ref (q 1)), (1, .int x1), (2, .int x2)] → K4 x1 x2 S = some res → W p l e rmX_X7_worstCall_Sorted s m args below meth c H locs 0 0 (zQi below D (zwX cI cS cW q) (zyX cI cS cW) A args s res S) (F0 m 4 ls [])) (x2 : Int32) (S : zSt) (H : Heap) (locs : List Loc) (ls : Array Slot) (hH : zH D (zwX cI cS cW q) A s S H locs) (hl : lv_has ls 3 [(0, .ref (q 1)), (2, .int x2)]) (h : fX_X7_worstCall_Sorted_32 K4 x2 S = some res) : W p l e rmX_X7_worstCall_Sorted s m args below meth c H locs 0 0 (zQi below D (zwX cI cS cW q) (zyX cI cS cW) A args s res S) (F0 m 32 ls []) := by
  have hx := C.1
  have hb := C.2.1
  unfold fX_X7_worstCall_Sorted_32 at h
  refine lv_iload_n hx hb dX7_worstCall_32 rfl (lv_at hl 1 rfl) ?_
  refine lv_istore_n (lv' := [(1, .int x2), (0, .ref (q 1)), (2, .int x2)]) hx hb dX7_worstCall_33 rfl hl (by decide) rfl (fun ls hl => ?_)
  refine lv_iinc (v := (x2 + 1)) (lv' := [(2, .int (x2 + 1)), (1, .int x2), (0, .ref (q 1))]) hx hb dX7_worstCall_34 hl (k := 2) rfl rfl (by decide) rfl (fun ls hl => ?_)
  refine lv_goto (tgt := 4) hx hb dX7_worstCall_37 (by decide) ?_
  exact hK4 x2 (x2 + 1) S H locs ls hH (lv_sub hl [2, 1, 0] rfl) h
set_option maxHeartbeats 4000000 in
set_option maxRecDepth 100000 in
theorem bX_X7_worstCall_Sorted_4 {p : Program} {l : Launch} {e : Env} {s : State} {m : MethodId} {args : Array Value} {below : List Frame} {meth : Method} {c : Code} {D : va_G} {cI cS cW : ClassId} {q : Nat → Nat} {A : Nat → Prop} {res : Int32} (C : zCX p s m args meth c cX7_worstCall 3 (some .int) zU RX7) (hE : zE D (zyX cI cS cW) znX A s) : ∀ (n : Nat) (x1 x2 : Int32) (S : zSt) (H : Heap) (locs : List Loc) (ls : Array Slot), zH D (zwX cI cS cW q) A s S H locs → lv_has ls 3 [(0, .ref (q 1)), (1, .int x1), (2, .int x2)] → fX_X7_worstCall_Sorted_4  n x1 x2 S = some res → W p l e rmX_X7_worstCall_Sorted s m args below meth c H locs 0 0 (zQi below D (zwX cI cS cW q) (zyX cI cS cW) A args s res S) (F0 m 4 ls []) := by
  have hx := C.1
  have hb := C.2.1
  intro n
  induction n with
  | zero =>
    intro x1 x2 S H locs ls hH hl  h
    cases h
  | succ n hK4 =>
    intro x1 x2 S H locs ls hH hl  h
    rw [fX_X7_worstCall_Sorted_4] at h
    refine lv_iload_n hx hb dX7_worstCall_4 rfl (lv_at hl 2 rfl) ?_
    refine lv_aload_n hx hb dX7_worstCall_5 rfl (lv_at hl 0 rfl) ?_
    refine z_get C hE hH zX_o1 rfl zh_X8 6 (by decide) zk3_18 (fun _ h9 => h9) (v := .int (S.1 13)) rfl dX7_worstCall_6 ?_
    refine lv_icmp_ge (tgt := 40) hx hb dX7_worstCall_9 (by decide) (fun c1 => ?_) (fun c1 => ?_)
    · replace h := zif_t c1 h
      refine lv_iload_n hx hb dX7_worstCall_40 rfl (lv_at hl 1 rfl) ?_
      cases h
      exact z_iret C hE hH dX7_worstCall_41
    · replace h := zif_f c1 h
      refine lv_iload_n hx hb dX7_worstCall_12 rfl (lv_at hl 1 rfl) ?_
      refine lv_iconst (v := (-1)) hx hb dX7_worstCall_13 (by decide) ?_
      refine lv_icmp_eq (tgt := 32) hx hb dX7_worstCall_14 (by decide) (fun c2 => ?_) (fun c2 => ?_)
      · replace h := zif_t c2 h
        exact bX_X7_worstCall_Sorted_32 C hE (fX_X7_worstCall_Sorted_4  n) hK4 x2 S H locs ls hH (lv_sub hl [0, 2] rfl) h
      · replace h := zif_f c2 h
        refine lv_aload_n hx hb dX7_worstCall_17 rfl (lv_at hl 0 rfl) ?_
        refine z_get C hE hH zX_o1 rfl zh_X8 4 (by decide) zk3_16 (fun _ h9 => h9) (v := .ref (q 11)) rfl dX7_worstCall_18 ?_
        refine lv_iload_n hx hb dX7_worstCall_21 rfl (lv_at hl 2 rfl) ?_
        obtain ⟨g3, h⟩ := zgd_s h
        refine z_iald C hE hH zX_a11 (t0 := 0) rfl g3 dX7_worstCall_22 ?_
        refine lv_aload_n hx hb dX7_worstCall_23 rfl (lv_at hl 0 rfl) ?_
        refine z_get C hE hH zX_o1 rfl zh_X8 4 (by decide) zk3_16 (fun _ h9 => h9) (v := .ref (q 11)) rfl dX7_worstCall_24 ?_
        refine lv_iload_n hx hb dX7_worstCall_27 rfl (lv_at hl 1 rfl) ?_
        obtain ⟨g4, h⟩ := zgd_s h
        refine z_iald C hE hH zX_a11 (t0 := 0) rfl g4 dX7_worstCall_28 ?_
        refine lv_icmp_le (tgt := 34) hx hb dX7_worstCall_29 (by decide) (fun c5 => ?_) (fun c5 => ?_)
        · replace h := zif_t c5 h
          refine lv_iinc (v := (x2 + 1)) (lv' := [(2, .int (x2 + 1)), (0, .ref (q 1)), (1, .int x1)]) hx hb dX7_worstCall_34 hl (k := 2) rfl rfl (by decide) rfl (fun ls hl => ?_)
          refine lv_goto (tgt := 4) hx hb dX7_worstCall_37 (by decide) ?_
          exact hK4 x1 (x2 + 1) S H locs ls hH (lv_sub hl [1, 2, 0] rfl) h
        · replace h := zif_f c5 h
          exact bX_X7_worstCall_Sorted_32 C hE (fX_X7_worstCall_Sorted_4  n) hK4 x2 S H locs ls hH (lv_sub hl [0, 2] rfl) h
set_option maxHeartbeats 4000000 in
set_option maxRecDepth 100000 in
theorem bX_X7_worstCall_Sorted {p : Program} {l : Launch} {e : Env} {s : State} {m : MethodId} {args : Array Value} {below : List Frame} {meth : Method} {c : Code} {D : va_G} {cI cS cW : ClassId} {q : Nat → Nat} {A : Nat → Prop} {res : Int32} (C : zCX p s m args meth c cX7_worstCall 3 (some .int) zU RX7) (hE : zE D (zyX cI cS cW) znX A s) (S : zSt) (H : Heap) (locs : List Loc) (ls : Array Slot) (hH : zH D (zwX cI cS cW q) A s S H locs) (hl : lv_has ls 3 [(0, .ref (q 1))]) (h : fX_X7_worstCall_Sorted   S = some res) : W p l e rmX_X7_worstCall_Sorted s m args below meth c H locs 0 0 (zQi below D (zwX cI cS cW q) (zyX cI cS cW) A args s res S) (F0 m 0 ls []) := by
  have hx := C.1
  have hb := C.2.1
  unfold fX_X7_worstCall_Sorted at h
  refine lv_iconst (v := (-1)) hx hb dX7_worstCall_0 (by decide) ?_
  refine lv_istore_n (lv' := [(1, .int (-1)), (0, .ref (q 1))]) hx hb dX7_worstCall_1 rfl hl (by decide) rfl (fun ls hl => ?_)
  refine lv_iconst (v := 0) hx hb dX7_worstCall_2 (by decide) ?_
  refine lv_istore_n (lv' := [(2, .int 0), (1, .int (-1)), (0, .ref (q 1))]) hx hb dX7_worstCall_3 rfl hl (by decide) rfl (fun ls hl => ?_)
  exact bX_X7_worstCall_Sorted_4 C hE   1000 (-1) 0 S H locs ls hH (lv_sub hl [2, 1, 0] rfl) h
set_option maxHeartbeats 4000000 in
set_option maxRecDepth 100000 in
theorem cX_X7_worstCall_Sorted (l : Launch) (D : va_G) (cI cS cW : ClassId) (q : Nat → Nat) (sz : Nat) (S : zSt) {res : Int32} (h : fX_X7_worstCall_Sorted  S = some res) : zMi l yX7_worstCall vsX7_worstCall rmX_X7_worstCall_Sorted [.ref (q 1)] D (zwX cI cS cW q) (zyX cI cS cW) znX sz S res S := by
  refine Met.ofW (cc := cX7_worstCall) (maxL := 3) (ret := (some .int)) (by decide) rfl ?_
  intro p e s m args below meth c s₁ B hml hv
  obtain ⟨rfl, rfl, hP, hK, hD0, hN⟩ := hv
  have hl := lv_entry ([.ref (q 1)]) (n := 3) (Nat.le_of_ble_eq_true rfl)
  rw [lg_entry_eq]
  generalize (lg_sl ([.ref (q 1)]) ++ List.replicate (3 - (lg_sl ([.ref (q 1)])).length) Slot.unset).toArray = ls at hl ⊢
  exact bX_X7_worstCall_Sorted ⟨B.exec, B.bytes, hml, findClass_of_methodNamed B.named, fun w h => atoms_spec (ws := vsX7_worstCall) B.pre w (List.mem_cons_of_mem _ h), B.returns, B.notSynchronized⟩ ⟨hK, fun q h => Or.inr h, hN⟩  S s.heap [] ls ⟨hP, hD0.self, va_S.rf⟩ hl  h
def rmX_X7_worstSteps_Sorted : Room := { frames := 1, cells := 0, slots := 0, locals := 22 }
set_option maxHeartbeats 4000000 in
set_option maxRecDepth 100000 in
theorem bX_X7_worstSteps_Sorted {p : Program} {l : Launch} {e : Env} {s : State} {m : MethodId} {args : Array Value} {below : List Frame} {meth : Method} {c : Code} {D : va_G} {cI cS cW : ClassId} {q : Nat → Nat} {A : Nat → Prop} {res : Int32} (C : zCX p s m args meth c cX7_worstSteps 2 (some .int) zU RX7) (hE : zE D (zyX cI cS cW) znX A s) (S : zSt) (H : Heap) (locs : List Loc) (ls : Array Slot) (hH : zH D (zwX cI cS cW q) A s S H locs) (hl : lv_has ls 2 [(0, .ref (q 1))]) (h : fX_X7_worstSteps_Sorted   S = some res) : W p l e rmX_X7_worstSteps_Sorted s m args below meth c H locs 0 0 (zQi below D (zwX cI cS cW q) (zyX cI cS cW) A args s res S) (F0 m 0 ls []) := by
  have hx := C.1
  have hb := C.2.1
  unfold fX_X7_worstSteps_Sorted at h
  refine lv_aload_n hx hb dX7_worstSteps_0 rfl (lv_at hl 0 rfl) ?_
  obtain ⟨u1, e2, h⟩ := zbd_s h
  refine z_calli (va_runU (As := []) (rest := []) (z_fix C) (cX_X7_worstCall_Sorted l D cI cS cW q H.size   S e2) (va_cwU 0 C.2.2.2.2.1 (zGU (x := ⟨"WhichShelf$Shelf", "worstCall", "()I"⟩) (owner := "WhichShelf$Shelf") zk29_18 zk29_19 zk30_2 zk29_21 zk3_13 zk29_22) rfl rfl rfl rfl ydu_X7_worstCall ⟨Nat.le_of_ble_eq_true rfl, Nat.le_of_ble_eq_true rfl⟩) (z_preV (zNmX hE) hE hH zX_o1 rfl) rfl rfl hl.1 rfl (lv_room (Nat.le_of_ble_eq_true rfl)) dX7_worstSteps_1 ⟨Nat.le_refl 0, Nat.le_refl 0⟩) hE hH (fun H locs hH => ?_)
  refine lv_istore_n (lv' := [(1, .int u1), (0, .ref (q 1))]) hx hb dX7_worstSteps_4 rfl hl (by decide) rfl (fun ls hl => ?_)
  refine lv_iload_n hx hb dX7_worstSteps_5 rfl (lv_at hl 0 rfl) ?_
  refine lv_iconst (v := (-1)) hx hb dX7_worstSteps_6 (by decide) ?_
  refine lv_icmp_ne (tgt := 14) hx hb dX7_worstSteps_7 (by decide) (fun c3 => ?_) (fun c3 => ?_)
  · replace h := zif_f c3 h
    refine lv_aload_n hx hb dX7_worstSteps_14 rfl (lv_at hl 1 rfl) ?_
    refine z_get C hE hH zX_o1 rfl zh_X8 4 (by decide) zk3_16 (fun _ h9 => h9) (v := .ref (q 11)) rfl dX7_worstSteps_15 ?_
    refine lv_iload_n hx hb dX7_worstSteps_18 rfl (lv_at hl 0 rfl) ?_
    obtain ⟨g4, h⟩ := zgd_s h
    refine z_iald C hE hH zX_a11 (t0 := 0) rfl g4 dX7_worstSteps_19 ?_
    cases h
    exact z_iret C hE hH dX7_worstSteps_20
  · replace h := zif_t c3 h
    refine lv_iconst (v := 0) hx hb dX7_worstSteps_10 (by decide) ?_
    refine lv_goto (tgt := 20) hx hb dX7_worstSteps_11 (by decide) ?_
    cases h
    exact z_iret C hE hH dX7_worstSteps_20
set_option maxHeartbeats 4000000 in
set_option maxRecDepth 100000 in
theorem cX_X7_worstSteps_Sorted (l : Launch) (D : va_G) (cI cS cW : ClassId) (q : Nat → Nat) (sz : Nat) (S : zSt) {res : Int32} (h : fX_X7_worstSteps_Sorted  S = some res) : zMi l yX7_worstSteps vsX7_worstSteps rmX_X7_worstSteps_Sorted [.ref (q 1)] D (zwX cI cS cW q) (zyX cI cS cW) znX sz S res S := by
  refine Met.ofW (cc := cX7_worstSteps) (maxL := 2) (ret := (some .int)) (by decide) rfl ?_
  intro p e s m args below meth c s₁ B hml hv
  obtain ⟨rfl, rfl, hP, hK, hD0, hN⟩ := hv
  have hl := lv_entry ([.ref (q 1)]) (n := 2) (Nat.le_of_ble_eq_true rfl)
  rw [lg_entry_eq]
  generalize (lg_sl ([.ref (q 1)]) ++ List.replicate (2 - (lg_sl ([.ref (q 1)])).length) Slot.unset).toArray = ls at hl ⊢
  exact bX_X7_worstSteps_Sorted ⟨B.exec, B.bytes, hml, findClass_of_methodNamed B.named, fun w h => atoms_spec (ws := vsX7_worstSteps) B.pre w (List.mem_cons_of_mem _ h), B.returns, B.notSynchronized⟩ ⟨hK, fun q h => Or.inr h, hN⟩  S s.heap [] ls ⟨hP, hD0.self, va_S.rf⟩ hl  h
def rmX_X7_worstCall_Hash : Room := { frames := 0, cells := 0, slots := 0, locals := 0 }
set_option maxHeartbeats 4000000 in
set_option maxRecDepth 100000 in
theorem bX_X7_worstCall_Hash_32 {p : Program} {l : Launch} {e : Env} {s : State} {m : MethodId} {args : Array Value} {below : List Frame} {meth : Method} {c : Code} {D : va_G} {cI cS cW : ClassId} {q : Nat → Nat} {A : Nat → Prop} {res : Int32} (C : zCX p s m args meth c cX7_worstCall 3 (some .int) zU RX7) (hE : zE D (zyX cI cS cW) znX A s) (K4 : (Int32 → Int32 → zSt → Option (Int32))) (hK4 : ∀ (x1 x2 : Int32) (S : zSt) (H : Heap) (locs : List Loc) (ls : Array Slot), zH D (zwX cI cS cW q) A s S H locs → lv_has ls 3 [(0, .ref (q 2)), (1, .int x1), (2, .int x2)] → K4 x1 x2 S = some res → W p l e rmX_X7_worstCall_Hash s m args below meth c H locs 0 0 (zQi below D (zwX cI cS cW q) (zyX cI cS cW) A args s res S) (F0 m 4 ls [])) (x2 : Int32) (S : zSt) (H : Heap) (locs : List Loc) (ls : Array Slot) (hH : zH D (zwX cI cS cW q) A s S H locs) (hl : lv_has ls 3 [(0, .ref (q 2)), (2, .int x2)]) (h : fX_X7_worstCall_Hash_32 K4 x2 S = some res) : W p l e rmX_X7_worstCall_Hash s m args below meth c H locs 0 0 (zQi below D (zwX cI cS cW q) (zyX cI cS cW) A args s res S) (F0 m 32 ls []) := by
  have hx := C.1
  have hb := C.2.1
  unfold fX_X7_worstCall_Hash_32 at h
  refine lv_iload_n hx hb dX7_worstCall_32 rfl (lv_at hl 1 rfl) ?_
  refine lv_istore_n (lv' := [(1, .int x2), (0, .ref (q 2)), (2, .int x2)]) hx hb dX7_worstCall_33 rfl hl (by decide) rfl (fun ls hl => ?_)
  refine lv_iinc (v := (x2 + 1)) (lv' := [(2, .int (x2 + 1)), (1, .int x2), (0, .ref (q 2))]) hx hb dX7_worstCall_34 hl (k := 2) rfl rfl (by decide) rfl (fun ls hl => ?_)
  refine lv_goto (tgt := 4) hx hb dX7_worstCall_37 (by decide) ?_
  exact hK4 x2 (x2 + 1) S H locs ls hH (lv_sub hl [2, 1, 0] rfl) h
set_option maxHeartbeats 4000000 in
set_option maxRecDepth 100000 in
theorem bX_X7_worstCall_Hash_4 {p : Program} {l : Launch} {e : Env} {s : State} {m : MethodId} {args : Array Value} {below : List Frame} {meth : Method} {c : Code} {D : va_G} {cI cS cW : ClassId} {q : Nat → Nat} {A : Nat → Prop} {res : Int32} (C : zCX p s m args meth c cX7_worstCall 3 (some .int) zU RX7) (hE : zE D (zyX cI cS cW) znX A s) : ∀ (n : Nat) (x1 x2 : Int32) (S : zSt) (H : Heap) (locs : List Loc) (ls : Array Slot), zH D (zwX cI cS cW q) A s S H locs → lv_has ls 3 [(0, .ref (q 2)), (1, .int x1), (2, .int x2)] → fX_X7_worstCall_Hash_4  n x1 x2 S = some res → W p l e rmX_X7_worstCall_Hash s m args below meth c H locs 0 0 (zQi below D (zwX cI cS cW q) (zyX cI cS cW) A args s res S) (F0 m 4 ls []) := by
  have hx := C.1
  have hb := C.2.1
  intro n
  induction n with
  | zero =>
    intro x1 x2 S H locs ls hH hl  h
    cases h
  | succ n hK4 =>
    intro x1 x2 S H locs ls hH hl  h
    rw [fX_X7_worstCall_Hash_4] at h
    refine lv_iload_n hx hb dX7_worstCall_4 rfl (lv_at hl 2 rfl) ?_
    refine lv_aload_n hx hb dX7_worstCall_5 rfl (lv_at hl 0 rfl) ?_
    refine z_get C hE hH zX_o2 rfl zh_X2 6 (by decide) zk3_18 (fun _ h9 => h9) (v := .int (S.1 14)) rfl dX7_worstCall_6 ?_
    refine lv_icmp_ge (tgt := 40) hx hb dX7_worstCall_9 (by decide) (fun c1 => ?_) (fun c1 => ?_)
    · replace h := zif_t c1 h
      refine lv_iload_n hx hb dX7_worstCall_40 rfl (lv_at hl 1 rfl) ?_
      cases h
      exact z_iret C hE hH dX7_worstCall_41
    · replace h := zif_f c1 h
      refine lv_iload_n hx hb dX7_worstCall_12 rfl (lv_at hl 1 rfl) ?_
      refine lv_iconst (v := (-1)) hx hb dX7_worstCall_13 (by decide) ?_
      refine lv_icmp_eq (tgt := 32) hx hb dX7_worstCall_14 (by decide) (fun c2 => ?_) (fun c2 => ?_)
      · replace h := zif_t c2 h
        exact bX_X7_worstCall_Hash_32 C hE (fX_X7_worstCall_Hash_4  n) hK4 x2 S H locs ls hH (lv_sub hl [0, 2] rfl) h
      · replace h := zif_f c2 h
        refine lv_aload_n hx hb dX7_worstCall_17 rfl (lv_at hl 0 rfl) ?_
        refine z_get C hE hH zX_o2 rfl zh_X2 4 (by decide) zk3_16 (fun _ h9 => h9) (v := .ref (q 12)) rfl dX7_worstCall_18 ?_
        refine lv_iload_n hx hb dX7_worstCall_21 rfl (lv_at hl 2 rfl) ?_
        obtain ⟨g3, h⟩ := zgd_s h
        refine z_iald C hE hH zX_a12 (t0 := 0) rfl g3 dX7_worstCall_22 ?_
        refine lv_aload_n hx hb dX7_worstCall_23 rfl (lv_at hl 0 rfl) ?_
        refine z_get C hE hH zX_o2 rfl zh_X2 4 (by decide) zk3_16 (fun _ h9 => h9) (v := .ref (q 12)) rfl dX7_worstCall_24 ?_
        refine lv_iload_n hx hb dX7_worstCall_27 rfl (lv_at hl 1 rfl) ?_
        obtain ⟨g4, h⟩ := zgd_s h
        refine z_iald C hE hH zX_a12 (t0 := 0) rfl g4 dX7_worstCall_28 ?_
        refine lv_icmp_le (tgt := 34) hx hb dX7_worstCall_29 (by decide) (fun c5 => ?_) (fun c5 => ?_)
        · replace h := zif_t c5 h
          refine lv_iinc (v := (x2 + 1)) (lv' := [(2, .int (x2 + 1)), (0, .ref (q 2)), (1, .int x1)]) hx hb dX7_worstCall_34 hl (k := 2) rfl rfl (by decide) rfl (fun ls hl => ?_)
          refine lv_goto (tgt := 4) hx hb dX7_worstCall_37 (by decide) ?_
          exact hK4 x1 (x2 + 1) S H locs ls hH (lv_sub hl [1, 2, 0] rfl) h
        · replace h := zif_f c5 h
          exact bX_X7_worstCall_Hash_32 C hE (fX_X7_worstCall_Hash_4  n) hK4 x2 S H locs ls hH (lv_sub hl [0, 2] rfl) h
set_option maxHeartbeats 4000000 in
set_option maxRecDepth 100000 in
theorem bX_X7_worstCall_Hash {p : Program} {l : Launch} {e : Env} {s : State} {m : MethodId} {args : Array Value} {below : List Frame} {meth : Method} {c : Code} {D : va_G} {cI cS cW : ClassId} {q : Nat → Nat} {A : Nat → Prop} {res : Int32} (C : zCX p s m args meth c cX7_worstCall 3 (some .int) zU RX7) (hE : zE D (zyX cI cS cW) znX A s) (S : zSt) (H : Heap) (locs : List Loc) (ls : Array Slot) (hH : zH D (zwX cI cS cW q) A s S H locs) (hl : lv_has ls 3 [(0, .ref (q 2))]) (h : fX_X7_worstCall_Hash   S = some res) : W p l e rmX_X7_worstCall_Hash s m args below meth c H locs 0 0 (zQi below D (zwX cI cS cW q) (zyX cI cS cW) A args s res S) (F0 m 0 ls []) := by
  have hx := C.1
  have hb := C.2.1
  unfold fX_X7_worstCall_Hash at h
  refine lv_iconst (v := (-1)) hx hb dX7_worstCall_0 (by decide) ?_
  refine lv_istore_n (lv' := [(1, .int (-1)), (0, .ref (q 2))]) hx hb dX7_worstCall_1 rfl hl (by decide) rfl (fun ls hl => ?_)
  refine lv_iconst (v := 0) hx hb dX7_worstCall_2 (by decide) ?_
  refine lv_istore_n (lv' := [(2, .int 0), (1, .int (-1)), (0, .ref (q 2))]) hx hb dX7_worstCall_3 rfl hl (by decide) rfl (fun ls hl => ?_)
  exact bX_X7_worstCall_Hash_4 C hE   1000 (-1) 0 S H locs ls hH (lv_sub hl [2, 1, 0] rfl) h
set_option maxHeartbeats 4000000 in
set_option maxRecDepth 100000 in
theorem cX_X7_worstCall_Hash (l : Launch) (D : va_G) (cI cS cW : ClassId) (q : Nat → Nat) (sz : Nat) (S : zSt) {res : Int32} (h : fX_X7_worstCall_Hash  S = some res) : zMi l yX7_worstCall vsX7_worstCall rmX_X7_worstCall_Hash [.ref (q 2)] D (zwX cI cS cW q) (zyX cI cS cW) znX sz S res S := by
  refine Met.ofW (cc := cX7_worstCall) (maxL := 3) (ret := (some .int)) (by decide) rfl ?_
  intro p e s m args below meth c s₁ B hml hv
  obtain ⟨rfl, rfl, hP, hK, hD0, hN⟩ := hv
  have hl := lv_entry ([.ref (q 2)]) (n := 3) (Nat.le_of_ble_eq_true rfl)
  rw [lg_entry_eq]
  generalize (lg_sl ([.ref (q 2)]) ++ List.replicate (3 - (lg_sl ([.ref (q 2)])).length) Slot.unset).toArray = ls at hl ⊢
  exact bX_X7_worstCall_Hash ⟨B.exec, B.bytes, hml, findClass_of_methodNamed B.named, fun w h => atoms_spec (ws := vsX7_worstCall) B.pre w (List.mem_cons_of_mem _ h), B.returns, B.notSynchronized⟩ ⟨hK, fun q h => Or.inr h, hN⟩  S s.heap [] ls ⟨hP, hD0.self, va_S.rf⟩ hl  h
def rmX_X7_worstSteps_Hash : Room := { frames := 1, cells := 0, slots := 0, locals := 22 }
set_option maxHeartbeats 4000000 in
set_option maxRecDepth 100000 in
theorem bX_X7_worstSteps_Hash {p : Program} {l : Launch} {e : Env} {s : State} {m : MethodId} {args : Array Value} {below : List Frame} {meth : Method} {c : Code} {D : va_G} {cI cS cW : ClassId} {q : Nat → Nat} {A : Nat → Prop} {res : Int32} (C : zCX p s m args meth c cX7_worstSteps 2 (some .int) zU RX7) (hE : zE D (zyX cI cS cW) znX A s) (S : zSt) (H : Heap) (locs : List Loc) (ls : Array Slot) (hH : zH D (zwX cI cS cW q) A s S H locs) (hl : lv_has ls 2 [(0, .ref (q 2))]) (h : fX_X7_worstSteps_Hash   S = some res) : W p l e rmX_X7_worstSteps_Hash s m args below meth c H locs 0 0 (zQi below D (zwX cI cS cW q) (zyX cI cS cW) A args s res S) (F0 m 0 ls []) := by
  have hx := C.1
  have hb := C.2.1
  unfold fX_X7_worstSteps_Hash at h
  refine lv_aload_n hx hb dX7_worstSteps_0 rfl (lv_at hl 0 rfl) ?_
  obtain ⟨u1, e2, h⟩ := zbd_s h
  refine z_calli (va_runU (As := []) (rest := []) (z_fix C) (cX_X7_worstCall_Hash l D cI cS cW q H.size   S e2) (va_cwU 0 C.2.2.2.2.1 (zGU (x := ⟨"WhichShelf$Shelf", "worstCall", "()I"⟩) (owner := "WhichShelf$Shelf") zk29_18 zk29_19 zk29_23 zk29_21 zk3_13 zk29_22) rfl rfl rfl rfl ydu_X7_worstCall ⟨Nat.le_of_ble_eq_true rfl, Nat.le_of_ble_eq_true rfl⟩) (z_preV (zNmX hE) hE hH zX_o2 rfl) rfl rfl hl.1 rfl (lv_room (Nat.le_of_ble_eq_true rfl)) dX7_worstSteps_1 ⟨Nat.le_refl 0, Nat.le_refl 0⟩) hE hH (fun H locs hH => ?_)
  refine lv_istore_n (lv' := [(1, .int u1), (0, .ref (q 2))]) hx hb dX7_worstSteps_4 rfl hl (by decide) rfl (fun ls hl => ?_)
  refine lv_iload_n hx hb dX7_worstSteps_5 rfl (lv_at hl 0 rfl) ?_
  refine lv_iconst (v := (-1)) hx hb dX7_worstSteps_6 (by decide) ?_
  refine lv_icmp_ne (tgt := 14) hx hb dX7_worstSteps_7 (by decide) (fun c3 => ?_) (fun c3 => ?_)
  · replace h := zif_f c3 h
    refine lv_aload_n hx hb dX7_worstSteps_14 rfl (lv_at hl 1 rfl) ?_
    refine z_get C hE hH zX_o2 rfl zh_X2 4 (by decide) zk3_16 (fun _ h9 => h9) (v := .ref (q 12)) rfl dX7_worstSteps_15 ?_
    refine lv_iload_n hx hb dX7_worstSteps_18 rfl (lv_at hl 0 rfl) ?_
    obtain ⟨g4, h⟩ := zgd_s h
    refine z_iald C hE hH zX_a12 (t0 := 0) rfl g4 dX7_worstSteps_19 ?_
    cases h
    exact z_iret C hE hH dX7_worstSteps_20
  · replace h := zif_t c3 h
    refine lv_iconst (v := 0) hx hb dX7_worstSteps_10 (by decide) ?_
    refine lv_goto (tgt := 20) hx hb dX7_worstSteps_11 (by decide) ?_
    cases h
    exact z_iret C hE hH dX7_worstSteps_20
set_option maxHeartbeats 4000000 in
set_option maxRecDepth 100000 in
theorem cX_X7_worstSteps_Hash (l : Launch) (D : va_G) (cI cS cW : ClassId) (q : Nat → Nat) (sz : Nat) (S : zSt) {res : Int32} (h : fX_X7_worstSteps_Hash  S = some res) : zMi l yX7_worstSteps vsX7_worstSteps rmX_X7_worstSteps_Hash [.ref (q 2)] D (zwX cI cS cW q) (zyX cI cS cW) znX sz S res S := by
  refine Met.ofW (cc := cX7_worstSteps) (maxL := 2) (ret := (some .int)) (by decide) rfl ?_
  intro p e s m args below meth c s₁ B hml hv
  obtain ⟨rfl, rfl, hP, hK, hD0, hN⟩ := hv
  have hl := lv_entry ([.ref (q 2)]) (n := 2) (Nat.le_of_ble_eq_true rfl)
  rw [lg_entry_eq]
  generalize (lg_sl ([.ref (q 2)]) ++ List.replicate (2 - (lg_sl ([.ref (q 2)])).length) Slot.unset).toArray = ls at hl ⊢
  exact bX_X7_worstSteps_Hash ⟨B.exec, B.bytes, hml, findClass_of_methodNamed B.named, fun w h => atoms_spec (ws := vsX7_worstSteps) B.pre w (List.mem_cons_of_mem _ h), B.returns, B.notSynchronized⟩ ⟨hK, fun q h => Or.inr h, hN⟩  S s.heap [] ls ⟨hP, hD0.self, va_S.rf⟩ hl  h
def rmX_X7_worstCall_Tree : Room := { frames := 0, cells := 0, slots := 0, locals := 0 }
set_option maxHeartbeats 4000000 in
set_option maxRecDepth 100000 in
theorem bX_X7_worstCall_Tree_32 {p : Program} {l : Launch} {e : Env} {s : State} {m : MethodId} {args : Array Value} {below : List Frame} {meth : Method} {c : Code} {D : va_G} {cI cS cW : ClassId} {q : Nat → Nat} {A : Nat → Prop} {res : Int32} (C : zCX p s m args meth c cX7_worstCall 3 (some .int) zU RX7) (hE : zE D (zyX cI cS cW) znX A s) (K4 : (Int32 → Int32 → zSt → Option (Int32))) (hK4 : ∀ (x1 x2 : Int32) (S : zSt) (H : Heap) (locs : List Loc) (ls : Array Slot), zH D (zwX cI cS cW q) A s S H locs → lv_has ls 3 [(0, .ref (q 3)), (1, .int x1), (2, .int x2)] → K4 x1 x2 S = some res → W p l e rmX_X7_worstCall_Tree s m args below meth c H locs 0 0 (zQi below D (zwX cI cS cW q) (zyX cI cS cW) A args s res S) (F0 m 4 ls [])) (x2 : Int32) (S : zSt) (H : Heap) (locs : List Loc) (ls : Array Slot) (hH : zH D (zwX cI cS cW q) A s S H locs) (hl : lv_has ls 3 [(0, .ref (q 3)), (2, .int x2)]) (h : fX_X7_worstCall_Tree_32 K4 x2 S = some res) : W p l e rmX_X7_worstCall_Tree s m args below meth c H locs 0 0 (zQi below D (zwX cI cS cW q) (zyX cI cS cW) A args s res S) (F0 m 32 ls []) := by
  have hx := C.1
  have hb := C.2.1
  unfold fX_X7_worstCall_Tree_32 at h
  refine lv_iload_n hx hb dX7_worstCall_32 rfl (lv_at hl 1 rfl) ?_
  refine lv_istore_n (lv' := [(1, .int x2), (0, .ref (q 3)), (2, .int x2)]) hx hb dX7_worstCall_33 rfl hl (by decide) rfl (fun ls hl => ?_)
  refine lv_iinc (v := (x2 + 1)) (lv' := [(2, .int (x2 + 1)), (1, .int x2), (0, .ref (q 3))]) hx hb dX7_worstCall_34 hl (k := 2) rfl rfl (by decide) rfl (fun ls hl => ?_)
  refine lv_goto (tgt := 4) hx hb dX7_worstCall_37 (by decide) ?_
  exact hK4 x2 (x2 + 1) S H locs ls hH (lv_sub hl [2, 1, 0] rfl) h
set_option maxHeartbeats 4000000 in
set_option maxRecDepth 100000 in
theorem bX_X7_worstCall_Tree_4 {p : Program} {l : Launch} {e : Env} {s : State} {m : MethodId} {args : Array Value} {below : List Frame} {meth : Method} {c : Code} {D : va_G} {cI cS cW : ClassId} {q : Nat → Nat} {A : Nat → Prop} {res : Int32} (C : zCX p s m args meth c cX7_worstCall 3 (some .int) zU RX7) (hE : zE D (zyX cI cS cW) znX A s) : ∀ (n : Nat) (x1 x2 : Int32) (S : zSt) (H : Heap) (locs : List Loc) (ls : Array Slot), zH D (zwX cI cS cW q) A s S H locs → lv_has ls 3 [(0, .ref (q 3)), (1, .int x1), (2, .int x2)] → fX_X7_worstCall_Tree_4  n x1 x2 S = some res → W p l e rmX_X7_worstCall_Tree s m args below meth c H locs 0 0 (zQi below D (zwX cI cS cW q) (zyX cI cS cW) A args s res S) (F0 m 4 ls []) := by
  have hx := C.1
  have hb := C.2.1
  intro n
  induction n with
  | zero =>
    intro x1 x2 S H locs ls hH hl  h
    cases h
  | succ n hK4 =>
    intro x1 x2 S H locs ls hH hl  h
    rw [fX_X7_worstCall_Tree_4] at h
    refine lv_iload_n hx hb dX7_worstCall_4 rfl (lv_at hl 2 rfl) ?_
    refine lv_aload_n hx hb dX7_worstCall_5 rfl (lv_at hl 0 rfl) ?_
    refine z_get C hE hH zX_o3 rfl zh_X9 3 (by decide) zk3_18 (fun _ h9 => h9) (v := .int (S.1 15)) rfl dX7_worstCall_6 ?_
    refine lv_icmp_ge (tgt := 40) hx hb dX7_worstCall_9 (by decide) (fun c1 => ?_) (fun c1 => ?_)
    · replace h := zif_t c1 h
      refine lv_iload_n hx hb dX7_worstCall_40 rfl (lv_at hl 1 rfl) ?_
      cases h
      exact z_iret C hE hH dX7_worstCall_41
    · replace h := zif_f c1 h
      refine lv_iload_n hx hb dX7_worstCall_12 rfl (lv_at hl 1 rfl) ?_
      refine lv_iconst (v := (-1)) hx hb dX7_worstCall_13 (by decide) ?_
      refine lv_icmp_eq (tgt := 32) hx hb dX7_worstCall_14 (by decide) (fun c2 => ?_) (fun c2 => ?_)
      · replace h := zif_t c2 h
        exact bX_X7_worstCall_Tree_32 C hE (fX_X7_worstCall_Tree_4  n) hK4 x2 S H locs ls hH (lv_sub hl [0, 2] rfl) h
      · replace h := zif_f c2 h
        refine lv_aload_n hx hb dX7_worstCall_17 rfl (lv_at hl 0 rfl) ?_
        refine z_get C hE hH zX_o3 rfl zh_X9 1 (by decide) zk3_16 (fun _ h9 => h9) (v := .ref (q 13)) rfl dX7_worstCall_18 ?_
        refine lv_iload_n hx hb dX7_worstCall_21 rfl (lv_at hl 2 rfl) ?_
        obtain ⟨g3, h⟩ := zgd_s h
        refine z_iald C hE hH zX_a13 (t0 := 0) rfl g3 dX7_worstCall_22 ?_
        refine lv_aload_n hx hb dX7_worstCall_23 rfl (lv_at hl 0 rfl) ?_
        refine z_get C hE hH zX_o3 rfl zh_X9 1 (by decide) zk3_16 (fun _ h9 => h9) (v := .ref (q 13)) rfl dX7_worstCall_24 ?_
        refine lv_iload_n hx hb dX7_worstCall_27 rfl (lv_at hl 1 rfl) ?_
        obtain ⟨g4, h⟩ := zgd_s h
        refine z_iald C hE hH zX_a13 (t0 := 0) rfl g4 dX7_worstCall_28 ?_
        refine lv_icmp_le (tgt := 34) hx hb dX7_worstCall_29 (by decide) (fun c5 => ?_) (fun c5 => ?_)
        · replace h := zif_t c5 h
          refine lv_iinc (v := (x2 + 1)) (lv' := [(2, .int (x2 + 1)), (0, .ref (q 3)), (1, .int x1)]) hx hb dX7_worstCall_34 hl (k := 2) rfl rfl (by decide) rfl (fun ls hl => ?_)
          refine lv_goto (tgt := 4) hx hb dX7_worstCall_37 (by decide) ?_
          exact hK4 x1 (x2 + 1) S H locs ls hH (lv_sub hl [1, 2, 0] rfl) h
        · replace h := zif_f c5 h
          exact bX_X7_worstCall_Tree_32 C hE (fX_X7_worstCall_Tree_4  n) hK4 x2 S H locs ls hH (lv_sub hl [0, 2] rfl) h
set_option maxHeartbeats 4000000 in
set_option maxRecDepth 100000 in
theorem bX_X7_worstCall_Tree {p : Program} {l : Launch} {e : Env} {s : State} {m : MethodId} {args : Array Value} {below : List Frame} {meth : Method} {c : Code} {D : va_G} {cI cS cW : ClassId} {q : Nat → Nat} {A : Nat → Prop} {res : Int32} (C : zCX p s m args meth c cX7_worstCall 3 (some .int) zU RX7) (hE : zE D (zyX cI cS cW) znX A s) (S : zSt) (H : Heap) (locs : List Loc) (ls : Array Slot) (hH : zH D (zwX cI cS cW q) A s S H locs) (hl : lv_has ls 3 [(0, .ref (q 3))]) (h : fX_X7_worstCall_Tree   S = some res) : W p l e rmX_X7_worstCall_Tree s m args below meth c H locs 0 0 (zQi below D (zwX cI cS cW q) (zyX cI cS cW) A args s res S) (F0 m 0 ls []) := by
  have hx := C.1
  have hb := C.2.1
  unfold fX_X7_worstCall_Tree at h
  refine lv_iconst (v := (-1)) hx hb dX7_worstCall_0 (by decide) ?_
  refine lv_istore_n (lv' := [(1, .int (-1)), (0, .ref (q 3))]) hx hb dX7_worstCall_1 rfl hl (by decide) rfl (fun ls hl => ?_)
  refine lv_iconst (v := 0) hx hb dX7_worstCall_2 (by decide) ?_
  refine lv_istore_n (lv' := [(2, .int 0), (1, .int (-1)), (0, .ref (q 3))]) hx hb dX7_worstCall_3 rfl hl (by decide) rfl (fun ls hl => ?_)
  exact bX_X7_worstCall_Tree_4 C hE   1000 (-1) 0 S H locs ls hH (lv_sub hl [2, 1, 0] rfl) h
set_option maxHeartbeats 4000000 in
set_option maxRecDepth 100000 in
theorem cX_X7_worstCall_Tree (l : Launch) (D : va_G) (cI cS cW : ClassId) (q : Nat → Nat) (sz : Nat) (S : zSt) {res : Int32} (h : fX_X7_worstCall_Tree  S = some res) : zMi l yX7_worstCall vsX7_worstCall rmX_X7_worstCall_Tree [.ref (q 3)] D (zwX cI cS cW q) (zyX cI cS cW) znX sz S res S := by
  refine Met.ofW (cc := cX7_worstCall) (maxL := 3) (ret := (some .int)) (by decide) rfl ?_
  intro p e s m args below meth c s₁ B hml hv
  obtain ⟨rfl, rfl, hP, hK, hD0, hN⟩ := hv
  have hl := lv_entry ([.ref (q 3)]) (n := 3) (Nat.le_of_ble_eq_true rfl)
  rw [lg_entry_eq]
  generalize (lg_sl ([.ref (q 3)]) ++ List.replicate (3 - (lg_sl ([.ref (q 3)])).length) Slot.unset).toArray = ls at hl ⊢
  exact bX_X7_worstCall_Tree ⟨B.exec, B.bytes, hml, findClass_of_methodNamed B.named, fun w h => atoms_spec (ws := vsX7_worstCall) B.pre w (List.mem_cons_of_mem _ h), B.returns, B.notSynchronized⟩ ⟨hK, fun q h => Or.inr h, hN⟩  S s.heap [] ls ⟨hP, hD0.self, va_S.rf⟩ hl  h
def rmX_X7_worstSteps_Tree : Room := { frames := 1, cells := 0, slots := 0, locals := 22 }
set_option maxHeartbeats 4000000 in
set_option maxRecDepth 100000 in
theorem bX_X7_worstSteps_Tree {p : Program} {l : Launch} {e : Env} {s : State} {m : MethodId} {args : Array Value} {below : List Frame} {meth : Method} {c : Code} {D : va_G} {cI cS cW : ClassId} {q : Nat → Nat} {A : Nat → Prop} {res : Int32} (C : zCX p s m args meth c cX7_worstSteps 2 (some .int) zU RX7) (hE : zE D (zyX cI cS cW) znX A s) (S : zSt) (H : Heap) (locs : List Loc) (ls : Array Slot) (hH : zH D (zwX cI cS cW q) A s S H locs) (hl : lv_has ls 2 [(0, .ref (q 3))]) (h : fX_X7_worstSteps_Tree   S = some res) : W p l e rmX_X7_worstSteps_Tree s m args below meth c H locs 0 0 (zQi below D (zwX cI cS cW q) (zyX cI cS cW) A args s res S) (F0 m 0 ls []) := by
  have hx := C.1
  have hb := C.2.1
  unfold fX_X7_worstSteps_Tree at h
  refine lv_aload_n hx hb dX7_worstSteps_0 rfl (lv_at hl 0 rfl) ?_
  obtain ⟨u1, e2, h⟩ := zbd_s h
  refine z_calli (va_runU (As := []) (rest := []) (z_fix C) (cX_X7_worstCall_Tree l D cI cS cW q H.size   S e2) (va_cwU 0 C.2.2.2.2.1 (zGU (x := ⟨"WhichShelf$Shelf", "worstCall", "()I"⟩) (owner := "WhichShelf$Shelf") zk29_18 zk29_19 zk30_3 zk29_21 zk3_13 zk29_22) rfl rfl rfl rfl ydu_X7_worstCall ⟨Nat.le_of_ble_eq_true rfl, Nat.le_of_ble_eq_true rfl⟩) (z_preV (zNmX hE) hE hH zX_o3 rfl) rfl rfl hl.1 rfl (lv_room (Nat.le_of_ble_eq_true rfl)) dX7_worstSteps_1 ⟨Nat.le_refl 0, Nat.le_refl 0⟩) hE hH (fun H locs hH => ?_)
  refine lv_istore_n (lv' := [(1, .int u1), (0, .ref (q 3))]) hx hb dX7_worstSteps_4 rfl hl (by decide) rfl (fun ls hl => ?_)
  refine lv_iload_n hx hb dX7_worstSteps_5 rfl (lv_at hl 0 rfl) ?_
  refine lv_iconst (v := (-1)) hx hb dX7_worstSteps_6 (by decide) ?_
  refine lv_icmp_ne (tgt := 14) hx hb dX7_worstSteps_7 (by decide) (fun c3 => ?_) (fun c3 => ?_)
  · replace h := zif_f c3 h
    refine lv_aload_n hx hb dX7_worstSteps_14 rfl (lv_at hl 1 rfl) ?_
    refine z_get C hE hH zX_o3 rfl zh_X9 1 (by decide) zk3_16 (fun _ h9 => h9) (v := .ref (q 13)) rfl dX7_worstSteps_15 ?_
    refine lv_iload_n hx hb dX7_worstSteps_18 rfl (lv_at hl 0 rfl) ?_
    obtain ⟨g4, h⟩ := zgd_s h
    refine z_iald C hE hH zX_a13 (t0 := 0) rfl g4 dX7_worstSteps_19 ?_
    cases h
    exact z_iret C hE hH dX7_worstSteps_20
  · replace h := zif_t c3 h
    refine lv_iconst (v := 0) hx hb dX7_worstSteps_10 (by decide) ?_
    refine lv_goto (tgt := 20) hx hb dX7_worstSteps_11 (by decide) ?_
    cases h
    exact z_iret C hE hH dX7_worstSteps_20
set_option maxHeartbeats 4000000 in
set_option maxRecDepth 100000 in
theorem cX_X7_worstSteps_Tree (l : Launch) (D : va_G) (cI cS cW : ClassId) (q : Nat → Nat) (sz : Nat) (S : zSt) {res : Int32} (h : fX_X7_worstSteps_Tree  S = some res) : zMi l yX7_worstSteps vsX7_worstSteps rmX_X7_worstSteps_Tree [.ref (q 3)] D (zwX cI cS cW q) (zyX cI cS cW) znX sz S res S := by
  refine Met.ofW (cc := cX7_worstSteps) (maxL := 2) (ret := (some .int)) (by decide) rfl ?_
  intro p e s m args below meth c s₁ B hml hv
  obtain ⟨rfl, rfl, hP, hK, hD0, hN⟩ := hv
  have hl := lv_entry ([.ref (q 3)]) (n := 2) (Nat.le_of_ble_eq_true rfl)
  rw [lg_entry_eq]
  generalize (lg_sl ([.ref (q 3)]) ++ List.replicate (2 - (lg_sl ([.ref (q 3)])).length) Slot.unset).toArray = ls at hl ⊢
  exact bX_X7_worstSteps_Tree ⟨B.exec, B.bytes, hml, findClass_of_methodNamed B.named, fun w h => atoms_spec (ws := vsX7_worstSteps) B.pre w (List.mem_cons_of_mem _ h), B.returns, B.notSynchronized⟩ ⟨hK, fun q h => Or.inr h, hN⟩  S s.heap [] ls ⟨hP, hD0.self, va_S.rf⟩ hl  h
def rmX_X7_worstCall_Heap : Room := { frames := 0, cells := 0, slots := 0, locals := 0 }
set_option maxHeartbeats 4000000 in
set_option maxRecDepth 100000 in
theorem bX_X7_worstCall_Heap_32 {p : Program} {l : Launch} {e : Env} {s : State} {m : MethodId} {args : Array Value} {below : List Frame} {meth : Method} {c : Code} {D : va_G} {cI cS cW : ClassId} {q : Nat → Nat} {A : Nat → Prop} {res : Int32} (C : zCX p s m args meth c cX7_worstCall 3 (some .int) zU RX7) (hE : zE D (zyX cI cS cW) znX A s) (K4 : (Int32 → Int32 → zSt → Option (Int32))) (hK4 : ∀ (x1 x2 : Int32) (S : zSt) (H : Heap) (locs : List Loc) (ls : Array Slot), zH D (zwX cI cS cW q) A s S H locs → lv_has ls 3 [(0, .ref (q 4)), (1, .int x1), (2, .int x2)] → K4 x1 x2 S = some res → W p l e rmX_X7_worstCall_Heap s m args below meth c H locs 0 0 (zQi below D (zwX cI cS cW q) (zyX cI cS cW) A args s res S) (F0 m 4 ls [])) (x2 : Int32) (S : zSt) (H : Heap) (locs : List Loc) (ls : Array Slot) (hH : zH D (zwX cI cS cW q) A s S H locs) (hl : lv_has ls 3 [(0, .ref (q 4)), (2, .int x2)]) (h : fX_X7_worstCall_Heap_32 K4 x2 S = some res) : W p l e rmX_X7_worstCall_Heap s m args below meth c H locs 0 0 (zQi below D (zwX cI cS cW q) (zyX cI cS cW) A args s res S) (F0 m 32 ls []) := by
  have hx := C.1
  have hb := C.2.1
  unfold fX_X7_worstCall_Heap_32 at h
  refine lv_iload_n hx hb dX7_worstCall_32 rfl (lv_at hl 1 rfl) ?_
  refine lv_istore_n (lv' := [(1, .int x2), (0, .ref (q 4)), (2, .int x2)]) hx hb dX7_worstCall_33 rfl hl (by decide) rfl (fun ls hl => ?_)
  refine lv_iinc (v := (x2 + 1)) (lv' := [(2, .int (x2 + 1)), (1, .int x2), (0, .ref (q 4))]) hx hb dX7_worstCall_34 hl (k := 2) rfl rfl (by decide) rfl (fun ls hl => ?_)
  refine lv_goto (tgt := 4) hx hb dX7_worstCall_37 (by decide) ?_
  exact hK4 x2 (x2 + 1) S H locs ls hH (lv_sub hl [2, 1, 0] rfl) h
set_option maxHeartbeats 4000000 in
set_option maxRecDepth 100000 in
theorem bX_X7_worstCall_Heap_4 {p : Program} {l : Launch} {e : Env} {s : State} {m : MethodId} {args : Array Value} {below : List Frame} {meth : Method} {c : Code} {D : va_G} {cI cS cW : ClassId} {q : Nat → Nat} {A : Nat → Prop} {res : Int32} (C : zCX p s m args meth c cX7_worstCall 3 (some .int) zU RX7) (hE : zE D (zyX cI cS cW) znX A s) : ∀ (n : Nat) (x1 x2 : Int32) (S : zSt) (H : Heap) (locs : List Loc) (ls : Array Slot), zH D (zwX cI cS cW q) A s S H locs → lv_has ls 3 [(0, .ref (q 4)), (1, .int x1), (2, .int x2)] → fX_X7_worstCall_Heap_4  n x1 x2 S = some res → W p l e rmX_X7_worstCall_Heap s m args below meth c H locs 0 0 (zQi below D (zwX cI cS cW q) (zyX cI cS cW) A args s res S) (F0 m 4 ls []) := by
  have hx := C.1
  have hb := C.2.1
  intro n
  induction n with
  | zero =>
    intro x1 x2 S H locs ls hH hl  h
    cases h
  | succ n hK4 =>
    intro x1 x2 S H locs ls hH hl  h
    rw [fX_X7_worstCall_Heap_4] at h
    refine lv_iload_n hx hb dX7_worstCall_4 rfl (lv_at hl 2 rfl) ?_
    refine lv_aload_n hx hb dX7_worstCall_5 rfl (lv_at hl 0 rfl) ?_
    refine z_get C hE hH zX_o4 rfl zh_X3 6 (by decide) zk3_18 (fun _ h9 => h9) (v := .int (S.1 16)) rfl dX7_worstCall_6 ?_
    refine lv_icmp_ge (tgt := 40) hx hb dX7_worstCall_9 (by decide) (fun c1 => ?_) (fun c1 => ?_)
    · replace h := zif_t c1 h
      refine lv_iload_n hx hb dX7_worstCall_40 rfl (lv_at hl 1 rfl) ?_
      cases h
      exact z_iret C hE hH dX7_worstCall_41
    · replace h := zif_f c1 h
      refine lv_iload_n hx hb dX7_worstCall_12 rfl (lv_at hl 1 rfl) ?_
      refine lv_iconst (v := (-1)) hx hb dX7_worstCall_13 (by decide) ?_
      refine lv_icmp_eq (tgt := 32) hx hb dX7_worstCall_14 (by decide) (fun c2 => ?_) (fun c2 => ?_)
      · replace h := zif_t c2 h
        exact bX_X7_worstCall_Heap_32 C hE (fX_X7_worstCall_Heap_4  n) hK4 x2 S H locs ls hH (lv_sub hl [0, 2] rfl) h
      · replace h := zif_f c2 h
        refine lv_aload_n hx hb dX7_worstCall_17 rfl (lv_at hl 0 rfl) ?_
        refine z_get C hE hH zX_o4 rfl zh_X3 4 (by decide) zk3_16 (fun _ h9 => h9) (v := .ref (q 14)) rfl dX7_worstCall_18 ?_
        refine lv_iload_n hx hb dX7_worstCall_21 rfl (lv_at hl 2 rfl) ?_
        obtain ⟨g3, h⟩ := zgd_s h
        refine z_iald C hE hH zX_a14 (t0 := 0) rfl g3 dX7_worstCall_22 ?_
        refine lv_aload_n hx hb dX7_worstCall_23 rfl (lv_at hl 0 rfl) ?_
        refine z_get C hE hH zX_o4 rfl zh_X3 4 (by decide) zk3_16 (fun _ h9 => h9) (v := .ref (q 14)) rfl dX7_worstCall_24 ?_
        refine lv_iload_n hx hb dX7_worstCall_27 rfl (lv_at hl 1 rfl) ?_
        obtain ⟨g4, h⟩ := zgd_s h
        refine z_iald C hE hH zX_a14 (t0 := 0) rfl g4 dX7_worstCall_28 ?_
        refine lv_icmp_le (tgt := 34) hx hb dX7_worstCall_29 (by decide) (fun c5 => ?_) (fun c5 => ?_)
        · replace h := zif_t c5 h
          refine lv_iinc (v := (x2 + 1)) (lv' := [(2, .int (x2 + 1)), (0, .ref (q 4)), (1, .int x1)]) hx hb dX7_worstCall_34 hl (k := 2) rfl rfl (by decide) rfl (fun ls hl => ?_)
          refine lv_goto (tgt := 4) hx hb dX7_worstCall_37 (by decide) ?_
          exact hK4 x1 (x2 + 1) S H locs ls hH (lv_sub hl [1, 2, 0] rfl) h
        · replace h := zif_f c5 h
          exact bX_X7_worstCall_Heap_32 C hE (fX_X7_worstCall_Heap_4  n) hK4 x2 S H locs ls hH (lv_sub hl [0, 2] rfl) h
set_option maxHeartbeats 4000000 in
set_option maxRecDepth 100000 in
theorem bX_X7_worstCall_Heap {p : Program} {l : Launch} {e : Env} {s : State} {m : MethodId} {args : Array Value} {below : List Frame} {meth : Method} {c : Code} {D : va_G} {cI cS cW : ClassId} {q : Nat → Nat} {A : Nat → Prop} {res : Int32} (C : zCX p s m args meth c cX7_worstCall 3 (some .int) zU RX7) (hE : zE D (zyX cI cS cW) znX A s) (S : zSt) (H : Heap) (locs : List Loc) (ls : Array Slot) (hH : zH D (zwX cI cS cW q) A s S H locs) (hl : lv_has ls 3 [(0, .ref (q 4))]) (h : fX_X7_worstCall_Heap   S = some res) : W p l e rmX_X7_worstCall_Heap s m args below meth c H locs 0 0 (zQi below D (zwX cI cS cW q) (zyX cI cS cW) A args s res S) (F0 m 0 ls []) := by
  have hx := C.1
  have hb := C.2.1
  unfold fX_X7_worstCall_Heap at h
  refine lv_iconst (v := (-1)) hx hb dX7_worstCall_0 (by decide) ?_
  refine lv_istore_n (lv' := [(1, .int (-1)), (0, .ref (q 4))]) hx hb dX7_worstCall_1 rfl hl (by decide) rfl (fun ls hl => ?_)
  refine lv_iconst (v := 0) hx hb dX7_worstCall_2 (by decide) ?_
  refine lv_istore_n (lv' := [(2, .int 0), (1, .int (-1)), (0, .ref (q 4))]) hx hb dX7_worstCall_3 rfl hl (by decide) rfl (fun ls hl => ?_)
  exact bX_X7_worstCall_Heap_4 C hE   1000 (-1) 0 S H locs ls hH (lv_sub hl [2, 1, 0] rfl) h
set_option maxHeartbeats 4000000 in
set_option maxRecDepth 100000 in
theorem cX_X7_worstCall_Heap (l : Launch) (D : va_G) (cI cS cW : ClassId) (q : Nat → Nat) (sz : Nat) (S : zSt) {res : Int32} (h : fX_X7_worstCall_Heap  S = some res) : zMi l yX7_worstCall vsX7_worstCall rmX_X7_worstCall_Heap [.ref (q 4)] D (zwX cI cS cW q) (zyX cI cS cW) znX sz S res S := by
  refine Met.ofW (cc := cX7_worstCall) (maxL := 3) (ret := (some .int)) (by decide) rfl ?_
  intro p e s m args below meth c s₁ B hml hv
  obtain ⟨rfl, rfl, hP, hK, hD0, hN⟩ := hv
  have hl := lv_entry ([.ref (q 4)]) (n := 3) (Nat.le_of_ble_eq_true rfl)
  rw [lg_entry_eq]
  generalize (lg_sl ([.ref (q 4)]) ++ List.replicate (3 - (lg_sl ([.ref (q 4)])).length) Slot.unset).toArray = ls at hl ⊢
  exact bX_X7_worstCall_Heap ⟨B.exec, B.bytes, hml, findClass_of_methodNamed B.named, fun w h => atoms_spec (ws := vsX7_worstCall) B.pre w (List.mem_cons_of_mem _ h), B.returns, B.notSynchronized⟩ ⟨hK, fun q h => Or.inr h, hN⟩  S s.heap [] ls ⟨hP, hD0.self, va_S.rf⟩ hl  h
def rmX_X7_worstSteps_Heap : Room := { frames := 1, cells := 0, slots := 0, locals := 22 }
set_option maxHeartbeats 4000000 in
set_option maxRecDepth 100000 in
theorem bX_X7_worstSteps_Heap {p : Program} {l : Launch} {e : Env} {s : State} {m : MethodId} {args : Array Value} {below : List Frame} {meth : Method} {c : Code} {D : va_G} {cI cS cW : ClassId} {q : Nat → Nat} {A : Nat → Prop} {res : Int32} (C : zCX p s m args meth c cX7_worstSteps 2 (some .int) zU RX7) (hE : zE D (zyX cI cS cW) znX A s) (S : zSt) (H : Heap) (locs : List Loc) (ls : Array Slot) (hH : zH D (zwX cI cS cW q) A s S H locs) (hl : lv_has ls 2 [(0, .ref (q 4))]) (h : fX_X7_worstSteps_Heap   S = some res) : W p l e rmX_X7_worstSteps_Heap s m args below meth c H locs 0 0 (zQi below D (zwX cI cS cW q) (zyX cI cS cW) A args s res S) (F0 m 0 ls []) := by
  have hx := C.1
  have hb := C.2.1
  unfold fX_X7_worstSteps_Heap at h
  refine lv_aload_n hx hb dX7_worstSteps_0 rfl (lv_at hl 0 rfl) ?_
  obtain ⟨u1, e2, h⟩ := zbd_s h
  refine z_calli (va_runU (As := []) (rest := []) (z_fix C) (cX_X7_worstCall_Heap l D cI cS cW q H.size   S e2) (va_cwU 0 C.2.2.2.2.1 (zGU (x := ⟨"WhichShelf$Shelf", "worstCall", "()I"⟩) (owner := "WhichShelf$Shelf") zk29_18 zk29_19 zk30_0 zk29_21 zk3_13 zk29_22) rfl rfl rfl rfl ydu_X7_worstCall ⟨Nat.le_of_ble_eq_true rfl, Nat.le_of_ble_eq_true rfl⟩) (z_preV (zNmX hE) hE hH zX_o4 rfl) rfl rfl hl.1 rfl (lv_room (Nat.le_of_ble_eq_true rfl)) dX7_worstSteps_1 ⟨Nat.le_refl 0, Nat.le_refl 0⟩) hE hH (fun H locs hH => ?_)
  refine lv_istore_n (lv' := [(1, .int u1), (0, .ref (q 4))]) hx hb dX7_worstSteps_4 rfl hl (by decide) rfl (fun ls hl => ?_)
  refine lv_iload_n hx hb dX7_worstSteps_5 rfl (lv_at hl 0 rfl) ?_
  refine lv_iconst (v := (-1)) hx hb dX7_worstSteps_6 (by decide) ?_
  refine lv_icmp_ne (tgt := 14) hx hb dX7_worstSteps_7 (by decide) (fun c3 => ?_) (fun c3 => ?_)
  · replace h := zif_f c3 h
    refine lv_aload_n hx hb dX7_worstSteps_14 rfl (lv_at hl 1 rfl) ?_
    refine z_get C hE hH zX_o4 rfl zh_X3 4 (by decide) zk3_16 (fun _ h9 => h9) (v := .ref (q 14)) rfl dX7_worstSteps_15 ?_
    refine lv_iload_n hx hb dX7_worstSteps_18 rfl (lv_at hl 0 rfl) ?_
    obtain ⟨g4, h⟩ := zgd_s h
    refine z_iald C hE hH zX_a14 (t0 := 0) rfl g4 dX7_worstSteps_19 ?_
    cases h
    exact z_iret C hE hH dX7_worstSteps_20
  · replace h := zif_t c3 h
    refine lv_iconst (v := 0) hx hb dX7_worstSteps_10 (by decide) ?_
    refine lv_goto (tgt := 20) hx hb dX7_worstSteps_11 (by decide) ?_
    cases h
    exact z_iret C hE hH dX7_worstSteps_20
set_option maxHeartbeats 4000000 in
set_option maxRecDepth 100000 in
theorem cX_X7_worstSteps_Heap (l : Launch) (D : va_G) (cI cS cW : ClassId) (q : Nat → Nat) (sz : Nat) (S : zSt) {res : Int32} (h : fX_X7_worstSteps_Heap  S = some res) : zMi l yX7_worstSteps vsX7_worstSteps rmX_X7_worstSteps_Heap [.ref (q 4)] D (zwX cI cS cW q) (zyX cI cS cW) znX sz S res S := by
  refine Met.ofW (cc := cX7_worstSteps) (maxL := 2) (ret := (some .int)) (by decide) rfl ?_
  intro p e s m args below meth c s₁ B hml hv
  obtain ⟨rfl, rfl, hP, hK, hD0, hN⟩ := hv
  have hl := lv_entry ([.ref (q 4)]) (n := 2) (Nat.le_of_ble_eq_true rfl)
  rw [lg_entry_eq]
  generalize (lg_sl ([.ref (q 4)]) ++ List.replicate (2 - (lg_sl ([.ref (q 4)])).length) Slot.unset).toArray = ls at hl ⊢
  exact bX_X7_worstSteps_Heap ⟨B.exec, B.bytes, hml, findClass_of_methodNamed B.named, fun w h => atoms_spec (ws := vsX7_worstSteps) B.pre w (List.mem_cons_of_mem _ h), B.returns, B.notSynchronized⟩ ⟨hK, fun q h => Or.inr h, hN⟩  S s.heap [] ls ⟨hP, hD0.self, va_S.rf⟩ hl  h
def rmX_X7_worstCall_Bits : Room := { frames := 0, cells := 0, slots := 0, locals := 0 }
set_option maxHeartbeats 4000000 in
set_option maxRecDepth 100000 in
theorem bX_X7_worstCall_Bits_32 {p : Program} {l : Launch} {e : Env} {s : State} {m : MethodId} {args : Array Value} {below : List Frame} {meth : Method} {c : Code} {D : va_G} {cI cS cW : ClassId} {q : Nat → Nat} {A : Nat → Prop} {res : Int32} (C : zCX p s m args meth c cX7_worstCall 3 (some .int) zU RX7) (hE : zE D (zyX cI cS cW) znX A s) (K4 : (Int32 → Int32 → zSt → Option (Int32))) (hK4 : ∀ (x1 x2 : Int32) (S : zSt) (H : Heap) (locs : List Loc) (ls : Array Slot), zH D (zwX cI cS cW q) A s S H locs → lv_has ls 3 [(0, .ref (q 5)), (1, .int x1), (2, .int x2)] → K4 x1 x2 S = some res → W p l e rmX_X7_worstCall_Bits s m args below meth c H locs 0 0 (zQi below D (zwX cI cS cW q) (zyX cI cS cW) A args s res S) (F0 m 4 ls [])) (x2 : Int32) (S : zSt) (H : Heap) (locs : List Loc) (ls : Array Slot) (hH : zH D (zwX cI cS cW q) A s S H locs) (hl : lv_has ls 3 [(0, .ref (q 5)), (2, .int x2)]) (h : fX_X7_worstCall_Bits_32 K4 x2 S = some res) : W p l e rmX_X7_worstCall_Bits s m args below meth c H locs 0 0 (zQi below D (zwX cI cS cW q) (zyX cI cS cW) A args s res S) (F0 m 32 ls []) := by
  have hx := C.1
  have hb := C.2.1
  unfold fX_X7_worstCall_Bits_32 at h
  refine lv_iload_n hx hb dX7_worstCall_32 rfl (lv_at hl 1 rfl) ?_
  refine lv_istore_n (lv' := [(1, .int x2), (0, .ref (q 5)), (2, .int x2)]) hx hb dX7_worstCall_33 rfl hl (by decide) rfl (fun ls hl => ?_)
  refine lv_iinc (v := (x2 + 1)) (lv' := [(2, .int (x2 + 1)), (1, .int x2), (0, .ref (q 5))]) hx hb dX7_worstCall_34 hl (k := 2) rfl rfl (by decide) rfl (fun ls hl => ?_)
  refine lv_goto (tgt := 4) hx hb dX7_worstCall_37 (by decide) ?_
  exact hK4 x2 (x2 + 1) S H locs ls hH (lv_sub hl [2, 1, 0] rfl) h
set_option maxHeartbeats 4000000 in
set_option maxRecDepth 100000 in
theorem bX_X7_worstCall_Bits_4 {p : Program} {l : Launch} {e : Env} {s : State} {m : MethodId} {args : Array Value} {below : List Frame} {meth : Method} {c : Code} {D : va_G} {cI cS cW : ClassId} {q : Nat → Nat} {A : Nat → Prop} {res : Int32} (C : zCX p s m args meth c cX7_worstCall 3 (some .int) zU RX7) (hE : zE D (zyX cI cS cW) znX A s) : ∀ (n : Nat) (x1 x2 : Int32) (S : zSt) (H : Heap) (locs : List Loc) (ls : Array Slot), zH D (zwX cI cS cW q) A s S H locs → lv_has ls 3 [(0, .ref (q 5)), (1, .int x1), (2, .int x2)] → fX_X7_worstCall_Bits_4  n x1 x2 S = some res → W p l e rmX_X7_worstCall_Bits s m args below meth c H locs 0 0 (zQi below D (zwX cI cS cW q) (zyX cI cS cW) A args s res S) (F0 m 4 ls []) := by
  have hx := C.1
  have hb := C.2.1
  intro n
  induction n with
  | zero =>
    intro x1 x2 S H locs ls hH hl  h
    cases h
  | succ n hK4 =>
    intro x1 x2 S H locs ls hH hl  h
    rw [fX_X7_worstCall_Bits_4] at h
    refine lv_iload_n hx hb dX7_worstCall_4 rfl (lv_at hl 2 rfl) ?_
    refine lv_aload_n hx hb dX7_worstCall_5 rfl (lv_at hl 0 rfl) ?_
    refine z_get C hE hH zX_o5 rfl zh_X0 3 (by decide) zk3_18 (fun _ h9 => h9) (v := .int (S.1 17)) rfl dX7_worstCall_6 ?_
    refine lv_icmp_ge (tgt := 40) hx hb dX7_worstCall_9 (by decide) (fun c1 => ?_) (fun c1 => ?_)
    · replace h := zif_t c1 h
      refine lv_iload_n hx hb dX7_worstCall_40 rfl (lv_at hl 1 rfl) ?_
      cases h
      exact z_iret C hE hH dX7_worstCall_41
    · replace h := zif_f c1 h
      refine lv_iload_n hx hb dX7_worstCall_12 rfl (lv_at hl 1 rfl) ?_
      refine lv_iconst (v := (-1)) hx hb dX7_worstCall_13 (by decide) ?_
      refine lv_icmp_eq (tgt := 32) hx hb dX7_worstCall_14 (by decide) (fun c2 => ?_) (fun c2 => ?_)
      · replace h := zif_t c2 h
        exact bX_X7_worstCall_Bits_32 C hE (fX_X7_worstCall_Bits_4  n) hK4 x2 S H locs ls hH (lv_sub hl [0, 2] rfl) h
      · replace h := zif_f c2 h
        refine lv_aload_n hx hb dX7_worstCall_17 rfl (lv_at hl 0 rfl) ?_
        refine z_get C hE hH zX_o5 rfl zh_X0 1 (by decide) zk3_16 (fun _ h9 => h9) (v := .ref (q 15)) rfl dX7_worstCall_18 ?_
        refine lv_iload_n hx hb dX7_worstCall_21 rfl (lv_at hl 2 rfl) ?_
        obtain ⟨g3, h⟩ := zgd_s h
        refine z_iald C hE hH zX_a15 (t0 := 0) rfl g3 dX7_worstCall_22 ?_
        refine lv_aload_n hx hb dX7_worstCall_23 rfl (lv_at hl 0 rfl) ?_
        refine z_get C hE hH zX_o5 rfl zh_X0 1 (by decide) zk3_16 (fun _ h9 => h9) (v := .ref (q 15)) rfl dX7_worstCall_24 ?_
        refine lv_iload_n hx hb dX7_worstCall_27 rfl (lv_at hl 1 rfl) ?_
        obtain ⟨g4, h⟩ := zgd_s h
        refine z_iald C hE hH zX_a15 (t0 := 0) rfl g4 dX7_worstCall_28 ?_
        refine lv_icmp_le (tgt := 34) hx hb dX7_worstCall_29 (by decide) (fun c5 => ?_) (fun c5 => ?_)
        · replace h := zif_t c5 h
          refine lv_iinc (v := (x2 + 1)) (lv' := [(2, .int (x2 + 1)), (0, .ref (q 5)), (1, .int x1)]) hx hb dX7_worstCall_34 hl (k := 2) rfl rfl (by decide) rfl (fun ls hl => ?_)
          refine lv_goto (tgt := 4) hx hb dX7_worstCall_37 (by decide) ?_
          exact hK4 x1 (x2 + 1) S H locs ls hH (lv_sub hl [1, 2, 0] rfl) h
        · replace h := zif_f c5 h
          exact bX_X7_worstCall_Bits_32 C hE (fX_X7_worstCall_Bits_4  n) hK4 x2 S H locs ls hH (lv_sub hl [0, 2] rfl) h
set_option maxHeartbeats 4000000 in
set_option maxRecDepth 100000 in
theorem bX_X7_worstCall_Bits {p : Program} {l : Launch} {e : Env} {s : State} {m : MethodId} {args : Array Value} {below : List Frame} {meth : Method} {c : Code} {D : va_G} {cI cS cW : ClassId} {q : Nat → Nat} {A : Nat → Prop} {res : Int32} (C : zCX p s m args meth c cX7_worstCall 3 (some .int) zU RX7) (hE : zE D (zyX cI cS cW) znX A s) (S : zSt) (H : Heap) (locs : List Loc) (ls : Array Slot) (hH : zH D (zwX cI cS cW q) A s S H locs) (hl : lv_has ls 3 [(0, .ref (q 5))]) (h : fX_X7_worstCall_Bits   S = some res) : W p l e rmX_X7_worstCall_Bits s m args below meth c H locs 0 0 (zQi below D (zwX cI cS cW q) (zyX cI cS cW) A args s res S) (F0 m 0 ls []) := by
  have hx := C.1
  have hb := C.2.1
  unfold fX_X7_worstCall_Bits at h
  refine lv_iconst (v := (-1)) hx hb dX7_worstCall_0 (by decide) ?_
  refine lv_istore_n (lv' := [(1, .int (-1)), (0, .ref (q 5))]) hx hb dX7_worstCall_1 rfl hl (by decide) rfl (fun ls hl => ?_)
  refine lv_iconst (v := 0) hx hb dX7_worstCall_2 (by decide) ?_
  refine lv_istore_n (lv' := [(2, .int 0), (1, .int (-1)), (0, .ref (q 5))]) hx hb dX7_worstCall_3 rfl hl (by decide) rfl (fun ls hl => ?_)
  exact bX_X7_worstCall_Bits_4 C hE   1000 (-1) 0 S H locs ls hH (lv_sub hl [2, 1, 0] rfl) h
set_option maxHeartbeats 4000000 in
set_option maxRecDepth 100000 in
theorem cX_X7_worstCall_Bits (l : Launch) (D : va_G) (cI cS cW : ClassId) (q : Nat → Nat) (sz : Nat) (S : zSt) {res : Int32} (h : fX_X7_worstCall_Bits  S = some res) : zMi l yX7_worstCall vsX7_worstCall rmX_X7_worstCall_Bits [.ref (q 5)] D (zwX cI cS cW q) (zyX cI cS cW) znX sz S res S := by
  refine Met.ofW (cc := cX7_worstCall) (maxL := 3) (ret := (some .int)) (by decide) rfl ?_
  intro p e s m args below meth c s₁ B hml hv
  obtain ⟨rfl, rfl, hP, hK, hD0, hN⟩ := hv
  have hl := lv_entry ([.ref (q 5)]) (n := 3) (Nat.le_of_ble_eq_true rfl)
  rw [lg_entry_eq]
  generalize (lg_sl ([.ref (q 5)]) ++ List.replicate (3 - (lg_sl ([.ref (q 5)])).length) Slot.unset).toArray = ls at hl ⊢
  exact bX_X7_worstCall_Bits ⟨B.exec, B.bytes, hml, findClass_of_methodNamed B.named, fun w h => atoms_spec (ws := vsX7_worstCall) B.pre w (List.mem_cons_of_mem _ h), B.returns, B.notSynchronized⟩ ⟨hK, fun q h => Or.inr h, hN⟩  S s.heap [] ls ⟨hP, hD0.self, va_S.rf⟩ hl  h
def rmX_X7_worstSteps_Bits : Room := { frames := 1, cells := 0, slots := 0, locals := 22 }
set_option maxHeartbeats 4000000 in
set_option maxRecDepth 100000 in
theorem bX_X7_worstSteps_Bits {p : Program} {l : Launch} {e : Env} {s : State} {m : MethodId} {args : Array Value} {below : List Frame} {meth : Method} {c : Code} {D : va_G} {cI cS cW : ClassId} {q : Nat → Nat} {A : Nat → Prop} {res : Int32} (C : zCX p s m args meth c cX7_worstSteps 2 (some .int) zU RX7) (hE : zE D (zyX cI cS cW) znX A s) (S : zSt) (H : Heap) (locs : List Loc) (ls : Array Slot) (hH : zH D (zwX cI cS cW q) A s S H locs) (hl : lv_has ls 2 [(0, .ref (q 5))]) (h : fX_X7_worstSteps_Bits   S = some res) : W p l e rmX_X7_worstSteps_Bits s m args below meth c H locs 0 0 (zQi below D (zwX cI cS cW q) (zyX cI cS cW) A args s res S) (F0 m 0 ls []) := by
  have hx := C.1
  have hb := C.2.1
  unfold fX_X7_worstSteps_Bits at h
  refine lv_aload_n hx hb dX7_worstSteps_0 rfl (lv_at hl 0 rfl) ?_
  obtain ⟨u1, e2, h⟩ := zbd_s h
  refine z_calli (va_runU (As := []) (rest := []) (z_fix C) (cX_X7_worstCall_Bits l D cI cS cW q H.size   S e2) (va_cwU 0 C.2.2.2.2.1 (zGU (x := ⟨"WhichShelf$Shelf", "worstCall", "()I"⟩) (owner := "WhichShelf$Shelf") zk29_18 zk29_19 zk29_20 zk29_21 zk3_13 zk29_22) rfl rfl rfl rfl ydu_X7_worstCall ⟨Nat.le_of_ble_eq_true rfl, Nat.le_of_ble_eq_true rfl⟩) (z_preV (zNmX hE) hE hH zX_o5 rfl) rfl rfl hl.1 rfl (lv_room (Nat.le_of_ble_eq_true rfl)) dX7_worstSteps_1 ⟨Nat.le_refl 0, Nat.le_refl 0⟩) hE hH (fun H locs hH => ?_)
  refine lv_istore_n (lv' := [(1, .int u1), (0, .ref (q 5))]) hx hb dX7_worstSteps_4 rfl hl (by decide) rfl (fun ls hl => ?_)
  refine lv_iload_n hx hb dX7_worstSteps_5 rfl (lv_at hl 0 rfl) ?_
  refine lv_iconst (v := (-1)) hx hb dX7_worstSteps_6 (by decide) ?_
  refine lv_icmp_ne (tgt := 14) hx hb dX7_worstSteps_7 (by decide) (fun c3 => ?_) (fun c3 => ?_)
  · replace h := zif_f c3 h
    refine lv_aload_n hx hb dX7_worstSteps_14 rfl (lv_at hl 1 rfl) ?_
    refine z_get C hE hH zX_o5 rfl zh_X0 1 (by decide) zk3_16 (fun _ h9 => h9) (v := .ref (q 15)) rfl dX7_worstSteps_15 ?_
    refine lv_iload_n hx hb dX7_worstSteps_18 rfl (lv_at hl 0 rfl) ?_
    obtain ⟨g4, h⟩ := zgd_s h
    refine z_iald C hE hH zX_a15 (t0 := 0) rfl g4 dX7_worstSteps_19 ?_
    cases h
    exact z_iret C hE hH dX7_worstSteps_20
  · replace h := zif_t c3 h
    refine lv_iconst (v := 0) hx hb dX7_worstSteps_10 (by decide) ?_
    refine lv_goto (tgt := 20) hx hb dX7_worstSteps_11 (by decide) ?_
    cases h
    exact z_iret C hE hH dX7_worstSteps_20
set_option maxHeartbeats 4000000 in
set_option maxRecDepth 100000 in
theorem cX_X7_worstSteps_Bits (l : Launch) (D : va_G) (cI cS cW : ClassId) (q : Nat → Nat) (sz : Nat) (S : zSt) {res : Int32} (h : fX_X7_worstSteps_Bits  S = some res) : zMi l yX7_worstSteps vsX7_worstSteps rmX_X7_worstSteps_Bits [.ref (q 5)] D (zwX cI cS cW q) (zyX cI cS cW) znX sz S res S := by
  refine Met.ofW (cc := cX7_worstSteps) (maxL := 2) (ret := (some .int)) (by decide) rfl ?_
  intro p e s m args below meth c s₁ B hml hv
  obtain ⟨rfl, rfl, hP, hK, hD0, hN⟩ := hv
  have hl := lv_entry ([.ref (q 5)]) (n := 2) (Nat.le_of_ble_eq_true rfl)
  rw [lg_entry_eq]
  generalize (lg_sl ([.ref (q 5)]) ++ List.replicate (2 - (lg_sl ([.ref (q 5)])).length) Slot.unset).toArray = ls at hl ⊢
  exact bX_X7_worstSteps_Bits ⟨B.exec, B.bytes, hml, findClass_of_methodNamed B.named, fun w h => atoms_spec (ws := vsX7_worstSteps) B.pre w (List.mem_cons_of_mem _ h), B.returns, B.notSynchronized⟩ ⟨hK, fun q h => Or.inr h, hN⟩  S s.heap [] ls ⟨hP, hD0.self, va_S.rf⟩ hl  h
def rmX_X7_greatestRoom_Row : Room := { frames := 1, cells := 0, slots := 0, locals := 13 }
set_option maxHeartbeats 4000000 in
set_option maxRecDepth 100000 in
theorem bX_X7_greatestRoom_Row_4 {p : Program} {l : Launch} {e : Env} {s : State} {m : MethodId} {args : Array Value} {below : List Frame} {meth : Method} {c : Code} {D : va_G} {cI cS cW : ClassId} {q : Nat → Nat} {A : Nat → Prop} {res : Int32} (C : zCX p s m args meth c cX7_greatestRoom 3 (some .int) zU RX7) (hE : zE D (zyX cI cS cW) znX A s) : ∀ (n : Nat) (x1 x2 : Int32) (S : zSt) (H : Heap) (locs : List Loc) (ls : Array Slot), zH D (zwX cI cS cW q) A s S H locs → lv_has ls 3 [(0, .ref (q 0)), (1, .int x1), (2, .int x2)] → fX_X7_greatestRoom_Row_4  n x1 x2 S = some res → W p l e rmX_X7_greatestRoom_Row s m args below meth c H locs 0 0 (zQi below D (zwX cI cS cW q) (zyX cI cS cW) A args s res S) (F0 m 4 ls []) := by
  have hx := C.1
  have hb := C.2.1
  intro n
  induction n with
  | zero =>
    intro x1 x2 S H locs ls hH hl  h
    cases h
  | succ n hK4 =>
    intro x1 x2 S H locs ls hH hl  h
    rw [fX_X7_greatestRoom_Row_4] at h
    refine lv_iload_n hx hb dX7_greatestRoom_4 rfl (lv_at hl 2 rfl) ?_
    refine lv_aload_n hx hb dX7_greatestRoom_5 rfl (lv_at hl 0 rfl) ?_
    refine z_get C hE hH zX_o0 rfl zh_X6 6 (by decide) zk3_18 (fun _ h9 => h9) (v := .int (S.1 12)) rfl dX7_greatestRoom_6 ?_
    refine lv_icmp_ge (tgt := 29) hx hb dX7_greatestRoom_9 (by decide) (fun c1 => ?_) (fun c1 => ?_)
    · replace h := zif_t c1 h
      refine lv_iload_n hx hb dX7_greatestRoom_29 rfl (lv_at hl 1 rfl) ?_
      cases h
      exact z_iret C hE hH dX7_greatestRoom_30
    · replace h := zif_f c1 h
      refine lv_iload_n hx hb dX7_greatestRoom_12 rfl (lv_at hl 1 rfl) ?_
      refine lv_aload_n hx hb dX7_greatestRoom_13 rfl (lv_at hl 0 rfl) ?_
      refine z_get C hE hH zX_o0 rfl zh_X6 5 (by decide) zk3_17 (fun _ h9 => h9) (v := .ref (q 16)) rfl dX7_greatestRoom_14 ?_
      refine lv_iload_n hx hb dX7_greatestRoom_17 rfl (lv_at hl 2 rfl) ?_
      obtain ⟨g2, h⟩ := zgd_s h
      refine z_iald C hE hH zX_a16 (t0 := 0) rfl g2 dX7_greatestRoom_18 ?_
      refine z_mmax C hl.1 zk29_7 zk8_12 zk8_13 zk8_14 (Nat.le_of_ble_eq_true rfl) (Nat.le_of_ble_eq_true rfl) dX7_greatestRoom_19 ?_
      refine lv_istore_n (lv' := [(1, .int (zmax x1 (S.2 16 x2.toNatClampNeg))), (0, .ref (q 0)), (2, .int x2)]) hx hb dX7_greatestRoom_22 rfl hl (by decide) rfl (fun ls hl => ?_)
      refine lv_iinc (v := (x2 + 1)) (lv' := [(2, .int (x2 + 1)), (1, .int (zmax x1 (S.2 16 x2.toNatClampNeg))), (0, .ref (q 0))]) hx hb dX7_greatestRoom_23 hl (k := 2) rfl rfl (by decide) rfl (fun ls hl => ?_)
      refine lv_goto (tgt := 4) hx hb dX7_greatestRoom_26 (by decide) ?_
      exact hK4 (zmax x1 (S.2 16 x2.toNatClampNeg)) (x2 + 1) S H locs ls hH (lv_sub hl [2, 1, 0] rfl) h
set_option maxHeartbeats 4000000 in
set_option maxRecDepth 100000 in
theorem bX_X7_greatestRoom_Row {p : Program} {l : Launch} {e : Env} {s : State} {m : MethodId} {args : Array Value} {below : List Frame} {meth : Method} {c : Code} {D : va_G} {cI cS cW : ClassId} {q : Nat → Nat} {A : Nat → Prop} {res : Int32} (C : zCX p s m args meth c cX7_greatestRoom 3 (some .int) zU RX7) (hE : zE D (zyX cI cS cW) znX A s) (S : zSt) (H : Heap) (locs : List Loc) (ls : Array Slot) (hH : zH D (zwX cI cS cW q) A s S H locs) (hl : lv_has ls 3 [(0, .ref (q 0))]) (h : fX_X7_greatestRoom_Row   S = some res) : W p l e rmX_X7_greatestRoom_Row s m args below meth c H locs 0 0 (zQi below D (zwX cI cS cW q) (zyX cI cS cW) A args s res S) (F0 m 0 ls []) := by
  have hx := C.1
  have hb := C.2.1
  unfold fX_X7_greatestRoom_Row at h
  refine lv_iconst (v := 0) hx hb dX7_greatestRoom_0 (by decide) ?_
  refine lv_istore_n (lv' := [(1, .int 0), (0, .ref (q 0))]) hx hb dX7_greatestRoom_1 rfl hl (by decide) rfl (fun ls hl => ?_)
  refine lv_iconst (v := 0) hx hb dX7_greatestRoom_2 (by decide) ?_
  refine lv_istore_n (lv' := [(2, .int 0), (1, .int 0), (0, .ref (q 0))]) hx hb dX7_greatestRoom_3 rfl hl (by decide) rfl (fun ls hl => ?_)
  exact bX_X7_greatestRoom_Row_4 C hE   1000 0 0 S H locs ls hH (lv_sub hl [2, 1, 0] rfl) h
set_option maxHeartbeats 4000000 in
set_option maxRecDepth 100000 in
theorem cX_X7_greatestRoom_Row (l : Launch) (D : va_G) (cI cS cW : ClassId) (q : Nat → Nat) (sz : Nat) (S : zSt) {res : Int32} (h : fX_X7_greatestRoom_Row  S = some res) : zMi l yX7_greatestRoom vsX7_greatestRoom rmX_X7_greatestRoom_Row [.ref (q 0)] D (zwX cI cS cW q) (zyX cI cS cW) znX sz S res S := by
  refine Met.ofW (cc := cX7_greatestRoom) (maxL := 3) (ret := (some .int)) (by decide) rfl ?_
  intro p e s m args below meth c s₁ B hml hv
  obtain ⟨rfl, rfl, hP, hK, hD0, hN⟩ := hv
  have hl := lv_entry ([.ref (q 0)]) (n := 3) (Nat.le_of_ble_eq_true rfl)
  rw [lg_entry_eq]
  generalize (lg_sl ([.ref (q 0)]) ++ List.replicate (3 - (lg_sl ([.ref (q 0)])).length) Slot.unset).toArray = ls at hl ⊢
  exact bX_X7_greatestRoom_Row ⟨B.exec, B.bytes, hml, findClass_of_methodNamed B.named, fun w h => atoms_spec (ws := vsX7_greatestRoom) B.pre w (List.mem_cons_of_mem _ h), B.returns, B.notSynchronized⟩ ⟨hK, fun q h => Or.inr h, hN⟩  S s.heap [] ls ⟨hP, hD0.self, va_S.rf⟩ hl  h
def rmX_X7_greatestRoom_Sorted : Room := { frames := 1, cells := 0, slots := 0, locals := 13 }
set_option maxHeartbeats 4000000 in
set_option maxRecDepth 100000 in
theorem bX_X7_greatestRoom_Sorted_4 {p : Program} {l : Launch} {e : Env} {s : State} {m : MethodId} {args : Array Value} {below : List Frame} {meth : Method} {c : Code} {D : va_G} {cI cS cW : ClassId} {q : Nat → Nat} {A : Nat → Prop} {res : Int32} (C : zCX p s m args meth c cX7_greatestRoom 3 (some .int) zU RX7) (hE : zE D (zyX cI cS cW) znX A s) : ∀ (n : Nat) (x1 x2 : Int32) (S : zSt) (H : Heap) (locs : List Loc) (ls : Array Slot), zH D (zwX cI cS cW q) A s S H locs → lv_has ls 3 [(0, .ref (q 1)), (1, .int x1), (2, .int x2)] → fX_X7_greatestRoom_Sorted_4  n x1 x2 S = some res → W p l e rmX_X7_greatestRoom_Sorted s m args below meth c H locs 0 0 (zQi below D (zwX cI cS cW q) (zyX cI cS cW) A args s res S) (F0 m 4 ls []) := by
  have hx := C.1
  have hb := C.2.1
  intro n
  induction n with
  | zero =>
    intro x1 x2 S H locs ls hH hl  h
    cases h
  | succ n hK4 =>
    intro x1 x2 S H locs ls hH hl  h
    rw [fX_X7_greatestRoom_Sorted_4] at h
    refine lv_iload_n hx hb dX7_greatestRoom_4 rfl (lv_at hl 2 rfl) ?_
    refine lv_aload_n hx hb dX7_greatestRoom_5 rfl (lv_at hl 0 rfl) ?_
    refine z_get C hE hH zX_o1 rfl zh_X8 6 (by decide) zk3_18 (fun _ h9 => h9) (v := .int (S.1 13)) rfl dX7_greatestRoom_6 ?_
    refine lv_icmp_ge (tgt := 29) hx hb dX7_greatestRoom_9 (by decide) (fun c1 => ?_) (fun c1 => ?_)
    · replace h := zif_t c1 h
      refine lv_iload_n hx hb dX7_greatestRoom_29 rfl (lv_at hl 1 rfl) ?_
      cases h
      exact z_iret C hE hH dX7_greatestRoom_30
    · replace h := zif_f c1 h
      refine lv_iload_n hx hb dX7_greatestRoom_12 rfl (lv_at hl 1 rfl) ?_
      refine lv_aload_n hx hb dX7_greatestRoom_13 rfl (lv_at hl 0 rfl) ?_
      refine z_get C hE hH zX_o1 rfl zh_X8 5 (by decide) zk3_17 (fun _ h9 => h9) (v := .ref (q 17)) rfl dX7_greatestRoom_14 ?_
      refine lv_iload_n hx hb dX7_greatestRoom_17 rfl (lv_at hl 2 rfl) ?_
      obtain ⟨g2, h⟩ := zgd_s h
      refine z_iald C hE hH zX_a17 (t0 := 0) rfl g2 dX7_greatestRoom_18 ?_
      refine z_mmax C hl.1 zk29_7 zk8_12 zk8_13 zk8_14 (Nat.le_of_ble_eq_true rfl) (Nat.le_of_ble_eq_true rfl) dX7_greatestRoom_19 ?_
      refine lv_istore_n (lv' := [(1, .int (zmax x1 (S.2 17 x2.toNatClampNeg))), (0, .ref (q 1)), (2, .int x2)]) hx hb dX7_greatestRoom_22 rfl hl (by decide) rfl (fun ls hl => ?_)
      refine lv_iinc (v := (x2 + 1)) (lv' := [(2, .int (x2 + 1)), (1, .int (zmax x1 (S.2 17 x2.toNatClampNeg))), (0, .ref (q 1))]) hx hb dX7_greatestRoom_23 hl (k := 2) rfl rfl (by decide) rfl (fun ls hl => ?_)
      refine lv_goto (tgt := 4) hx hb dX7_greatestRoom_26 (by decide) ?_
      exact hK4 (zmax x1 (S.2 17 x2.toNatClampNeg)) (x2 + 1) S H locs ls hH (lv_sub hl [2, 1, 0] rfl) h
set_option maxHeartbeats 4000000 in
set_option maxRecDepth 100000 in
theorem bX_X7_greatestRoom_Sorted {p : Program} {l : Launch} {e : Env} {s : State} {m : MethodId} {args : Array Value} {below : List Frame} {meth : Method} {c : Code} {D : va_G} {cI cS cW : ClassId} {q : Nat → Nat} {A : Nat → Prop} {res : Int32} (C : zCX p s m args meth c cX7_greatestRoom 3 (some .int) zU RX7) (hE : zE D (zyX cI cS cW) znX A s) (S : zSt) (H : Heap) (locs : List Loc) (ls : Array Slot) (hH : zH D (zwX cI cS cW q) A s S H locs) (hl : lv_has ls 3 [(0, .ref (q 1))]) (h : fX_X7_greatestRoom_Sorted   S = some res) : W p l e rmX_X7_greatestRoom_Sorted s m args below meth c H locs 0 0 (zQi below D (zwX cI cS cW q) (zyX cI cS cW) A args s res S) (F0 m 0 ls []) := by
  have hx := C.1
  have hb := C.2.1
  unfold fX_X7_greatestRoom_Sorted at h
  refine lv_iconst (v := 0) hx hb dX7_greatestRoom_0 (by decide) ?_
  refine lv_istore_n (lv' := [(1, .int 0), (0, .ref (q 1))]) hx hb dX7_greatestRoom_1 rfl hl (by decide) rfl (fun ls hl => ?_)
  refine lv_iconst (v := 0) hx hb dX7_greatestRoom_2 (by decide) ?_
  refine lv_istore_n (lv' := [(2, .int 0), (1, .int 0), (0, .ref (q 1))]) hx hb dX7_greatestRoom_3 rfl hl (by decide) rfl (fun ls hl => ?_)
  exact bX_X7_greatestRoom_Sorted_4 C hE   1000 0 0 S H locs ls hH (lv_sub hl [2, 1, 0] rfl) h
set_option maxHeartbeats 4000000 in
set_option maxRecDepth 100000 in
theorem cX_X7_greatestRoom_Sorted (l : Launch) (D : va_G) (cI cS cW : ClassId) (q : Nat → Nat) (sz : Nat) (S : zSt) {res : Int32} (h : fX_X7_greatestRoom_Sorted  S = some res) : zMi l yX7_greatestRoom vsX7_greatestRoom rmX_X7_greatestRoom_Sorted [.ref (q 1)] D (zwX cI cS cW q) (zyX cI cS cW) znX sz S res S := by
  refine Met.ofW (cc := cX7_greatestRoom) (maxL := 3) (ret := (some .int)) (by decide) rfl ?_
  intro p e s m args below meth c s₁ B hml hv
  obtain ⟨rfl, rfl, hP, hK, hD0, hN⟩ := hv
  have hl := lv_entry ([.ref (q 1)]) (n := 3) (Nat.le_of_ble_eq_true rfl)
  rw [lg_entry_eq]
  generalize (lg_sl ([.ref (q 1)]) ++ List.replicate (3 - (lg_sl ([.ref (q 1)])).length) Slot.unset).toArray = ls at hl ⊢
  exact bX_X7_greatestRoom_Sorted ⟨B.exec, B.bytes, hml, findClass_of_methodNamed B.named, fun w h => atoms_spec (ws := vsX7_greatestRoom) B.pre w (List.mem_cons_of_mem _ h), B.returns, B.notSynchronized⟩ ⟨hK, fun q h => Or.inr h, hN⟩  S s.heap [] ls ⟨hP, hD0.self, va_S.rf⟩ hl  h
def rmX_X7_greatestRoom_Hash : Room := { frames := 1, cells := 0, slots := 0, locals := 13 }
set_option maxHeartbeats 4000000 in
set_option maxRecDepth 100000 in
theorem bX_X7_greatestRoom_Hash_4 {p : Program} {l : Launch} {e : Env} {s : State} {m : MethodId} {args : Array Value} {below : List Frame} {meth : Method} {c : Code} {D : va_G} {cI cS cW : ClassId} {q : Nat → Nat} {A : Nat → Prop} {res : Int32} (C : zCX p s m args meth c cX7_greatestRoom 3 (some .int) zU RX7) (hE : zE D (zyX cI cS cW) znX A s) : ∀ (n : Nat) (x1 x2 : Int32) (S : zSt) (H : Heap) (locs : List Loc) (ls : Array Slot), zH D (zwX cI cS cW q) A s S H locs → lv_has ls 3 [(0, .ref (q 2)), (1, .int x1), (2, .int x2)] → fX_X7_greatestRoom_Hash_4  n x1 x2 S = some res → W p l e rmX_X7_greatestRoom_Hash s m args below meth c H locs 0 0 (zQi below D (zwX cI cS cW q) (zyX cI cS cW) A args s res S) (F0 m 4 ls []) := by
  have hx := C.1
  have hb := C.2.1
  intro n
  induction n with
  | zero =>
    intro x1 x2 S H locs ls hH hl  h
    cases h
  | succ n hK4 =>
    intro x1 x2 S H locs ls hH hl  h
    rw [fX_X7_greatestRoom_Hash_4] at h
    refine lv_iload_n hx hb dX7_greatestRoom_4 rfl (lv_at hl 2 rfl) ?_
    refine lv_aload_n hx hb dX7_greatestRoom_5 rfl (lv_at hl 0 rfl) ?_
    refine z_get C hE hH zX_o2 rfl zh_X2 6 (by decide) zk3_18 (fun _ h9 => h9) (v := .int (S.1 14)) rfl dX7_greatestRoom_6 ?_
    refine lv_icmp_ge (tgt := 29) hx hb dX7_greatestRoom_9 (by decide) (fun c1 => ?_) (fun c1 => ?_)
    · replace h := zif_t c1 h
      refine lv_iload_n hx hb dX7_greatestRoom_29 rfl (lv_at hl 1 rfl) ?_
      cases h
      exact z_iret C hE hH dX7_greatestRoom_30
    · replace h := zif_f c1 h
      refine lv_iload_n hx hb dX7_greatestRoom_12 rfl (lv_at hl 1 rfl) ?_
      refine lv_aload_n hx hb dX7_greatestRoom_13 rfl (lv_at hl 0 rfl) ?_
      refine z_get C hE hH zX_o2 rfl zh_X2 5 (by decide) zk3_17 (fun _ h9 => h9) (v := .ref (q 18)) rfl dX7_greatestRoom_14 ?_
      refine lv_iload_n hx hb dX7_greatestRoom_17 rfl (lv_at hl 2 rfl) ?_
      obtain ⟨g2, h⟩ := zgd_s h
      refine z_iald C hE hH zX_a18 (t0 := 0) rfl g2 dX7_greatestRoom_18 ?_
      refine z_mmax C hl.1 zk29_7 zk8_12 zk8_13 zk8_14 (Nat.le_of_ble_eq_true rfl) (Nat.le_of_ble_eq_true rfl) dX7_greatestRoom_19 ?_
      refine lv_istore_n (lv' := [(1, .int (zmax x1 (S.2 18 x2.toNatClampNeg))), (0, .ref (q 2)), (2, .int x2)]) hx hb dX7_greatestRoom_22 rfl hl (by decide) rfl (fun ls hl => ?_)
      refine lv_iinc (v := (x2 + 1)) (lv' := [(2, .int (x2 + 1)), (1, .int (zmax x1 (S.2 18 x2.toNatClampNeg))), (0, .ref (q 2))]) hx hb dX7_greatestRoom_23 hl (k := 2) rfl rfl (by decide) rfl (fun ls hl => ?_)
      refine lv_goto (tgt := 4) hx hb dX7_greatestRoom_26 (by decide) ?_
      exact hK4 (zmax x1 (S.2 18 x2.toNatClampNeg)) (x2 + 1) S H locs ls hH (lv_sub hl [2, 1, 0] rfl) h
set_option maxHeartbeats 4000000 in
set_option maxRecDepth 100000 in
theorem bX_X7_greatestRoom_Hash {p : Program} {l : Launch} {e : Env} {s : State} {m : MethodId} {args : Array Value} {below : List Frame} {meth : Method} {c : Code} {D : va_G} {cI cS cW : ClassId} {q : Nat → Nat} {A : Nat → Prop} {res : Int32} (C : zCX p s m args meth c cX7_greatestRoom 3 (some .int) zU RX7) (hE : zE D (zyX cI cS cW) znX A s) (S : zSt) (H : Heap) (locs : List Loc) (ls : Array Slot) (hH : zH D (zwX cI cS cW q) A s S H locs) (hl : lv_has ls 3 [(0, .ref (q 2))]) (h : fX_X7_greatestRoom_Hash   S = some res) : W p l e rmX_X7_greatestRoom_Hash s m args below meth c H locs 0 0 (zQi below D (zwX cI cS cW q) (zyX cI cS cW) A args s res S) (F0 m 0 ls []) := by
  have hx := C.1
  have hb := C.2.1
  unfold fX_X7_greatestRoom_Hash at h
  refine lv_iconst (v := 0) hx hb dX7_greatestRoom_0 (by decide) ?_
  refine lv_istore_n (lv' := [(1, .int 0), (0, .ref (q 2))]) hx hb dX7_greatestRoom_1 rfl hl (by decide) rfl (fun ls hl => ?_)
  refine lv_iconst (v := 0) hx hb dX7_greatestRoom_2 (by decide) ?_
  refine lv_istore_n (lv' := [(2, .int 0), (1, .int 0), (0, .ref (q 2))]) hx hb dX7_greatestRoom_3 rfl hl (by decide) rfl (fun ls hl => ?_)
  exact bX_X7_greatestRoom_Hash_4 C hE   1000 0 0 S H locs ls hH (lv_sub hl [2, 1, 0] rfl) h
set_option maxHeartbeats 4000000 in
set_option maxRecDepth 100000 in
theorem cX_X7_greatestRoom_Hash (l : Launch) (D : va_G) (cI cS cW : ClassId) (q : Nat → Nat) (sz : Nat) (S : zSt) {res : Int32} (h : fX_X7_greatestRoom_Hash  S = some res) : zMi l yX7_greatestRoom vsX7_greatestRoom rmX_X7_greatestRoom_Hash [.ref (q 2)] D (zwX cI cS cW q) (zyX cI cS cW) znX sz S res S := by
  refine Met.ofW (cc := cX7_greatestRoom) (maxL := 3) (ret := (some .int)) (by decide) rfl ?_
  intro p e s m args below meth c s₁ B hml hv
  obtain ⟨rfl, rfl, hP, hK, hD0, hN⟩ := hv
  have hl := lv_entry ([.ref (q 2)]) (n := 3) (Nat.le_of_ble_eq_true rfl)
  rw [lg_entry_eq]
  generalize (lg_sl ([.ref (q 2)]) ++ List.replicate (3 - (lg_sl ([.ref (q 2)])).length) Slot.unset).toArray = ls at hl ⊢
  exact bX_X7_greatestRoom_Hash ⟨B.exec, B.bytes, hml, findClass_of_methodNamed B.named, fun w h => atoms_spec (ws := vsX7_greatestRoom) B.pre w (List.mem_cons_of_mem _ h), B.returns, B.notSynchronized⟩ ⟨hK, fun q h => Or.inr h, hN⟩  S s.heap [] ls ⟨hP, hD0.self, va_S.rf⟩ hl  h
def rmX_X7_greatestRoom_Tree : Room := { frames := 1, cells := 0, slots := 0, locals := 13 }
set_option maxHeartbeats 4000000 in
set_option maxRecDepth 100000 in
theorem bX_X7_greatestRoom_Tree_4 {p : Program} {l : Launch} {e : Env} {s : State} {m : MethodId} {args : Array Value} {below : List Frame} {meth : Method} {c : Code} {D : va_G} {cI cS cW : ClassId} {q : Nat → Nat} {A : Nat → Prop} {res : Int32} (C : zCX p s m args meth c cX7_greatestRoom 3 (some .int) zU RX7) (hE : zE D (zyX cI cS cW) znX A s) : ∀ (n : Nat) (x1 x2 : Int32) (S : zSt) (H : Heap) (locs : List Loc) (ls : Array Slot), zH D (zwX cI cS cW q) A s S H locs → lv_has ls 3 [(0, .ref (q 3)), (1, .int x1), (2, .int x2)] → fX_X7_greatestRoom_Tree_4  n x1 x2 S = some res → W p l e rmX_X7_greatestRoom_Tree s m args below meth c H locs 0 0 (zQi below D (zwX cI cS cW q) (zyX cI cS cW) A args s res S) (F0 m 4 ls []) := by
  have hx := C.1
  have hb := C.2.1
  intro n
  induction n with
  | zero =>
    intro x1 x2 S H locs ls hH hl  h
    cases h
  | succ n hK4 =>
    intro x1 x2 S H locs ls hH hl  h
    rw [fX_X7_greatestRoom_Tree_4] at h
    refine lv_iload_n hx hb dX7_greatestRoom_4 rfl (lv_at hl 2 rfl) ?_
    refine lv_aload_n hx hb dX7_greatestRoom_5 rfl (lv_at hl 0 rfl) ?_
    refine z_get C hE hH zX_o3 rfl zh_X9 3 (by decide) zk3_18 (fun _ h9 => h9) (v := .int (S.1 15)) rfl dX7_greatestRoom_6 ?_
    refine lv_icmp_ge (tgt := 29) hx hb dX7_greatestRoom_9 (by decide) (fun c1 => ?_) (fun c1 => ?_)
    · replace h := zif_t c1 h
      refine lv_iload_n hx hb dX7_greatestRoom_29 rfl (lv_at hl 1 rfl) ?_
      cases h
      exact z_iret C hE hH dX7_greatestRoom_30
    · replace h := zif_f c1 h
      refine lv_iload_n hx hb dX7_greatestRoom_12 rfl (lv_at hl 1 rfl) ?_
      refine lv_aload_n hx hb dX7_greatestRoom_13 rfl (lv_at hl 0 rfl) ?_
      refine z_get C hE hH zX_o3 rfl zh_X9 2 (by decide) zk3_17 (fun _ h9 => h9) (v := .ref (q 19)) rfl dX7_greatestRoom_14 ?_
      refine lv_iload_n hx hb dX7_greatestRoom_17 rfl (lv_at hl 2 rfl) ?_
      obtain ⟨g2, h⟩ := zgd_s h
      refine z_iald C hE hH zX_a19 (t0 := 0) rfl g2 dX7_greatestRoom_18 ?_
      refine z_mmax C hl.1 zk29_7 zk8_12 zk8_13 zk8_14 (Nat.le_of_ble_eq_true rfl) (Nat.le_of_ble_eq_true rfl) dX7_greatestRoom_19 ?_
      refine lv_istore_n (lv' := [(1, .int (zmax x1 (S.2 19 x2.toNatClampNeg))), (0, .ref (q 3)), (2, .int x2)]) hx hb dX7_greatestRoom_22 rfl hl (by decide) rfl (fun ls hl => ?_)
      refine lv_iinc (v := (x2 + 1)) (lv' := [(2, .int (x2 + 1)), (1, .int (zmax x1 (S.2 19 x2.toNatClampNeg))), (0, .ref (q 3))]) hx hb dX7_greatestRoom_23 hl (k := 2) rfl rfl (by decide) rfl (fun ls hl => ?_)
      refine lv_goto (tgt := 4) hx hb dX7_greatestRoom_26 (by decide) ?_
      exact hK4 (zmax x1 (S.2 19 x2.toNatClampNeg)) (x2 + 1) S H locs ls hH (lv_sub hl [2, 1, 0] rfl) h
set_option maxHeartbeats 4000000 in
set_option maxRecDepth 100000 in
theorem bX_X7_greatestRoom_Tree {p : Program} {l : Launch} {e : Env} {s : State} {m : MethodId} {args : Array Value} {below : List Frame} {meth : Method} {c : Code} {D : va_G} {cI cS cW : ClassId} {q : Nat → Nat} {A : Nat → Prop} {res : Int32} (C : zCX p s m args meth c cX7_greatestRoom 3 (some .int) zU RX7) (hE : zE D (zyX cI cS cW) znX A s) (S : zSt) (H : Heap) (locs : List Loc) (ls : Array Slot) (hH : zH D (zwX cI cS cW q) A s S H locs) (hl : lv_has ls 3 [(0, .ref (q 3))]) (h : fX_X7_greatestRoom_Tree   S = some res) : W p l e rmX_X7_greatestRoom_Tree s m args below meth c H locs 0 0 (zQi below D (zwX cI cS cW q) (zyX cI cS cW) A args s res S) (F0 m 0 ls []) := by
  have hx := C.1
  have hb := C.2.1
  unfold fX_X7_greatestRoom_Tree at h
  refine lv_iconst (v := 0) hx hb dX7_greatestRoom_0 (by decide) ?_
  refine lv_istore_n (lv' := [(1, .int 0), (0, .ref (q 3))]) hx hb dX7_greatestRoom_1 rfl hl (by decide) rfl (fun ls hl => ?_)
  refine lv_iconst (v := 0) hx hb dX7_greatestRoom_2 (by decide) ?_
  refine lv_istore_n (lv' := [(2, .int 0), (1, .int 0), (0, .ref (q 3))]) hx hb dX7_greatestRoom_3 rfl hl (by decide) rfl (fun ls hl => ?_)
  exact bX_X7_greatestRoom_Tree_4 C hE   1000 0 0 S H locs ls hH (lv_sub hl [2, 1, 0] rfl) h
set_option maxHeartbeats 4000000 in
set_option maxRecDepth 100000 in
theorem cX_X7_greatestRoom_Tree (l : Launch) (D : va_G) (cI cS cW : ClassId) (q : Nat → Nat) (sz : Nat) (S : zSt) {res : Int32} (h : fX_X7_greatestRoom_Tree  S = some res) : zMi l yX7_greatestRoom vsX7_greatestRoom rmX_X7_greatestRoom_Tree [.ref (q 3)] D (zwX cI cS cW q) (zyX cI cS cW) znX sz S res S := by
  refine Met.ofW (cc := cX7_greatestRoom) (maxL := 3) (ret := (some .int)) (by decide) rfl ?_
  intro p e s m args below meth c s₁ B hml hv
  obtain ⟨rfl, rfl, hP, hK, hD0, hN⟩ := hv
  have hl := lv_entry ([.ref (q 3)]) (n := 3) (Nat.le_of_ble_eq_true rfl)
  rw [lg_entry_eq]
  generalize (lg_sl ([.ref (q 3)]) ++ List.replicate (3 - (lg_sl ([.ref (q 3)])).length) Slot.unset).toArray = ls at hl ⊢
  exact bX_X7_greatestRoom_Tree ⟨B.exec, B.bytes, hml, findClass_of_methodNamed B.named, fun w h => atoms_spec (ws := vsX7_greatestRoom) B.pre w (List.mem_cons_of_mem _ h), B.returns, B.notSynchronized⟩ ⟨hK, fun q h => Or.inr h, hN⟩  S s.heap [] ls ⟨hP, hD0.self, va_S.rf⟩ hl  h
def rmX_X7_greatestRoom_Heap : Room := { frames := 1, cells := 0, slots := 0, locals := 13 }
set_option maxHeartbeats 4000000 in
set_option maxRecDepth 100000 in
theorem bX_X7_greatestRoom_Heap_4 {p : Program} {l : Launch} {e : Env} {s : State} {m : MethodId} {args : Array Value} {below : List Frame} {meth : Method} {c : Code} {D : va_G} {cI cS cW : ClassId} {q : Nat → Nat} {A : Nat → Prop} {res : Int32} (C : zCX p s m args meth c cX7_greatestRoom 3 (some .int) zU RX7) (hE : zE D (zyX cI cS cW) znX A s) : ∀ (n : Nat) (x1 x2 : Int32) (S : zSt) (H : Heap) (locs : List Loc) (ls : Array Slot), zH D (zwX cI cS cW q) A s S H locs → lv_has ls 3 [(0, .ref (q 4)), (1, .int x1), (2, .int x2)] → fX_X7_greatestRoom_Heap_4  n x1 x2 S = some res → W p l e rmX_X7_greatestRoom_Heap s m args below meth c H locs 0 0 (zQi below D (zwX cI cS cW q) (zyX cI cS cW) A args s res S) (F0 m 4 ls []) := by
  have hx := C.1
  have hb := C.2.1
  intro n
  induction n with
  | zero =>
    intro x1 x2 S H locs ls hH hl  h
    cases h
  | succ n hK4 =>
    intro x1 x2 S H locs ls hH hl  h
    rw [fX_X7_greatestRoom_Heap_4] at h
    refine lv_iload_n hx hb dX7_greatestRoom_4 rfl (lv_at hl 2 rfl) ?_
    refine lv_aload_n hx hb dX7_greatestRoom_5 rfl (lv_at hl 0 rfl) ?_
    refine z_get C hE hH zX_o4 rfl zh_X3 6 (by decide) zk3_18 (fun _ h9 => h9) (v := .int (S.1 16)) rfl dX7_greatestRoom_6 ?_
    refine lv_icmp_ge (tgt := 29) hx hb dX7_greatestRoom_9 (by decide) (fun c1 => ?_) (fun c1 => ?_)
    · replace h := zif_t c1 h
      refine lv_iload_n hx hb dX7_greatestRoom_29 rfl (lv_at hl 1 rfl) ?_
      cases h
      exact z_iret C hE hH dX7_greatestRoom_30
    · replace h := zif_f c1 h
      refine lv_iload_n hx hb dX7_greatestRoom_12 rfl (lv_at hl 1 rfl) ?_
      refine lv_aload_n hx hb dX7_greatestRoom_13 rfl (lv_at hl 0 rfl) ?_
      refine z_get C hE hH zX_o4 rfl zh_X3 5 (by decide) zk3_17 (fun _ h9 => h9) (v := .ref (q 20)) rfl dX7_greatestRoom_14 ?_
      refine lv_iload_n hx hb dX7_greatestRoom_17 rfl (lv_at hl 2 rfl) ?_
      obtain ⟨g2, h⟩ := zgd_s h
      refine z_iald C hE hH zX_a20 (t0 := 0) rfl g2 dX7_greatestRoom_18 ?_
      refine z_mmax C hl.1 zk29_7 zk8_12 zk8_13 zk8_14 (Nat.le_of_ble_eq_true rfl) (Nat.le_of_ble_eq_true rfl) dX7_greatestRoom_19 ?_
      refine lv_istore_n (lv' := [(1, .int (zmax x1 (S.2 20 x2.toNatClampNeg))), (0, .ref (q 4)), (2, .int x2)]) hx hb dX7_greatestRoom_22 rfl hl (by decide) rfl (fun ls hl => ?_)
      refine lv_iinc (v := (x2 + 1)) (lv' := [(2, .int (x2 + 1)), (1, .int (zmax x1 (S.2 20 x2.toNatClampNeg))), (0, .ref (q 4))]) hx hb dX7_greatestRoom_23 hl (k := 2) rfl rfl (by decide) rfl (fun ls hl => ?_)
      refine lv_goto (tgt := 4) hx hb dX7_greatestRoom_26 (by decide) ?_
      exact hK4 (zmax x1 (S.2 20 x2.toNatClampNeg)) (x2 + 1) S H locs ls hH (lv_sub hl [2, 1, 0] rfl) h
set_option maxHeartbeats 4000000 in
set_option maxRecDepth 100000 in
theorem bX_X7_greatestRoom_Heap {p : Program} {l : Launch} {e : Env} {s : State} {m : MethodId} {args : Array Value} {below : List Frame} {meth : Method} {c : Code} {D : va_G} {cI cS cW : ClassId} {q : Nat → Nat} {A : Nat → Prop} {res : Int32} (C : zCX p s m args meth c cX7_greatestRoom 3 (some .int) zU RX7) (hE : zE D (zyX cI cS cW) znX A s) (S : zSt) (H : Heap) (locs : List Loc) (ls : Array Slot) (hH : zH D (zwX cI cS cW q) A s S H locs) (hl : lv_has ls 3 [(0, .ref (q 4))]) (h : fX_X7_greatestRoom_Heap   S = some res) : W p l e rmX_X7_greatestRoom_Heap s m args below meth c H locs 0 0 (zQi below D (zwX cI cS cW q) (zyX cI cS cW) A args s res S) (F0 m 0 ls []) := by
  have hx := C.1
  have hb := C.2.1
  unfold fX_X7_greatestRoom_Heap at h
  refine lv_iconst (v := 0) hx hb dX7_greatestRoom_0 (by decide) ?_
  refine lv_istore_n (lv' := [(1, .int 0), (0, .ref (q 4))]) hx hb dX7_greatestRoom_1 rfl hl (by decide) rfl (fun ls hl => ?_)
  refine lv_iconst (v := 0) hx hb dX7_greatestRoom_2 (by decide) ?_
  refine lv_istore_n (lv' := [(2, .int 0), (1, .int 0), (0, .ref (q 4))]) hx hb dX7_greatestRoom_3 rfl hl (by decide) rfl (fun ls hl => ?_)
  exact bX_X7_greatestRoom_Heap_4 C hE   1000 0 0 S H locs ls hH (lv_sub hl [2, 1, 0] rfl) h
set_option maxHeartbeats 4000000 in
set_option maxRecDepth 100000 in
theorem cX_X7_greatestRoom_Heap (l : Launch) (D : va_G) (cI cS cW : ClassId) (q : Nat → Nat) (sz : Nat) (S : zSt) {res : Int32} (h : fX_X7_greatestRoom_Heap  S = some res) : zMi l yX7_greatestRoom vsX7_greatestRoom rmX_X7_greatestRoom_Heap [.ref (q 4)] D (zwX cI cS cW q) (zyX cI cS cW) znX sz S res S := by
  refine Met.ofW (cc := cX7_greatestRoom) (maxL := 3) (ret := (some .int)) (by decide) rfl ?_
  intro p e s m args below meth c s₁ B hml hv
  obtain ⟨rfl, rfl, hP, hK, hD0, hN⟩ := hv
  have hl := lv_entry ([.ref (q 4)]) (n := 3) (Nat.le_of_ble_eq_true rfl)
  rw [lg_entry_eq]
  generalize (lg_sl ([.ref (q 4)]) ++ List.replicate (3 - (lg_sl ([.ref (q 4)])).length) Slot.unset).toArray = ls at hl ⊢
  exact bX_X7_greatestRoom_Heap ⟨B.exec, B.bytes, hml, findClass_of_methodNamed B.named, fun w h => atoms_spec (ws := vsX7_greatestRoom) B.pre w (List.mem_cons_of_mem _ h), B.returns, B.notSynchronized⟩ ⟨hK, fun q h => Or.inr h, hN⟩  S s.heap [] ls ⟨hP, hD0.self, va_S.rf⟩ hl  h
def rmX_X7_greatestRoom_Bits : Room := { frames := 1, cells := 0, slots := 0, locals := 13 }
set_option maxHeartbeats 4000000 in
set_option maxRecDepth 100000 in
theorem bX_X7_greatestRoom_Bits_4 {p : Program} {l : Launch} {e : Env} {s : State} {m : MethodId} {args : Array Value} {below : List Frame} {meth : Method} {c : Code} {D : va_G} {cI cS cW : ClassId} {q : Nat → Nat} {A : Nat → Prop} {res : Int32} (C : zCX p s m args meth c cX7_greatestRoom 3 (some .int) zU RX7) (hE : zE D (zyX cI cS cW) znX A s) : ∀ (n : Nat) (x1 x2 : Int32) (S : zSt) (H : Heap) (locs : List Loc) (ls : Array Slot), zH D (zwX cI cS cW q) A s S H locs → lv_has ls 3 [(0, .ref (q 5)), (1, .int x1), (2, .int x2)] → fX_X7_greatestRoom_Bits_4  n x1 x2 S = some res → W p l e rmX_X7_greatestRoom_Bits s m args below meth c H locs 0 0 (zQi below D (zwX cI cS cW q) (zyX cI cS cW) A args s res S) (F0 m 4 ls []) := by
  have hx := C.1
  have hb := C.2.1
  intro n
  induction n with
  | zero =>
    intro x1 x2 S H locs ls hH hl  h
    cases h
  | succ n hK4 =>
    intro x1 x2 S H locs ls hH hl  h
    rw [fX_X7_greatestRoom_Bits_4] at h
    refine lv_iload_n hx hb dX7_greatestRoom_4 rfl (lv_at hl 2 rfl) ?_
    refine lv_aload_n hx hb dX7_greatestRoom_5 rfl (lv_at hl 0 rfl) ?_
    refine z_get C hE hH zX_o5 rfl zh_X0 3 (by decide) zk3_18 (fun _ h9 => h9) (v := .int (S.1 17)) rfl dX7_greatestRoom_6 ?_
    refine lv_icmp_ge (tgt := 29) hx hb dX7_greatestRoom_9 (by decide) (fun c1 => ?_) (fun c1 => ?_)
    · replace h := zif_t c1 h
      refine lv_iload_n hx hb dX7_greatestRoom_29 rfl (lv_at hl 1 rfl) ?_
      cases h
      exact z_iret C hE hH dX7_greatestRoom_30
    · replace h := zif_f c1 h
      refine lv_iload_n hx hb dX7_greatestRoom_12 rfl (lv_at hl 1 rfl) ?_
      refine lv_aload_n hx hb dX7_greatestRoom_13 rfl (lv_at hl 0 rfl) ?_
      refine z_get C hE hH zX_o5 rfl zh_X0 2 (by decide) zk3_17 (fun _ h9 => h9) (v := .ref (q 21)) rfl dX7_greatestRoom_14 ?_
      refine lv_iload_n hx hb dX7_greatestRoom_17 rfl (lv_at hl 2 rfl) ?_
      obtain ⟨g2, h⟩ := zgd_s h
      refine z_iald C hE hH zX_a21 (t0 := 0) rfl g2 dX7_greatestRoom_18 ?_
      refine z_mmax C hl.1 zk29_7 zk8_12 zk8_13 zk8_14 (Nat.le_of_ble_eq_true rfl) (Nat.le_of_ble_eq_true rfl) dX7_greatestRoom_19 ?_
      refine lv_istore_n (lv' := [(1, .int (zmax x1 (S.2 21 x2.toNatClampNeg))), (0, .ref (q 5)), (2, .int x2)]) hx hb dX7_greatestRoom_22 rfl hl (by decide) rfl (fun ls hl => ?_)
      refine lv_iinc (v := (x2 + 1)) (lv' := [(2, .int (x2 + 1)), (1, .int (zmax x1 (S.2 21 x2.toNatClampNeg))), (0, .ref (q 5))]) hx hb dX7_greatestRoom_23 hl (k := 2) rfl rfl (by decide) rfl (fun ls hl => ?_)
      refine lv_goto (tgt := 4) hx hb dX7_greatestRoom_26 (by decide) ?_
      exact hK4 (zmax x1 (S.2 21 x2.toNatClampNeg)) (x2 + 1) S H locs ls hH (lv_sub hl [2, 1, 0] rfl) h
set_option maxHeartbeats 4000000 in
set_option maxRecDepth 100000 in
theorem bX_X7_greatestRoom_Bits {p : Program} {l : Launch} {e : Env} {s : State} {m : MethodId} {args : Array Value} {below : List Frame} {meth : Method} {c : Code} {D : va_G} {cI cS cW : ClassId} {q : Nat → Nat} {A : Nat → Prop} {res : Int32} (C : zCX p s m args meth c cX7_greatestRoom 3 (some .int) zU RX7) (hE : zE D (zyX cI cS cW) znX A s) (S : zSt) (H : Heap) (locs : List Loc) (ls : Array Slot) (hH : zH D (zwX cI cS cW q) A s S H locs) (hl : lv_has ls 3 [(0, .ref (q 5))]) (h : fX_X7_greatestRoom_Bits   S = some res) : W p l e rmX_X7_greatestRoom_Bits s m args below meth c H locs 0 0 (zQi below D (zwX cI cS cW q) (zyX cI cS cW) A args s res S) (F0 m 0 ls []) := by
  have hx := C.1
  have hb := C.2.1
  unfold fX_X7_greatestRoom_Bits at h
  refine lv_iconst (v := 0) hx hb dX7_greatestRoom_0 (by decide) ?_
  refine lv_istore_n (lv' := [(1, .int 0), (0, .ref (q 5))]) hx hb dX7_greatestRoom_1 rfl hl (by decide) rfl (fun ls hl => ?_)
  refine lv_iconst (v := 0) hx hb dX7_greatestRoom_2 (by decide) ?_
  refine lv_istore_n (lv' := [(2, .int 0), (1, .int 0), (0, .ref (q 5))]) hx hb dX7_greatestRoom_3 rfl hl (by decide) rfl (fun ls hl => ?_)
  exact bX_X7_greatestRoom_Bits_4 C hE   1000 0 0 S H locs ls hH (lv_sub hl [2, 1, 0] rfl) h
set_option maxHeartbeats 4000000 in
set_option maxRecDepth 100000 in
theorem cX_X7_greatestRoom_Bits (l : Launch) (D : va_G) (cI cS cW : ClassId) (q : Nat → Nat) (sz : Nat) (S : zSt) {res : Int32} (h : fX_X7_greatestRoom_Bits  S = some res) : zMi l yX7_greatestRoom vsX7_greatestRoom rmX_X7_greatestRoom_Bits [.ref (q 5)] D (zwX cI cS cW q) (zyX cI cS cW) znX sz S res S := by
  refine Met.ofW (cc := cX7_greatestRoom) (maxL := 3) (ret := (some .int)) (by decide) rfl ?_
  intro p e s m args below meth c s₁ B hml hv
  obtain ⟨rfl, rfl, hP, hK, hD0, hN⟩ := hv
  have hl := lv_entry ([.ref (q 5)]) (n := 3) (Nat.le_of_ble_eq_true rfl)
  rw [lg_entry_eq]
  generalize (lg_sl ([.ref (q 5)]) ++ List.replicate (3 - (lg_sl ([.ref (q 5)])).length) Slot.unset).toArray = ls at hl ⊢
  exact bX_X7_greatestRoom_Bits ⟨B.exec, B.bytes, hml, findClass_of_methodNamed B.named, fun w h => atoms_spec (ws := vsX7_greatestRoom) B.pre w (List.mem_cons_of_mem _ h), B.returns, B.notSynchronized⟩ ⟨hK, fun q h => Or.inr h, hN⟩  S s.heap [] ls ⟨hP, hD0.self, va_S.rf⟩ hl  h

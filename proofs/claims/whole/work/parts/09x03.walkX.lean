def rmX_X10_lay : Room := { frames := 6, cells := 0, slots := 0, locals := 139 }
set_option maxHeartbeats 4000000 in
set_option maxRecDepth 100000 in
theorem bX_X10_lay_81 {p : Program} {l : Launch} {e : Env} {s : State} {m : MethodId} {args : Array Value} {below : List Frame} {meth : Method} {c : Code} {D : va_G} {cI cS cW : ClassId} {q : Nat → Nat} {A : Nat → Prop} {res : zSt} (C : zCX p s m args meth c cX10_lay 7 none zU RX10) (hE : zE D (zyX cI cS cW) znX A s) (K61 : (Int32 → Int32 → Int32 → Int32 → zSt → Option (zSt))) (hK61 : ∀ (x1 x2 x4 x5 : Int32) (S : zSt) (H : Heap) (locs : List Loc) (ls : Array Slot), zH D (zwX cI cS cW q) A s S H locs → lv_has ls 7 [(0, .ref (q 6)), (1, .int x1), (2, .int x2), (3, .ref (q 8)), (4, .int x4), (5, .int x5)] → K61 x1 x2 x4 x5 S = some res → W p l e rmX_X10_lay s m args below meth c H locs 0 0 (zQv below D (zwX cI cS cW q) (zyX cI cS cW) A args s res) (F0 m 61 ls [])) (x1 x2 x4 x5 : Int32) (S : zSt) (H : Heap) (locs : List Loc) (ls : Array Slot) (hH : zH D (zwX cI cS cW q) A s S H locs) (hl : lv_has ls 7 [(0, .ref (q 6)), (1, .int x1), (2, .int x2), (3, .ref (q 8)), (4, .int x4), (5, .int x5)]) (h : fX_X10_lay_81 K61 x1 x2 x4 x5 S = some res) : W p l e rmX_X10_lay s m args below meth c H locs 0 0 (zQv below D (zwX cI cS cW q) (zyX cI cS cW) A args s res) (F0 m 81 ls []) := by
  have hx := C.1
  have hb := C.2.1
  unfold fX_X10_lay_81 at h
  refine lv_iinc (v := (x5 + 1)) (lv' := [(5, .int (x5 + 1)), (0, .ref (q 6)), (1, .int x1), (2, .int x2), (3, .ref (q 8)), (4, .int x4)]) hx hb dX10_lay_81 hl (k := 5) rfl rfl (by decide) rfl (fun ls hl => ?_)
  refine lv_goto (tgt := 61) hx hb dX10_lay_84 (by decide) ?_
  exact hK61 x1 x2 x4 (x5 + 1) S H locs ls hH (lv_sub hl [1, 2, 3, 4, 5, 0] rfl) h
set_option maxHeartbeats 4000000 in
set_option maxRecDepth 100000 in
theorem bX_X10_lay_72 {p : Program} {l : Launch} {e : Env} {s : State} {m : MethodId} {args : Array Value} {below : List Frame} {meth : Method} {c : Code} {D : va_G} {cI cS cW : ClassId} {q : Nat → Nat} {A : Nat → Prop} {res : zSt} (C : zCX p s m args meth c cX10_lay 7 none zU RX10) (hE : zE D (zyX cI cS cW) znX A s) (K61 : (Int32 → Int32 → Int32 → Int32 → zSt → Option (zSt))) (hK61 : ∀ (x1 x2 x4 x5 : Int32) (S : zSt) (H : Heap) (locs : List Loc) (ls : Array Slot), zH D (zwX cI cS cW q) A s S H locs → lv_has ls 7 [(0, .ref (q 6)), (1, .int x1), (2, .int x2), (3, .ref (q 8)), (4, .int x4), (5, .int x5)] → K61 x1 x2 x4 x5 S = some res → W p l e rmX_X10_lay s m args below meth c H locs 0 0 (zQv below D (zwX cI cS cW q) (zyX cI cS cW) A args s res) (F0 m 61 ls [])) (k0 : Nat) (x1 x2 x4 x5 : Int32) (S : zSt) (H : Heap) (locs : List Loc) (ls : Array Slot) (hH : zH D (zwX cI cS cW q) A s S H locs) (hl : lv_has ls 7 [(0, .ref (q 6)), (1, .int x1), (2, .int x2), (3, .ref (q 8)), (4, .int x4), (5, .int x5)]) (hj_k0 : k0 < 6) (h : fX_X10_lay_72 K61 k0 x1 x2 x4 x5 S = some res) : W p l e rmX_X10_lay s m args below meth c H locs 0 0 (zQv below D (zwX cI cS cW q) (zyX cI cS cW) A args s res) (F0 m 72 ls [.ref (q k0)]) := by
  have hx := C.1
  have hb := C.2.1
  unfold fX_X10_lay_72 at h
  refine lv_astore (lv' := [(6, .ref (q k0)), (0, .ref (q 6)), (1, .int x1), (2, .int x2), (3, .ref (q 8)), (4, .int x4), (5, .int x5)]) hx hb dX10_lay_72 hl (by decide) rfl (fun ls hl => ?_)
  refine lv_aload hx hb dX10_lay_74 (lv_at hl 0 rfl) ?_
  refine lv_iload_n hx hb dX10_lay_76 rfl (lv_at hl 2 rfl) ?_
  refine lv_iload_n hx hb dX10_lay_77 rfl (lv_at hl 3 rfl) ?_
  obtain ⟨u1, e2, hh⟩ := zbd_s h
  clear h
  rcases z6 hj_k0 with rfl | rfl | rfl | rfl | rfl | rfl
  · have h := hh
    refine z_callv (va_runU (As := [.int x1, .int x2]) (rest := []) (z_fix C) (cX_X7_take_Row l D cI cS cW q H.size  x1 x2 S (fX_d_take_0.symm.trans e2)) (va_cwU 2 C.2.2.2.2.1 (zGU (x := ⟨"WhichShelf$Shelf", "take", "(II)V"⟩) (owner := "WhichShelf$Shelf") zk7_23 zk8_0 zk17_10 zk8_2 zk3_13 zk8_3) rfl rfl rfl rfl ydu_X7_take ⟨Nat.le_of_ble_eq_true rfl, Nat.le_of_ble_eq_true rfl⟩) (z_preV (zNmX hE) hE hH zX_o0 rfl) rfl rfl hl.1 rfl (lv_room (Nat.le_of_ble_eq_true rfl)) dX10_lay_78 ⟨Nat.le_refl 0, Nat.le_refl 0⟩) hE hH (fun H locs hH => ?_)
    exact bX_X10_lay_81 C hE K61 hK61 x1 x2 x4 x5 u1 H locs ls hH (lv_sub hl [1, 2, 3, 4, 5, 6] rfl) h
  · have h := hh
    refine z_callv (va_runU (As := [.int x1, .int x2]) (rest := []) (z_fix C) (cX_X7_take_Sorted l D cI cS cW q H.size  x1 x2 S (fX_d_take_1.symm.trans e2)) (va_cwU 2 C.2.2.2.2.1 (zGU (x := ⟨"WhichShelf$Shelf", "take", "(II)V"⟩) (owner := "WhichShelf$Shelf") zk7_23 zk8_0 zk17_11 zk8_2 zk3_13 zk8_3) rfl rfl rfl rfl ydu_X7_take ⟨Nat.le_of_ble_eq_true rfl, Nat.le_of_ble_eq_true rfl⟩) (z_preV (zNmX hE) hE hH zX_o1 rfl) rfl rfl hl.1 rfl (lv_room (Nat.le_of_ble_eq_true rfl)) dX10_lay_78 ⟨Nat.le_refl 0, Nat.le_refl 0⟩) hE hH (fun H locs hH => ?_)
    exact bX_X10_lay_81 C hE K61 hK61 x1 x2 x4 x5 u1 H locs ls hH (lv_sub hl [1, 2, 3, 4, 5, 6] rfl) h
  · have h := hh
    refine z_callv (va_runU (As := [.int x1, .int x2]) (rest := []) (z_fix C) (cX_X7_take_Hash l D cI cS cW q H.size  x1 x2 S (fX_d_take_2.symm.trans e2)) (va_cwU 2 C.2.2.2.2.1 (zGU (x := ⟨"WhichShelf$Shelf", "take", "(II)V"⟩) (owner := "WhichShelf$Shelf") zk7_23 zk8_0 zk17_8 zk8_2 zk3_13 zk8_3) rfl rfl rfl rfl ydu_X7_take ⟨Nat.le_of_ble_eq_true rfl, Nat.le_of_ble_eq_true rfl⟩) (z_preV (zNmX hE) hE hH zX_o2 rfl) rfl rfl hl.1 rfl (lv_room (Nat.le_of_ble_eq_true rfl)) dX10_lay_78 ⟨Nat.le_refl 0, Nat.le_refl 0⟩) hE hH (fun H locs hH => ?_)
    exact bX_X10_lay_81 C hE K61 hK61 x1 x2 x4 x5 u1 H locs ls hH (lv_sub hl [1, 2, 3, 4, 5, 6] rfl) h
  · have h := hh
    refine z_callv (va_runU (As := [.int x1, .int x2]) (rest := []) (z_fix C) (cX_X7_take_Tree l D cI cS cW q H.size  x1 x2 S (fX_d_take_3.symm.trans e2)) (va_cwU 2 C.2.2.2.2.1 (zGU (x := ⟨"WhichShelf$Shelf", "take", "(II)V"⟩) (owner := "WhichShelf$Shelf") zk7_23 zk8_0 zk17_12 zk8_2 zk3_13 zk8_3) rfl rfl rfl rfl ydu_X7_take ⟨Nat.le_of_ble_eq_true rfl, Nat.le_of_ble_eq_true rfl⟩) (z_preV (zNmX hE) hE hH zX_o3 rfl) rfl rfl hl.1 rfl (lv_room (Nat.le_of_ble_eq_true rfl)) dX10_lay_78 ⟨Nat.le_refl 0, Nat.le_refl 0⟩) hE hH (fun H locs hH => ?_)
    exact bX_X10_lay_81 C hE K61 hK61 x1 x2 x4 x5 u1 H locs ls hH (lv_sub hl [1, 2, 3, 4, 5, 6] rfl) h
  · have h := hh
    refine z_callv (va_runU (As := [.int x1, .int x2]) (rest := []) (z_fix C) (cX_X7_take_Heap l D cI cS cW q H.size  x1 x2 S (fX_d_take_4.symm.trans e2)) (va_cwU 2 C.2.2.2.2.1 (zGU (x := ⟨"WhichShelf$Shelf", "take", "(II)V"⟩) (owner := "WhichShelf$Shelf") zk7_23 zk8_0 zk17_9 zk8_2 zk3_13 zk8_3) rfl rfl rfl rfl ydu_X7_take ⟨Nat.le_of_ble_eq_true rfl, Nat.le_of_ble_eq_true rfl⟩) (z_preV (zNmX hE) hE hH zX_o4 rfl) rfl rfl hl.1 rfl (lv_room (Nat.le_of_ble_eq_true rfl)) dX10_lay_78 ⟨Nat.le_refl 0, Nat.le_refl 0⟩) hE hH (fun H locs hH => ?_)
    exact bX_X10_lay_81 C hE K61 hK61 x1 x2 x4 x5 u1 H locs ls hH (lv_sub hl [1, 2, 3, 4, 5, 6] rfl) h
  · have h := hh
    refine z_callv (va_runU (As := [.int x1, .int x2]) (rest := []) (z_fix C) (cX_X7_take_Bits l D cI cS cW q H.size  x1 x2 S (fX_d_take_5.symm.trans e2)) (va_cwU 2 C.2.2.2.2.1 (zGU (x := ⟨"WhichShelf$Shelf", "take", "(II)V"⟩) (owner := "WhichShelf$Shelf") zk7_23 zk8_0 zk8_1 zk8_2 zk3_13 zk8_3) rfl rfl rfl rfl ydu_X7_take ⟨Nat.le_of_ble_eq_true rfl, Nat.le_of_ble_eq_true rfl⟩) (z_preV (zNmX hE) hE hH zX_o5 rfl) rfl rfl hl.1 rfl (lv_room (Nat.le_of_ble_eq_true rfl)) dX10_lay_78 ⟨Nat.le_refl 0, Nat.le_refl 0⟩) hE hH (fun H locs hH => ?_)
    exact bX_X10_lay_81 C hE K61 hK61 x1 x2 x4 x5 u1 H locs ls hH (lv_sub hl [1, 2, 3, 4, 5, 6] rfl) h
set_option maxHeartbeats 4000000 in
set_option maxRecDepth 100000 in
theorem bX_X10_lay_61 {p : Program} {l : Launch} {e : Env} {s : State} {m : MethodId} {args : Array Value} {below : List Frame} {meth : Method} {c : Code} {D : va_G} {cI cS cW : ClassId} {q : Nat → Nat} {A : Nat → Prop} {res : zSt} (C : zCX p s m args meth c cX10_lay 7 none zU RX10) (hE : zE D (zyX cI cS cW) znX A s) : ∀ (n : Nat) (x1 x2 x4 x5 : Int32) (S : zSt) (H : Heap) (locs : List Loc) (ls : Array Slot), zH D (zwX cI cS cW q) A s S H locs → lv_has ls 7 [(0, .ref (q 6)), (1, .int x1), (2, .int x2), (3, .ref (q 8)), (4, .int x4), (5, .int x5)] → fX_X10_lay_61  n x1 x2 x4 x5 S = some res → W p l e rmX_X10_lay s m args below meth c H locs 0 0 (zQv below D (zwX cI cS cW q) (zyX cI cS cW) A args s res) (F0 m 61 ls []) := by
  have hx := C.1
  have hb := C.2.1
  intro n
  induction n with
  | zero =>
    intro x1 x2 x4 x5 S H locs ls hH hl  h
    cases h
  | succ n hK61 =>
    intro x1 x2 x4 x5 S H locs ls hH hl  h
    rw [fX_X10_lay_61] at h
    refine lv_iload hx hb dX10_lay_61 (lv_at hl 5 rfl) ?_
    refine lv_iload hx hb dX10_lay_63 (lv_at hl 4 rfl) ?_
    refine lv_icmp_ge (tgt := 87) hx hb dX10_lay_65 (by decide) (fun c1 => ?_) (fun c1 => ?_)
    · replace h := zif_t c1 h
      refine lv_aload_n hx hb dX10_lay_87 rfl (lv_at hl 0 rfl) ?_
      refine z_get C hE hH zX_o6 rfl zh_X10 5 (by decide) zk2_14 (fun _ h9 => h9) (v := .ref (q 31)) rfl dX10_lay_88 ?_
      refine lv_aload_n hx hb dX10_lay_91 rfl (lv_at hl 0 rfl) ?_
      refine z_get C hE hH zX_o6 rfl zh_X10 6 (by decide) zk2_15 (fun _ h9 => h9) (v := .int (S.1 0)) rfl dX10_lay_92 ?_
      refine lv_aload_n hx hb dX10_lay_95 rfl (lv_at hl 0 rfl) ?_
      refine z_get C hE hH zX_o6 rfl zh_X10 0 (by decide) zk1_16 (fun _ h9 => h9) (v := .ref (q 0)) rfl dX10_lay_96 ?_
      refine z_get C hE hH zX_o0 rfl zh_X6 3 (by decide) zk6_20 (u_same (C.2.2.2.2.1 _ zk6_21)) (v := .int (S.1 20)) rfl dX10_lay_99 ?_
      obtain ⟨g2, h⟩ := zgd_s h
      refine z_iast C hE hH zX_a31 (t0 := 0) rfl g2 zX_r31 dX10_lay_102 (fun H locs hH => ?_)
      refine lv_aload_n hx hb dX10_lay_103 rfl (lv_at hl 0 rfl) ?_
      refine lv_dup hx hb dX10_lay_104 rfl ?_
      refine z_get C hE hH zX_o6 rfl zh_X10 6 (by decide) zk2_15 (fun _ h9 => h9) (v := .int (S.1 0)) rfl dX10_lay_105 ?_
      refine lv_iconst (v := 1) hx hb dX10_lay_108 (by decide) ?_
      refine lv_iadd hx hb dX10_lay_109 ?_
      refine z_put C hE hH zX_o6 rfl zh_X10 tyX10_ok nmX10 6 (by decide) zk2_15 (fun _ h9 => h9) rfl (ty := .int) rfl rfl rfl (Nat.le_of_ble_eq_true rfl) zX_i0 dX10_lay_110 (fun H locs hH => ?_)
      refine lv_aload_n hx hb dX10_lay_113 rfl (lv_at hl 0 rfl) ?_
      refine lv_iconst (v := 0) hx hb dX10_lay_114 (by decide) ?_
      refine z_put C hE hH zX_o6 rfl zh_X10 tyX10_ok nmX10 12 (by decide) zk3_0 (fun _ h9 => h9) rfl (ty := .boolean) rfl rfl rfl (Nat.le_of_ble_eq_true rfl) zX_i5 dX10_lay_115 (fun H locs hH => ?_)
      cases h
      exact z_vret C hE hH dX10_lay_118
    · replace h := zif_f c1 h
      refine lv_aload_n hx hb dX10_lay_68 rfl (lv_at hl 3 rfl) ?_
      refine lv_iload hx hb dX10_lay_69 (lv_at hl 5 rfl) ?_
      obtain ⟨g3, h⟩ := zgd_s h
      refine z_aldq C hE hH zX_sh (t0 := 1) rfl g3 dX10_lay_71 ?_
      exact bX_X10_lay_72 C hE (fX_X10_lay_61  n) hK61 x5.toNatClampNeg x1 x2 x4 x5 S H locs ls hH (lv_sub hl [0, 1, 2, 3, 4, 5] rfl) (zin_lt g3) h
set_option maxHeartbeats 4000000 in
set_option maxRecDepth 100000 in
theorem bX_X10_lay {p : Program} {l : Launch} {e : Env} {s : State} {m : MethodId} {args : Array Value} {below : List Frame} {meth : Method} {c : Code} {D : va_G} {cI cS cW : ClassId} {q : Nat → Nat} {A : Nat → Prop} {res : zSt} (C : zCX p s m args meth c cX10_lay 7 none zU RX10) (hE : zE D (zyX cI cS cW) znX A s) (x1 x2 : Int32) (S : zSt) (H : Heap) (locs : List Loc) (ls : Array Slot) (hH : zH D (zwX cI cS cW q) A s S H locs) (hl : lv_has ls 7 [(0, .ref (q 6)), (1, .int x1), (2, .int x2)]) (h : fX_X10_lay  x1 x2 S = some res) : W p l e rmX_X10_lay s m args below meth c H locs 0 0 (zQv below D (zwX cI cS cW q) (zyX cI cS cW) A args s res) (F0 m 0 ls []) := by
  have hx := C.1
  have hb := C.2.1
  unfold fX_X10_lay at h
  refine lv_aload_n hx hb dX10_lay_0 rfl (lv_at hl 0 rfl) ?_
  refine z_get C hE hH zX_o6 rfl zh_X10 6 (by decide) zk2_15 (fun _ h9 => h9) (v := .int (S.1 0)) rfl dX10_lay_1 ?_
  refine lv_sipush (v := 200) hx hb dX10_lay_4 (by decide) ?_
  refine lv_icmp_lt (tgt := 11) hx hb dX10_lay_7 (by decide) (fun c1 => ?_) (fun c1 => ?_)
  · replace h := zif_t c1 h
    refine lv_aload_n hx hb dX10_lay_11 rfl (lv_at hl 0 rfl) ?_
    refine z_get C hE hH zX_o6 rfl zh_X10 2 (by decide) zk2_11 (fun _ h9 => h9) (v := .ref (q 28)) rfl dX10_lay_12 ?_
    refine lv_aload_n hx hb dX10_lay_15 rfl (lv_at hl 0 rfl) ?_
    refine z_get C hE hH zX_o6 rfl zh_X10 6 (by decide) zk2_15 (fun _ h9 => h9) (v := .int (S.1 0)) rfl dX10_lay_16 ?_
    refine lv_iload_n hx hb dX10_lay_19 rfl (lv_at hl 1 rfl) ?_
    obtain ⟨g2, h⟩ := zgd_s h
    refine z_iast C hE hH zX_a28 (t0 := 0) rfl g2 zX_r28 dX10_lay_20 (fun H locs hH => ?_)
    refine lv_aload_n hx hb dX10_lay_21 rfl (lv_at hl 0 rfl) ?_
    refine z_get C hE hH zX_o6 rfl zh_X10 3 (by decide) zk2_12 (fun _ h9 => h9) (v := .ref (q 29)) rfl dX10_lay_22 ?_
    refine lv_aload_n hx hb dX10_lay_25 rfl (lv_at hl 0 rfl) ?_
    refine z_get C hE hH zX_o6 rfl zh_X10 6 (by decide) zk2_15 (fun _ h9 => h9) (v := .int (S.1 0)) rfl dX10_lay_26 ?_
    refine lv_iload_n hx hb dX10_lay_29 rfl (lv_at hl 2 rfl) ?_
    obtain ⟨g3, h⟩ := zgd_s h
    refine z_iast C hE hH zX_a29 (t0 := 0) rfl g3 zX_r29 dX10_lay_30 (fun H locs hH => ?_)
    refine lv_aload_n hx hb dX10_lay_31 rfl (lv_at hl 0 rfl) ?_
    refine z_get C hE hH zX_o6 rfl zh_X10 4 (by decide) zk2_13 (fun _ h9 => h9) (v := .ref (q 30)) rfl dX10_lay_32 ?_
    refine lv_aload_n hx hb dX10_lay_35 rfl (lv_at hl 0 rfl) ?_
    refine z_get C hE hH zX_o6 rfl zh_X10 6 (by decide) zk2_15 (fun _ h9 => h9) (v := .int (S.1 0)) rfl dX10_lay_36 ?_
    refine lv_aload_n hx hb dX10_lay_39 rfl (lv_at hl 0 rfl) ?_
    refine z_get C hE hH zX_o6 rfl zh_X10 0 (by decide) zk1_16 (fun _ h9 => h9) (v := .ref (q 0)) rfl dX10_lay_40 ?_
    refine lv_iload_n hx hb dX10_lay_43 rfl (lv_at hl 1 rfl) ?_
    refine lv_iload_n hx hb dX10_lay_44 rfl (lv_at hl 2 rfl) ?_
    obtain ⟨u4, e5, h⟩ := zbd_s h
    refine z_calli (va_runV (As := [.int x1, .int x2]) (rest := [.int (S.1 0), .ref (q 30)]) (z_fix C) (cX_X6_answerTo l D cI cS cW q H.size  x1 x2 (zsR (zsR S 28 (S.1 0).toNatClampNeg x1) 29 (S.1 0).toNatClampNeg x2) e5) (cwV 2 C.2.2.2.2.1 (zGV zk6_22 zk6_23 zk7_0 zk1_15 zk7_1) rfl rfl rfl yd_X6_answerTo ⟨Nat.le_of_ble_eq_true rfl, Nat.le_of_ble_eq_true rfl⟩) (z_preV (zNmX hE) hE hH zX_o0 rfl) rfl rfl hl.1 rfl (lv_room (Nat.le_of_ble_eq_true rfl)) dX10_lay_45 ⟨Nat.le_refl 0, Nat.le_refl 0⟩) hE hH (fun H locs hH => ?_)
    obtain ⟨g6, h⟩ := zgd_s h
    refine z_iast C hE hH zX_a30 (t0 := 0) rfl g6 zX_r30 dX10_lay_48 (fun H locs hH => ?_)
    refine lv_aload_n hx hb dX10_lay_49 rfl (lv_at hl 0 rfl) ?_
    refine z_get C hE hH zX_o6 rfl zh_X10 1 (by decide) zk2_9 (fun _ h9 => h9) (v := .ref (q 8)) rfl dX10_lay_50 ?_
    refine lv_astore_n (lv' := [(3, .ref (q 8)), (0, .ref (q 6)), (1, .int x1), (2, .int x2)]) hx hb dX10_lay_53 rfl hl (by decide) rfl (fun ls hl => ?_)
    refine lv_aload_n hx hb dX10_lay_54 rfl (lv_at hl 0 rfl) ?_
    refine z_alen C hE hH zX_sh (t0 := 1) rfl (v := 6) rfl dX10_lay_55 ?_
    refine lv_istore (lv' := [(4, .int 6), (3, .ref (q 8)), (0, .ref (q 6)), (1, .int x1), (2, .int x2)]) hx hb dX10_lay_56 hl (by decide) rfl (fun ls hl => ?_)
    refine lv_iconst (v := 0) hx hb dX10_lay_58 (by decide) ?_
    refine lv_istore (lv' := [(5, .int 0), (4, .int 6), (3, .ref (q 8)), (0, .ref (q 6)), (1, .int x1), (2, .int x2)]) hx hb dX10_lay_59 hl (by decide) rfl (fun ls hl => ?_)
    exact bX_X10_lay_61 C hE   1000 x1 x2 6 0 (zsR (zsR (zsR S 28 (S.1 0).toNatClampNeg x1) 29 (S.1 0).toNatClampNeg x2) 30 (S.1 0).toNatClampNeg u4) H locs ls hH (lv_sub hl [3, 4, 5, 2, 1, 0] rfl) h
  · replace h := zif_f c1 h
    cases h
    exact z_vret C hE hH dX10_lay_10
set_option maxHeartbeats 4000000 in
set_option maxRecDepth 100000 in
theorem cX_X10_lay (l : Launch) (D : va_G) (cI cS cW : ClassId) (q : Nat → Nat) (sz : Nat) (x1 : Int32) (x2 : Int32) (S : zSt) {res : zSt} (h : fX_X10_lay x1 x2 S = some res) : zMv l yX10_lay vsX10_lay rmX_X10_lay [.ref (q 6), .int x1, .int x2] D (zwX cI cS cW q) (zyX cI cS cW) znX sz S res := by
  refine Met.ofW (cc := cX10_lay) (maxL := 7) (ret := none) (by decide) rfl ?_
  intro p e s m args below meth c s₁ B hml hv
  obtain ⟨rfl, rfl, hP, hK, hD0, hN⟩ := hv
  have hl := lv_entry ([.ref (q 6), .int x1, .int x2]) (n := 7) (Nat.le_of_ble_eq_true rfl)
  rw [lg_entry_eq]
  generalize (lg_sl ([.ref (q 6), .int x1, .int x2]) ++ List.replicate (7 - (lg_sl ([.ref (q 6), .int x1, .int x2])).length) Slot.unset).toArray = ls at hl ⊢
  exact bX_X10_lay ⟨B.exec, B.bytes, hml, findClass_of_methodNamed B.named, fun w h => atoms_spec (ws := vsX10_lay) B.pre w (List.mem_cons_of_mem _ h), B.returns, B.notSynchronized⟩ ⟨hK, fun q h => Or.inr h, hN⟩ x1 x2 S s.heap [] ls ⟨hP, hD0.self, va_S.rf⟩ hl  h
def rmX_X10_call : Room := { frames := 7, cells := 0, slots := 0, locals := 165 }
set_option maxHeartbeats 4000000 in
set_option maxRecDepth 100000 in
theorem bX_X10_call {p : Program} {l : Launch} {e : Env} {s : State} {m : MethodId} {args : Array Value} {below : List Frame} {meth : Method} {c : Code} {D : va_G} {cI cS cW : ClassId} {q : Nat → Nat} {A : Nat → Prop} {res : Int32 × zSt} (C : zCX p s m args meth c cX10_call 3 (some .int) zU RX10) (hE : zE D (zyX cI cS cW) znX A s) (x1 x2 : Int32) (S : zSt) (H : Heap) (locs : List Loc) (ls : Array Slot) (hH : zH D (zwX cI cS cW q) A s S H locs) (hl : lv_has ls 3 [(0, .ref (q 6)), (1, .int x1), (2, .int x2)]) (h : fX_X10_call  x1 x2 S = some res) : W p l e rmX_X10_call s m args below meth c H locs 0 0 (zQi below D (zwX cI cS cW q) (zyX cI cS cW) A args s res.1 res.2) (F0 m 0 ls []) := by
  have hx := C.1
  have hb := C.2.1
  unfold fX_X10_call at h
  refine lv_iload_n hx hb dX10_call_0 rfl (lv_at hl 1 rfl) ?_
  refine lv_if_lt (tgt := 27) hx hb dX10_call_1 (by decide) (fun c1 => ?_) (fun c1 => ?_)
  · replace h := zif_t c1 h
    refine lv_iconst (v := (-1)) hx hb dX10_call_27 (by decide) ?_
    cases h
    exact z_iret C hE hH dX10_call_28
  · replace h := zif_f c1 h
    refine lv_iload_n hx hb dX10_call_4 rfl (lv_at hl 1 rfl) ?_
    refine lv_bipush (v := 8) hx hb dX10_call_5 (by decide) ?_
    refine lv_icmp_ge (tgt := 27) hx hb dX10_call_7 (by decide) (fun c2 => ?_) (fun c2 => ?_)
    · replace h := zif_t c2 h
      refine lv_iconst (v := (-1)) hx hb dX10_call_27 (by decide) ?_
      cases h
      exact z_iret C hE hH dX10_call_28
    · replace h := zif_f c2 h
      refine lv_iload_n hx hb dX10_call_10 rfl (lv_at hl 2 rfl) ?_
      obtain ⟨u3, e4, h⟩ := zbd_s h
      refine z_calli (va_runS (As := [.int x2]) (rest := []) (z_fix C) (cX_X10_isKey l D cI cS cW q H.size  x2 S e4) (va_cwS 1 C.2.2.2.2.1 (zGS zk6_13 zk6_14 zk1_2 zk6_15) rfl rfl rfl yd_X10_isKey ⟨Nat.le_of_ble_eq_true rfl, Nat.le_of_ble_eq_true rfl⟩) (z_preS (zNmX hE) hE hH) rfl rfl hl.1 rfl (lv_room (Nat.le_of_ble_eq_true rfl)) dX10_call_11 ⟨Nat.le_refl 0, Nat.le_refl 0⟩) hE hH (fun H locs hH => ?_)
      refine lv_if_eq (tgt := 27) hx hb dX10_call_14 (by decide) (fun c5 => ?_) (fun c5 => ?_)
      · replace h := zif_t c5 h
        refine lv_iconst (v := (-1)) hx hb dX10_call_27 (by decide) ?_
        cases h
        exact z_iret C hE hH dX10_call_28
      · replace h := zif_f c5 h
        refine lv_aload_n hx hb dX10_call_17 rfl (lv_at hl 0 rfl) ?_
        refine z_get C hE hH zX_o6 rfl zh_X10 6 (by decide) zk2_15 (fun _ h9 => h9) (v := .int (S.1 0)) rfl dX10_call_18 ?_
        refine lv_sipush (v := 200) hx hb dX10_call_21 (by decide) ?_
        refine lv_icmp_lt (tgt := 29) hx hb dX10_call_24 (by decide) (fun c6 => ?_) (fun c6 => ?_)
        · replace h := zif_t c6 h
          refine lv_aload_n hx hb dX10_call_29 rfl (lv_at hl 0 rfl) ?_
          refine lv_iload_n hx hb dX10_call_30 rfl (lv_at hl 1 rfl) ?_
          refine lv_iload_n hx hb dX10_call_31 rfl (lv_at hl 2 rfl) ?_
          obtain ⟨u7, e8, h⟩ := zbd_s h
          refine z_callv (va_runV (As := [.int x1, .int x2]) (rest := []) (z_fix C) (cX_X10_lay l D cI cS cW q H.size  x1 x2 S e8) (cwV 2 C.2.2.2.2.1 (zGV zk6_16 zk6_17 zk6_18 zk1_2 zk6_19) rfl rfl rfl yd_X10_lay ⟨Nat.le_of_ble_eq_true rfl, Nat.le_of_ble_eq_true rfl⟩) (z_preV (zNmX hE) hE hH zX_o6 rfl) rfl rfl hl.1 rfl (lv_room (Nat.le_of_ble_eq_true rfl)) dX10_call_32 ⟨Nat.le_refl 0, Nat.le_refl 0⟩) hE hH (fun H locs hH => ?_)
          refine lv_aload_n hx hb dX10_call_35 rfl (lv_at hl 0 rfl) ?_
          refine z_get C hE hH zX_o6 rfl zh_X10 6 (by decide) zk2_15 (fun _ h9 => h9) (v := .int (u7.1 0)) rfl dX10_call_36 ?_
          refine lv_iconst (v := 1) hx hb dX10_call_39 (by decide) ?_
          refine lv_isub hx hb dX10_call_40 ?_
          cases h
          exact z_iret C hE hH dX10_call_41
        · replace h := zif_f c6 h
          refine lv_iconst (v := (-1)) hx hb dX10_call_27 (by decide) ?_
          cases h
          exact z_iret C hE hH dX10_call_28
set_option maxHeartbeats 4000000 in
set_option maxRecDepth 100000 in
theorem cX_X10_call (l : Launch) (D : va_G) (cI cS cW : ClassId) (q : Nat → Nat) (sz : Nat) (x1 : Int32) (x2 : Int32) (S : zSt) {res : Int32 × zSt} (h : fX_X10_call x1 x2 S = some res) : zMi l yX10_call vsX10_call rmX_X10_call [.ref (q 6), .int x1, .int x2] D (zwX cI cS cW q) (zyX cI cS cW) znX sz S res.1 res.2 := by
  refine Met.ofW (cc := cX10_call) (maxL := 3) (ret := (some .int)) (by decide) rfl ?_
  intro p e s m args below meth c s₁ B hml hv
  obtain ⟨rfl, rfl, hP, hK, hD0, hN⟩ := hv
  have hl := lv_entry ([.ref (q 6), .int x1, .int x2]) (n := 3) (Nat.le_of_ble_eq_true rfl)
  rw [lg_entry_eq]
  generalize (lg_sl ([.ref (q 6), .int x1, .int x2]) ++ List.replicate (3 - (lg_sl ([.ref (q 6), .int x1, .int x2])).length) Slot.unset).toArray = ls at hl ⊢
  exact bX_X10_call ⟨B.exec, B.bytes, hml, findClass_of_methodNamed B.named, fun w h => atoms_spec (ws := vsX10_call) B.pre w (List.mem_cons_of_mem _ h), B.returns, B.notSynchronized⟩ ⟨hK, fun q h => Or.inr h, hN⟩ x1 x2 S s.heap [] ls ⟨hP, hD0.self, va_S.rf⟩ hl  h
def rmX_X10_drawnAfter : Room := { frames := 0, cells := 0, slots := 0, locals := 0 }
set_option maxHeartbeats 4000000 in
set_option maxRecDepth 100000 in
theorem bX_X10_drawnAfter {p : Program} {l : Launch} {e : Env} {s : State} {m : MethodId} {args : Array Value} {below : List Frame} {meth : Method} {c : Code} {D : va_G} {cI cS cW : ClassId} {q : Nat → Nat} {A : Nat → Prop} {res : Int32} (C : zCX p s m args meth c cX10_drawnAfter 1 (some .int) zU RX10) (hE : zE D (zyX cI cS cW) znX A s) (x0 : Int32) (S : zSt) (H : Heap) (locs : List Loc) (ls : Array Slot) (hH : zH D (zwX cI cS cW q) A s S H locs) (hl : lv_has ls 1 [(0, .int x0)]) (h : fX_X10_drawnAfter  x0 S = some res) : W p l e rmX_X10_drawnAfter s m args below meth c H locs 0 0 (zQi below D (zwX cI cS cW q) (zyX cI cS cW) A args s res S) (F0 m 0 ls []) := by
  have hx := C.1
  have hb := C.2.1
  unfold fX_X10_drawnAfter at h
  refine lv_iload_n hx hb dX10_drawnAfter_0 rfl (lv_at hl 0 rfl) ?_
  refine lv_ldc (v := 1103515245) hx hb C.2.2.2.1 (C.2.2.2.2.1 _ zk18_10) dX10_drawnAfter_1 ?_
  refine lv_imul hx hb dX10_drawnAfter_3 ?_
  refine lv_sipush (v := 12345) hx hb dX10_drawnAfter_4 (by decide) ?_
  refine lv_iadd hx hb dX10_drawnAfter_7 ?_
  cases h
  exact z_iret C hE hH dX10_drawnAfter_8
set_option maxHeartbeats 4000000 in
set_option maxRecDepth 100000 in
theorem cX_X10_drawnAfter (l : Launch) (D : va_G) (cI cS cW : ClassId) (q : Nat → Nat) (sz : Nat) (x0 : Int32) (S : zSt) {res : Int32} (h : fX_X10_drawnAfter x0 S = some res) : zMi l yX10_drawnAfter vsX10_drawnAfter rmX_X10_drawnAfter [.int x0] D (zwX cI cS cW q) (zyX cI cS cW) znX sz S res S := by
  refine Met.ofW (cc := cX10_drawnAfter) (maxL := 1) (ret := (some .int)) (by decide) rfl ?_
  intro p e s m args below meth c s₁ B hml hv
  obtain ⟨rfl, rfl, hP, hK, hD0, hN⟩ := hv
  have hl := lv_entry ([.int x0]) (n := 1) (Nat.le_of_ble_eq_true rfl)
  rw [lg_entry_eq]
  generalize (lg_sl ([.int x0]) ++ List.replicate (1 - (lg_sl ([.int x0])).length) Slot.unset).toArray = ls at hl ⊢
  exact bX_X10_drawnAfter ⟨B.exec, B.bytes, hml, findClass_of_methodNamed B.named, fun w h => atoms_spec (ws := vsX10_drawnAfter) B.pre w (List.mem_cons_of_mem _ h), B.returns, B.notSynchronized⟩ ⟨hK, fun q h => Or.inr h, hN⟩ x0 S s.heap [] ls ⟨hP, hD0.self, va_S.rf⟩ hl  h
def rmX_X10_draw : Room := { frames := 7, cells := 0, slots := 0, locals := 165 }
set_option maxHeartbeats 4000000 in
set_option maxRecDepth 100000 in
theorem bX_X10_draw_102 {p : Program} {l : Launch} {e : Env} {s : State} {m : MethodId} {args : Array Value} {below : List Frame} {meth : Method} {c : Code} {D : va_G} {cI cS cW : ClassId} {q : Nat → Nat} {A : Nat → Prop} {res : Int32 × zSt} (C : zCX p s m args meth c cX10_draw 8 (some .int) zU RX10) (hE : zE D (zyX cI cS cW) znX A s) (K54 : (Int32 → Int32 → Int32 → Int32 → Int32 → zSt → Option (Int32 × zSt))) (hK54 : ∀ (x2 x3 x4 x5 x6 : Int32) (S : zSt) (H : Heap) (locs : List Loc) (ls : Array Slot), zH D (zwX cI cS cW q) A s S H locs → lv_has ls 8 [(0, .ref (q 6)), (2, .int x2), (3, .int x3), (4, .int x4), (5, .int x5), (6, .int x6)] → K54 x2 x3 x4 x5 x6 S = some res → W p l e rmX_X10_draw s m args below meth c H locs 0 0 (zQi below D (zwX cI cS cW q) (zyX cI cS cW) A args s res.1 res.2) (F0 m 54 ls [])) (x2 x3 x4 x5 x6 t1 : Int32) (S : zSt) (H : Heap) (locs : List Loc) (ls : Array Slot) (hH : zH D (zwX cI cS cW q) A s S H locs) (hl : lv_has ls 8 [(0, .ref (q 6)), (2, .int x2), (3, .int x3), (4, .int x4), (5, .int x5), (6, .int x6)]) (h : fX_X10_draw_102 K54 x2 x3 x4 x5 x6 t1 S = some res) : W p l e rmX_X10_draw s m args below meth c H locs 0 0 (zQi below D (zwX cI cS cW q) (zyX cI cS cW) A args s res.1 res.2) (F0 m 102 ls [.int t1, .ref (q 6)]) := by
  have hx := C.1
  have hb := C.2.1
  unfold fX_X10_draw_102 at h
  refine lv_iload hx hb dX10_draw_102 (lv_at hl 4 rfl) ?_
  refine lv_bipush (v := 16) hx hb dX10_draw_104 (by decide) ?_
  refine lv_iushr (v := zush x5 16) hx hb dX10_draw_106 rfl ?_
  refine lv_iload_n hx hb dX10_draw_107 rfl (lv_at hl 2 rfl) ?_
  obtain ⟨g1, h⟩ := zgd_s h
  refine lv_irem hx hb dX10_draw_108 (znz_v g1) ?_
  obtain ⟨u2, e3, h⟩ := zbd_s h
  refine z_callv (va_runV (As := [.int t1, .int (zrem (zush x5 16) x3)]) (rest := []) (z_fix C) (cX_X10_lay l D cI cS cW q H.size  t1 (zrem (zush x5 16) x3) S e3) (cwV 2 C.2.2.2.2.1 (zGV zk6_16 zk6_17 zk6_18 zk1_2 zk6_19) rfl rfl rfl yd_X10_lay ⟨Nat.le_of_ble_eq_true rfl, Nat.le_of_ble_eq_true rfl⟩) (z_preV (zNmX hE) hE hH zX_o6 rfl) rfl rfl hl.1 rfl (lv_room (Nat.le_of_ble_eq_true rfl)) dX10_draw_109 ⟨Nat.le_refl 0, Nat.le_refl 0⟩) hE hH (fun H locs hH => ?_)
  refine lv_iinc (v := (x6 + 1)) (lv' := [(6, .int (x6 + 1)), (0, .ref (q 6)), (2, .int x2), (3, .int x3), (4, .int x4), (5, .int x5)]) hx hb dX10_draw_112 hl (k := 5) rfl rfl (by decide) rfl (fun ls hl => ?_)
  refine lv_goto (tgt := 54) hx hb dX10_draw_115 (by decide) ?_
  exact hK54 x2 x3 x4 x5 (x6 + 1) u2 H locs ls hH (lv_sub hl [1, 2, 3, 4, 5, 0] rfl) h
set_option maxHeartbeats 4000000 in
set_option maxRecDepth 100000 in
theorem bX_X10_draw_54 {p : Program} {l : Launch} {e : Env} {s : State} {m : MethodId} {args : Array Value} {below : List Frame} {meth : Method} {c : Code} {D : va_G} {cI cS cW : ClassId} {q : Nat → Nat} {A : Nat → Prop} {res : Int32 × zSt} (C : zCX p s m args meth c cX10_draw 8 (some .int) zU RX10) (hE : zE D (zyX cI cS cW) znX A s) : ∀ (n : Nat) (x2 x3 x4 x5 x6 : Int32) (S : zSt) (H : Heap) (locs : List Loc) (ls : Array Slot), zH D (zwX cI cS cW q) A s S H locs → lv_has ls 8 [(0, .ref (q 6)), (2, .int x2), (3, .int x3), (4, .int x4), (5, .int x5), (6, .int x6)] → fX_X10_draw_54  n x2 x3 x4 x5 x6 S = some res → W p l e rmX_X10_draw s m args below meth c H locs 0 0 (zQi below D (zwX cI cS cW q) (zyX cI cS cW) A args s res.1 res.2) (F0 m 54 ls []) := by
  have hx := C.1
  have hb := C.2.1
  intro n
  induction n with
  | zero =>
    intro x2 x3 x4 x5 x6 S H locs ls hH hl  h
    cases h
  | succ n hK54 =>
    intro x2 x3 x4 x5 x6 S H locs ls hH hl  h
    rw [fX_X10_draw_54] at h
    refine lv_iload hx hb dX10_draw_54 (lv_at hl 5 rfl) ?_
    refine lv_iload_n hx hb dX10_draw_56 rfl (lv_at hl 1 rfl) ?_
    refine lv_icmp_ge (tgt := 118) hx hb dX10_draw_57 (by decide) (fun c1 => ?_) (fun c1 => ?_)
    · replace h := zif_t c1 h
      refine lv_aload_n hx hb dX10_draw_118 rfl (lv_at hl 0 rfl) ?_
      refine z_get C hE hH zX_o6 rfl zh_X10 6 (by decide) zk2_15 (fun _ h9 => h9) (v := .int (S.1 0)) rfl dX10_draw_119 ?_
      cases h
      exact z_iret C hE hH dX10_draw_122
    · replace h := zif_f c1 h
      refine lv_iload hx hb dX10_draw_60 (lv_at hl 4 rfl) ?_
      obtain ⟨u2, e3, h⟩ := zbd_s h
      refine z_calli (va_runS (As := [.int x5]) (rest := []) (z_fix C) (cX_X10_drawnAfter l D cI cS cW q H.size  x5 S e3) (va_cwS 1 C.2.2.2.2.1 (zGS zk18_7 zk18_8 zk1_2 zk18_9) rfl rfl rfl yd_X10_drawnAfter ⟨Nat.le_of_ble_eq_true rfl, Nat.le_of_ble_eq_true rfl⟩) (z_preS (zNmX hE) hE hH) rfl rfl hl.1 rfl (lv_room (Nat.le_of_ble_eq_true rfl)) dX10_draw_62 ⟨Nat.le_refl 0, Nat.le_refl 0⟩) hE hH (fun H locs hH => ?_)
      refine lv_istore (lv' := [(5, .int u2), (0, .ref (q 6)), (2, .int x2), (3, .int x3), (4, .int x4), (6, .int x6)]) hx hb dX10_draw_65 hl (by decide) rfl (fun ls hl => ?_)
      refine lv_iload hx hb dX10_draw_67 (lv_at hl 0 rfl) ?_
      refine lv_bipush (v := 16) hx hb dX10_draw_69 (by decide) ?_
      refine lv_iushr (v := zush u2 16) hx hb dX10_draw_71 rfl ?_
      refine lv_bipush (v := 8) hx hb dX10_draw_72 (by decide) ?_
      refine lv_irem hx hb dX10_draw_74 (by decide) ?_
      refine lv_istore (lv' := [(7, .int (zrem (zush u2 16) 8)), (5, .int u2), (0, .ref (q 6)), (2, .int x2), (3, .int x3), (4, .int x4), (6, .int x6)]) hx hb dX10_draw_75 hl (by decide) rfl (fun ls hl => ?_)
      refine lv_iload hx hb dX10_draw_77 (lv_at hl 1 rfl) ?_
      obtain ⟨u4, e5, h⟩ := zbd_s h
      refine z_calli (va_runS (As := [.int u2]) (rest := []) (z_fix C) (cX_X10_drawnAfter l D cI cS cW q H.size  u2 S e5) (va_cwS 1 C.2.2.2.2.1 (zGS zk18_7 zk18_8 zk1_2 zk18_9) rfl rfl rfl yd_X10_drawnAfter ⟨Nat.le_of_ble_eq_true rfl, Nat.le_of_ble_eq_true rfl⟩) (z_preS (zNmX hE) hE hH) rfl rfl hl.1 rfl (lv_room (Nat.le_of_ble_eq_true rfl)) dX10_draw_79 ⟨Nat.le_refl 0, Nat.le_refl 0⟩) hE hH (fun H locs hH => ?_)
      refine lv_istore (lv' := [(5, .int u4), (7, .int (zrem (zush u2 16) 8)), (0, .ref (q 6)), (2, .int x2), (3, .int x3), (4, .int x4), (6, .int x6)]) hx hb dX10_draw_82 hl (by decide) rfl (fun ls hl => ?_)
      refine lv_aload_n hx hb dX10_draw_84 rfl (lv_at hl 2 rfl) ?_
      refine lv_iload hx hb dX10_draw_85 (lv_at hl 5 rfl) ?_
      refine lv_iload hx hb dX10_draw_87 (lv_at hl 1 rfl) ?_
      refine lv_ishr hx hb dX10_draw_89 ?_
      refine lv_iconst (v := 1) hx hb dX10_draw_90 (by decide) ?_
      refine lv_iand hx hb dX10_draw_91 ?_
      refine lv_iconst (v := 1) hx hb dX10_draw_92 (by decide) ?_
      refine lv_icmp_ne (tgt := 101) hx hb dX10_draw_93 (by decide) (fun c6 => ?_) (fun c6 => ?_)
      · replace h := zif_f c6 h
        refine lv_iconst (v := 0) hx hb dX10_draw_101 (by decide) ?_
        exact bX_X10_draw_102 C hE (fX_X10_draw_54  n) hK54 x2 x3 x4 u4 x6 0 S H locs ls hH (lv_sub hl [2, 3, 4, 5, 0, 6] rfl) h
      · replace h := zif_t c6 h
        refine lv_iload hx hb dX10_draw_96 (lv_at hl 1 rfl) ?_
        refine lv_goto (tgt := 102) hx hb dX10_draw_98 (by decide) ?_
        exact bX_X10_draw_102 C hE (fX_X10_draw_54  n) hK54 x2 x3 x4 u4 x6 (zrem (zush u2 16) 8) S H locs ls hH (lv_sub hl [2, 3, 4, 5, 0, 6] rfl) h
set_option maxHeartbeats 4000000 in
set_option maxRecDepth 100000 in
theorem bX_X10_draw {p : Program} {l : Launch} {e : Env} {s : State} {m : MethodId} {args : Array Value} {below : List Frame} {meth : Method} {c : Code} {D : va_G} {cI cS cW : ClassId} {q : Nat → Nat} {A : Nat → Prop} {res : Int32 × zSt} (C : zCX p s m args meth c cX10_draw 8 (some .int) zU RX10) (hE : zE D (zyX cI cS cW) znX A s) (x1 x2 x3 x4 : Int32) (S : zSt) (H : Heap) (locs : List Loc) (ls : Array Slot) (hH : zH D (zwX cI cS cW q) A s S H locs) (hl : lv_has ls 8 [(0, .ref (q 6)), (1, .int x1), (2, .int x2), (3, .int x3), (4, .int x4)]) (h : fX_X10_draw  x1 x2 x3 x4 S = some res) : W p l e rmX_X10_draw s m args below meth c H locs 0 0 (zQi below D (zwX cI cS cW q) (zyX cI cS cW) A args s res.1 res.2) (F0 m 0 ls []) := by
  have hx := C.1
  have hb := C.2.1
  unfold fX_X10_draw at h
  refine lv_iload_n hx hb dX10_draw_0 rfl (lv_at hl 2 rfl) ?_
  refine lv_if_lt (tgt := 46) hx hb dX10_draw_1 (by decide) (fun c1 => ?_) (fun c1 => ?_)
  · replace h := zif_t c1 h
    refine lv_iconst (v := (-1)) hx hb dX10_draw_46 (by decide) ?_
    cases h
    exact z_iret C hE hH dX10_draw_47
  · replace h := zif_f c1 h
    refine lv_iload_n hx hb dX10_draw_4 rfl (lv_at hl 2 rfl) ?_
    refine lv_bipush (v := 100) hx hb dX10_draw_5 (by decide) ?_
    refine lv_icmp_gt (tgt := 46) hx hb dX10_draw_7 (by decide) (fun c2 => ?_) (fun c2 => ?_)
    · replace h := zif_t c2 h
      refine lv_iconst (v := (-1)) hx hb dX10_draw_46 (by decide) ?_
      cases h
      exact z_iret C hE hH dX10_draw_47
    · replace h := zif_f c2 h
      refine lv_iload_n hx hb dX10_draw_10 rfl (lv_at hl 3 rfl) ?_
      refine lv_iconst (v := 1) hx hb dX10_draw_11 (by decide) ?_
      refine lv_icmp_lt (tgt := 46) hx hb dX10_draw_12 (by decide) (fun c3 => ?_) (fun c3 => ?_)
      · replace h := zif_t c3 h
        refine lv_iconst (v := (-1)) hx hb dX10_draw_46 (by decide) ?_
        cases h
        exact z_iret C hE hH dX10_draw_47
      · replace h := zif_f c3 h
        refine lv_iload_n hx hb dX10_draw_15 rfl (lv_at hl 3 rfl) ?_
        refine lv_bipush (v := 64) hx hb dX10_draw_16 (by decide) ?_
        refine lv_icmp_gt (tgt := 46) hx hb dX10_draw_18 (by decide) (fun c4 => ?_) (fun c4 => ?_)
        · replace h := zif_t c4 h
          refine lv_iconst (v := (-1)) hx hb dX10_draw_46 (by decide) ?_
          cases h
          exact z_iret C hE hH dX10_draw_47
        · replace h := zif_f c4 h
          refine lv_iload hx hb dX10_draw_21 (lv_at hl 4 rfl) ?_
          refine lv_if_lt (tgt := 46) hx hb dX10_draw_23 (by decide) (fun c5 => ?_) (fun c5 => ?_)
          · replace h := zif_t c5 h
            refine lv_iconst (v := (-1)) hx hb dX10_draw_46 (by decide) ?_
            cases h
            exact z_iret C hE hH dX10_draw_47
          · replace h := zif_f c5 h
            refine lv_iload hx hb dX10_draw_26 (lv_at hl 4 rfl) ?_
            refine lv_sipush (v := 255) hx hb dX10_draw_28 (by decide) ?_
            refine lv_icmp_gt (tgt := 46) hx hb dX10_draw_31 (by decide) (fun c6 => ?_) (fun c6 => ?_)
            · replace h := zif_t c6 h
              refine lv_iconst (v := (-1)) hx hb dX10_draw_46 (by decide) ?_
              cases h
              exact z_iret C hE hH dX10_draw_47
            · replace h := zif_f c6 h
              refine lv_iload_n hx hb dX10_draw_34 rfl (lv_at hl 2 rfl) ?_
              refine lv_sipush (v := 200) hx hb dX10_draw_35 (by decide) ?_
              refine lv_aload_n hx hb dX10_draw_38 rfl (lv_at hl 0 rfl) ?_
              refine z_get C hE hH zX_o6 rfl zh_X10 6 (by decide) zk2_15 (fun _ h9 => h9) (v := .int (S.1 0)) rfl dX10_draw_39 ?_
              refine lv_isub hx hb dX10_draw_42 ?_
              refine lv_icmp_le (tgt := 48) hx hb dX10_draw_43 (by decide) (fun c7 => ?_) (fun c7 => ?_)
              · replace h := zif_t c7 h
                refine lv_iload_n hx hb dX10_draw_48 rfl (lv_at hl 1 rfl) ?_
                refine lv_istore (lv' := [(5, .int x1), (0, .ref (q 6)), (1, .int x1), (2, .int x2), (3, .int x3), (4, .int x4)]) hx hb dX10_draw_49 hl (by decide) rfl (fun ls hl => ?_)
                refine lv_iconst (v := 0) hx hb dX10_draw_51 (by decide) ?_
                refine lv_istore (lv' := [(6, .int 0), (5, .int x1), (0, .ref (q 6)), (1, .int x1), (2, .int x2), (3, .int x3), (4, .int x4)]) hx hb dX10_draw_52 hl (by decide) rfl (fun ls hl => ?_)
                exact bX_X10_draw_54 C hE   1000 x2 x3 x4 x1 0 S H locs ls hH (lv_sub hl [2, 4, 5, 6, 1, 0] rfl) h
              · replace h := zif_f c7 h
                refine lv_iconst (v := (-1)) hx hb dX10_draw_46 (by decide) ?_
                cases h
                exact z_iret C hE hH dX10_draw_47
set_option maxHeartbeats 4000000 in
set_option maxRecDepth 100000 in
theorem cX_X10_draw (l : Launch) (D : va_G) (cI cS cW : ClassId) (q : Nat → Nat) (sz : Nat) (x1 : Int32) (x2 : Int32) (x3 : Int32) (x4 : Int32) (S : zSt) {res : Int32 × zSt} (h : fX_X10_draw x1 x2 x3 x4 S = some res) : zMi l yX10_draw vsX10_draw rmX_X10_draw [.ref (q 6), .int x1, .int x2, .int x3, .int x4] D (zwX cI cS cW q) (zyX cI cS cW) znX sz S res.1 res.2 := by
  refine Met.ofW (cc := cX10_draw) (maxL := 8) (ret := (some .int)) (by decide) rfl ?_
  intro p e s m args below meth c s₁ B hml hv
  obtain ⟨rfl, rfl, hP, hK, hD0, hN⟩ := hv
  have hl := lv_entry ([.ref (q 6), .int x1, .int x2, .int x3, .int x4]) (n := 8) (Nat.le_of_ble_eq_true rfl)
  rw [lg_entry_eq]
  generalize (lg_sl ([.ref (q 6), .int x1, .int x2, .int x3, .int x4]) ++ List.replicate (8 - (lg_sl ([.ref (q 6), .int x1, .int x2, .int x3, .int x4])).length) Slot.unset).toArray = ls at hl ⊢
  exact bX_X10_draw ⟨B.exec, B.bytes, hml, findClass_of_methodNamed B.named, fun w h => atoms_spec (ws := vsX10_draw) B.pre w (List.mem_cons_of_mem _ h), B.returns, B.notSynchronized⟩ ⟨hK, fun q h => Or.inr h, hN⟩ x1 x2 x3 x4 S s.heap [] ls ⟨hP, hD0.self, va_S.rf⟩ hl  h
def rmX_X4_clear_Row : Room := { frames := 0, cells := 0, slots := 0, locals := 0 }
set_option maxHeartbeats 4000000 in
set_option maxRecDepth 100000 in
theorem bX_X4_clear_Row {p : Program} {l : Launch} {e : Env} {s : State} {m : MethodId} {args : Array Value} {below : List Frame} {meth : Method} {c : Code} {D : va_G} {cI cS cW : ClassId} {q : Nat → Nat} {A : Nat → Prop} {res : zSt} (C : zCX p s m args meth c cX4_clear 1 none zU RX4) (hE : zE D (zyX cI cS cW) znX A s) (S : zSt) (H : Heap) (locs : List Loc) (ls : Array Slot) (hH : zH D (zwX cI cS cW q) A s S H locs) (hl : lv_has ls 1 [(0, .ref (q 0))]) (h : fX_X4_clear_Row   S = some res) : W p l e rmX_X4_clear_Row s m args below meth c H locs 0 0 (zQv below D (zwX cI cS cW q) (zyX cI cS cW) A args s res) (F0 m 0 ls []) := by
  have hx := C.1
  have hb := C.2.1
  unfold fX_X4_clear_Row at h
  refine lv_aload_n hx hb dX4_clear_0 rfl (lv_at hl 0 rfl) ?_
  refine lv_aload_n hx hb dX4_clear_1 rfl (lv_at hl 0 rfl) ?_
  refine z_get C hE hH zX_o0 rfl zh_X6 1 (by decide) zk3_10 (fun _ h9 => h9) (v := .int (S.1 18)) rfl dX4_clear_2 ?_
  refine z_put C hE hH zX_o0 rfl zh_X6 tyX6_ok nmX6 2 (by decide) zk3_11 (fun _ h9 => h9) rfl (ty := .int) rfl rfl rfl (Nat.le_of_ble_eq_true rfl) zX_i19 dX4_clear_5 (fun H locs hH => ?_)
  refine lv_aload_n hx hb dX4_clear_8 rfl (lv_at hl 0 rfl) ?_
  refine lv_iconst (v := 0) hx hb dX4_clear_9 (by decide) ?_
  refine z_put C hE hH zX_o0 rfl zh_X6 tyX6_ok nmX6 3 (by decide) zk3_9 (fun _ h9 => h9) rfl (ty := .int) rfl rfl rfl (Nat.le_of_ble_eq_true rfl) zX_i20 dX4_clear_10 (fun H locs hH => ?_)
  cases h
  exact z_vret C hE hH dX4_clear_13
set_option maxHeartbeats 4000000 in
set_option maxRecDepth 100000 in
theorem cX_X4_clear_Row (l : Launch) (D : va_G) (cI cS cW : ClassId) (q : Nat → Nat) (sz : Nat) (S : zSt) {res : zSt} (h : fX_X4_clear_Row  S = some res) : zMv l yX4_clear vsX4_clear rmX_X4_clear_Row [.ref (q 0)] D (zwX cI cS cW q) (zyX cI cS cW) znX sz S res := by
  refine Met.ofW (cc := cX4_clear) (maxL := 1) (ret := none) (by decide) rfl ?_
  intro p e s m args below meth c s₁ B hml hv
  obtain ⟨rfl, rfl, hP, hK, hD0, hN⟩ := hv
  have hl := lv_entry ([.ref (q 0)]) (n := 1) (Nat.le_of_ble_eq_true rfl)
  rw [lg_entry_eq]
  generalize (lg_sl ([.ref (q 0)]) ++ List.replicate (1 - (lg_sl ([.ref (q 0)])).length) Slot.unset).toArray = ls at hl ⊢
  exact bX_X4_clear_Row ⟨B.exec, B.bytes, hml, findClass_of_methodNamed B.named, fun w h => atoms_spec (ws := vsX4_clear) B.pre w (List.mem_cons_of_mem _ h), B.returns, B.notSynchronized⟩ ⟨hK, fun q h => Or.inr h, hN⟩  S s.heap [] ls ⟨hP, hD0.self, va_S.rf⟩ hl  h
def rmX_X7_restart_Row : Room := { frames := 1, cells := 0, slots := 0, locals := 20 }
set_option maxHeartbeats 4000000 in
set_option maxRecDepth 100000 in
theorem bX_X7_restart_Row {p : Program} {l : Launch} {e : Env} {s : State} {m : MethodId} {args : Array Value} {below : List Frame} {meth : Method} {c : Code} {D : va_G} {cI cS cW : ClassId} {q : Nat → Nat} {A : Nat → Prop} {res : zSt} (C : zCX p s m args meth c cX7_restart 1 none zU RX7) (hE : zE D (zyX cI cS cW) znX A s) (S : zSt) (H : Heap) (locs : List Loc) (ls : Array Slot) (hH : zH D (zwX cI cS cW q) A s S H locs) (hl : lv_has ls 1 [(0, .ref (q 0))]) (h : fX_X7_restart_Row   S = some res) : W p l e rmX_X7_restart_Row s m args below meth c H locs 0 0 (zQv below D (zwX cI cS cW q) (zyX cI cS cW) A args s res) (F0 m 0 ls []) := by
  have hx := C.1
  have hb := C.2.1
  unfold fX_X7_restart_Row at h
  refine lv_aload_n hx hb dX7_restart_0 rfl (lv_at hl 0 rfl) ?_
  refine lv_iconst (v := 0) hx hb dX7_restart_1 (by decide) ?_
  refine z_put C hE hH zX_o0 rfl zh_X6 tyX6_ok nmX6 6 (by decide) zk3_18 (fun _ h9 => h9) rfl (ty := .int) rfl rfl rfl (Nat.le_of_ble_eq_true rfl) zX_i12 dX7_restart_2 (fun H locs hH => ?_)
  refine lv_aload_n hx hb dX7_restart_5 rfl (lv_at hl 0 rfl) ?_
  obtain ⟨u1, e2, h⟩ := zbd_s h
  refine z_callv (va_runU (As := []) (rest := []) (z_fix C) (cX_X4_clear_Row l D cI cS cW q H.size   (zsI S 12 0) e2) (va_cwA 0 C.2.2.2.2.1 (zGU (x := ⟨"WhichShelf$Shelf", "clear", "()V"⟩) (owner := "WhichShelf$Shelf") zk19_5 zk19_6 zk19_18 zk19_15 zk3_6 zk19_16) rfl rfl rfl ((hE.2.2 _ znX_5).2) ydu_X7_clear ⟨Nat.le_of_ble_eq_true rfl, Nat.le_of_ble_eq_true rfl⟩) (z_preV (zNmX hE) hE hH zX_o0 rfl) rfl rfl hl.1 rfl (lv_room (Nat.le_of_ble_eq_true rfl)) dX7_restart_6 ⟨Nat.le_refl 0, Nat.le_refl 0⟩) hE hH (fun H locs hH => ?_)
  cases h
  exact z_vret C hE hH dX7_restart_9
set_option maxHeartbeats 4000000 in
set_option maxRecDepth 100000 in
theorem cX_X7_restart_Row (l : Launch) (D : va_G) (cI cS cW : ClassId) (q : Nat → Nat) (sz : Nat) (S : zSt) {res : zSt} (h : fX_X7_restart_Row  S = some res) : zMv l yX7_restart vsX7_restart rmX_X7_restart_Row [.ref (q 0)] D (zwX cI cS cW q) (zyX cI cS cW) znX sz S res := by
  refine Met.ofW (cc := cX7_restart) (maxL := 1) (ret := none) (by decide) rfl ?_
  intro p e s m args below meth c s₁ B hml hv
  obtain ⟨rfl, rfl, hP, hK, hD0, hN⟩ := hv
  have hl := lv_entry ([.ref (q 0)]) (n := 1) (Nat.le_of_ble_eq_true rfl)
  rw [lg_entry_eq]
  generalize (lg_sl ([.ref (q 0)]) ++ List.replicate (1 - (lg_sl ([.ref (q 0)])).length) Slot.unset).toArray = ls at hl ⊢
  exact bX_X7_restart_Row ⟨B.exec, B.bytes, hml, findClass_of_methodNamed B.named, fun w h => atoms_spec (ws := vsX7_restart) B.pre w (List.mem_cons_of_mem _ h), B.returns, B.notSynchronized⟩ ⟨hK, fun q h => Or.inr h, hN⟩  S s.heap [] ls ⟨hP, hD0.self, va_S.rf⟩ hl  h
def rmX_X4_clear_Sorted : Room := { frames := 0, cells := 0, slots := 0, locals := 0 }
set_option maxHeartbeats 4000000 in
set_option maxRecDepth 100000 in
theorem bX_X4_clear_Sorted {p : Program} {l : Launch} {e : Env} {s : State} {m : MethodId} {args : Array Value} {below : List Frame} {meth : Method} {c : Code} {D : va_G} {cI cS cW : ClassId} {q : Nat → Nat} {A : Nat → Prop} {res : zSt} (C : zCX p s m args meth c cX4_clear 1 none zU RX4) (hE : zE D (zyX cI cS cW) znX A s) (S : zSt) (H : Heap) (locs : List Loc) (ls : Array Slot) (hH : zH D (zwX cI cS cW q) A s S H locs) (hl : lv_has ls 1 [(0, .ref (q 1))]) (h : fX_X4_clear_Sorted   S = some res) : W p l e rmX_X4_clear_Sorted s m args below meth c H locs 0 0 (zQv below D (zwX cI cS cW q) (zyX cI cS cW) A args s res) (F0 m 0 ls []) := by
  have hx := C.1
  have hb := C.2.1
  unfold fX_X4_clear_Sorted at h
  refine lv_aload_n hx hb dX4_clear_0 rfl (lv_at hl 0 rfl) ?_
  refine lv_aload_n hx hb dX4_clear_1 rfl (lv_at hl 0 rfl) ?_
  refine z_get C hE hH zX_o1 rfl zh_X8 1 (by decide) zk3_10 (fun _ h9 => h9) (v := .int (S.1 21)) rfl dX4_clear_2 ?_
  refine z_put C hE hH zX_o1 rfl zh_X8 tyX8_ok nmX8 2 (by decide) zk3_11 (fun _ h9 => h9) rfl (ty := .int) rfl rfl rfl (Nat.le_of_ble_eq_true rfl) zX_i22 dX4_clear_5 (fun H locs hH => ?_)
  refine lv_aload_n hx hb dX4_clear_8 rfl (lv_at hl 0 rfl) ?_
  refine lv_iconst (v := 0) hx hb dX4_clear_9 (by decide) ?_
  refine z_put C hE hH zX_o1 rfl zh_X8 tyX8_ok nmX8 3 (by decide) zk3_9 (fun _ h9 => h9) rfl (ty := .int) rfl rfl rfl (Nat.le_of_ble_eq_true rfl) zX_i23 dX4_clear_10 (fun H locs hH => ?_)
  cases h
  exact z_vret C hE hH dX4_clear_13
set_option maxHeartbeats 4000000 in
set_option maxRecDepth 100000 in
theorem cX_X4_clear_Sorted (l : Launch) (D : va_G) (cI cS cW : ClassId) (q : Nat → Nat) (sz : Nat) (S : zSt) {res : zSt} (h : fX_X4_clear_Sorted  S = some res) : zMv l yX4_clear vsX4_clear rmX_X4_clear_Sorted [.ref (q 1)] D (zwX cI cS cW q) (zyX cI cS cW) znX sz S res := by
  refine Met.ofW (cc := cX4_clear) (maxL := 1) (ret := none) (by decide) rfl ?_
  intro p e s m args below meth c s₁ B hml hv
  obtain ⟨rfl, rfl, hP, hK, hD0, hN⟩ := hv
  have hl := lv_entry ([.ref (q 1)]) (n := 1) (Nat.le_of_ble_eq_true rfl)
  rw [lg_entry_eq]
  generalize (lg_sl ([.ref (q 1)]) ++ List.replicate (1 - (lg_sl ([.ref (q 1)])).length) Slot.unset).toArray = ls at hl ⊢
  exact bX_X4_clear_Sorted ⟨B.exec, B.bytes, hml, findClass_of_methodNamed B.named, fun w h => atoms_spec (ws := vsX4_clear) B.pre w (List.mem_cons_of_mem _ h), B.returns, B.notSynchronized⟩ ⟨hK, fun q h => Or.inr h, hN⟩  S s.heap [] ls ⟨hP, hD0.self, va_S.rf⟩ hl  h
def rmX_X7_restart_Sorted : Room := { frames := 1, cells := 0, slots := 0, locals := 20 }
set_option maxHeartbeats 4000000 in
set_option maxRecDepth 100000 in
theorem bX_X7_restart_Sorted {p : Program} {l : Launch} {e : Env} {s : State} {m : MethodId} {args : Array Value} {below : List Frame} {meth : Method} {c : Code} {D : va_G} {cI cS cW : ClassId} {q : Nat → Nat} {A : Nat → Prop} {res : zSt} (C : zCX p s m args meth c cX7_restart 1 none zU RX7) (hE : zE D (zyX cI cS cW) znX A s) (S : zSt) (H : Heap) (locs : List Loc) (ls : Array Slot) (hH : zH D (zwX cI cS cW q) A s S H locs) (hl : lv_has ls 1 [(0, .ref (q 1))]) (h : fX_X7_restart_Sorted   S = some res) : W p l e rmX_X7_restart_Sorted s m args below meth c H locs 0 0 (zQv below D (zwX cI cS cW q) (zyX cI cS cW) A args s res) (F0 m 0 ls []) := by
  have hx := C.1
  have hb := C.2.1
  unfold fX_X7_restart_Sorted at h
  refine lv_aload_n hx hb dX7_restart_0 rfl (lv_at hl 0 rfl) ?_
  refine lv_iconst (v := 0) hx hb dX7_restart_1 (by decide) ?_
  refine z_put C hE hH zX_o1 rfl zh_X8 tyX8_ok nmX8 6 (by decide) zk3_18 (fun _ h9 => h9) rfl (ty := .int) rfl rfl rfl (Nat.le_of_ble_eq_true rfl) zX_i13 dX7_restart_2 (fun H locs hH => ?_)
  refine lv_aload_n hx hb dX7_restart_5 rfl (lv_at hl 0 rfl) ?_
  obtain ⟨u1, e2, h⟩ := zbd_s h
  refine z_callv (va_runU (As := []) (rest := []) (z_fix C) (cX_X4_clear_Sorted l D cI cS cW q H.size   (zsI S 13 0) e2) (va_cwA 0 C.2.2.2.2.1 (zGU (x := ⟨"WhichShelf$Shelf", "clear", "()V"⟩) (owner := "WhichShelf$Shelf") zk19_5 zk19_6 zk19_19 zk19_15 zk3_6 zk19_16) rfl rfl rfl ((hE.2.2 _ znX_5).2) ydu_X7_clear ⟨Nat.le_of_ble_eq_true rfl, Nat.le_of_ble_eq_true rfl⟩) (z_preV (zNmX hE) hE hH zX_o1 rfl) rfl rfl hl.1 rfl (lv_room (Nat.le_of_ble_eq_true rfl)) dX7_restart_6 ⟨Nat.le_refl 0, Nat.le_refl 0⟩) hE hH (fun H locs hH => ?_)
  cases h
  exact z_vret C hE hH dX7_restart_9
set_option maxHeartbeats 4000000 in
set_option maxRecDepth 100000 in
theorem cX_X7_restart_Sorted (l : Launch) (D : va_G) (cI cS cW : ClassId) (q : Nat → Nat) (sz : Nat) (S : zSt) {res : zSt} (h : fX_X7_restart_Sorted  S = some res) : zMv l yX7_restart vsX7_restart rmX_X7_restart_Sorted [.ref (q 1)] D (zwX cI cS cW q) (zyX cI cS cW) znX sz S res := by
  refine Met.ofW (cc := cX7_restart) (maxL := 1) (ret := none) (by decide) rfl ?_
  intro p e s m args below meth c s₁ B hml hv
  obtain ⟨rfl, rfl, hP, hK, hD0, hN⟩ := hv
  have hl := lv_entry ([.ref (q 1)]) (n := 1) (Nat.le_of_ble_eq_true rfl)
  rw [lg_entry_eq]
  generalize (lg_sl ([.ref (q 1)]) ++ List.replicate (1 - (lg_sl ([.ref (q 1)])).length) Slot.unset).toArray = ls at hl ⊢
  exact bX_X7_restart_Sorted ⟨B.exec, B.bytes, hml, findClass_of_methodNamed B.named, fun w h => atoms_spec (ws := vsX7_restart) B.pre w (List.mem_cons_of_mem _ h), B.returns, B.notSynchronized⟩ ⟨hK, fun q h => Or.inr h, hN⟩  S s.heap [] ls ⟨hP, hD0.self, va_S.rf⟩ hl  h
def rmX_X4_clear_Hash : Room := { frames := 0, cells := 0, slots := 0, locals := 0 }
set_option maxHeartbeats 4000000 in
set_option maxRecDepth 100000 in
theorem bX_X4_clear_Hash {p : Program} {l : Launch} {e : Env} {s : State} {m : MethodId} {args : Array Value} {below : List Frame} {meth : Method} {c : Code} {D : va_G} {cI cS cW : ClassId} {q : Nat → Nat} {A : Nat → Prop} {res : zSt} (C : zCX p s m args meth c cX4_clear 1 none zU RX4) (hE : zE D (zyX cI cS cW) znX A s) (S : zSt) (H : Heap) (locs : List Loc) (ls : Array Slot) (hH : zH D (zwX cI cS cW q) A s S H locs) (hl : lv_has ls 1 [(0, .ref (q 2))]) (h : fX_X4_clear_Hash   S = some res) : W p l e rmX_X4_clear_Hash s m args below meth c H locs 0 0 (zQv below D (zwX cI cS cW q) (zyX cI cS cW) A args s res) (F0 m 0 ls []) := by
  have hx := C.1
  have hb := C.2.1
  unfold fX_X4_clear_Hash at h
  refine lv_aload_n hx hb dX4_clear_0 rfl (lv_at hl 0 rfl) ?_
  refine lv_aload_n hx hb dX4_clear_1 rfl (lv_at hl 0 rfl) ?_
  refine z_get C hE hH zX_o2 rfl zh_X2 1 (by decide) zk3_10 (fun _ h9 => h9) (v := .int (S.1 25)) rfl dX4_clear_2 ?_
  refine z_put C hE hH zX_o2 rfl zh_X2 tyX2_ok nmX2 2 (by decide) zk3_11 (fun _ h9 => h9) rfl (ty := .int) rfl rfl rfl (Nat.le_of_ble_eq_true rfl) zX_i26 dX4_clear_5 (fun H locs hH => ?_)
  refine lv_aload_n hx hb dX4_clear_8 rfl (lv_at hl 0 rfl) ?_
  refine lv_iconst (v := 0) hx hb dX4_clear_9 (by decide) ?_
  refine z_put C hE hH zX_o2 rfl zh_X2 tyX2_ok nmX2 3 (by decide) zk3_9 (fun _ h9 => h9) rfl (ty := .int) rfl rfl rfl (Nat.le_of_ble_eq_true rfl) zX_i27 dX4_clear_10 (fun H locs hH => ?_)
  cases h
  exact z_vret C hE hH dX4_clear_13
set_option maxHeartbeats 4000000 in
set_option maxRecDepth 100000 in
theorem cX_X4_clear_Hash (l : Launch) (D : va_G) (cI cS cW : ClassId) (q : Nat → Nat) (sz : Nat) (S : zSt) {res : zSt} (h : fX_X4_clear_Hash  S = some res) : zMv l yX4_clear vsX4_clear rmX_X4_clear_Hash [.ref (q 2)] D (zwX cI cS cW q) (zyX cI cS cW) znX sz S res := by
  refine Met.ofW (cc := cX4_clear) (maxL := 1) (ret := none) (by decide) rfl ?_
  intro p e s m args below meth c s₁ B hml hv
  obtain ⟨rfl, rfl, hP, hK, hD0, hN⟩ := hv
  have hl := lv_entry ([.ref (q 2)]) (n := 1) (Nat.le_of_ble_eq_true rfl)
  rw [lg_entry_eq]
  generalize (lg_sl ([.ref (q 2)]) ++ List.replicate (1 - (lg_sl ([.ref (q 2)])).length) Slot.unset).toArray = ls at hl ⊢
  exact bX_X4_clear_Hash ⟨B.exec, B.bytes, hml, findClass_of_methodNamed B.named, fun w h => atoms_spec (ws := vsX4_clear) B.pre w (List.mem_cons_of_mem _ h), B.returns, B.notSynchronized⟩ ⟨hK, fun q h => Or.inr h, hN⟩  S s.heap [] ls ⟨hP, hD0.self, va_S.rf⟩ hl  h
def rmX_X7_restart_Hash : Room := { frames := 1, cells := 0, slots := 0, locals := 20 }
set_option maxHeartbeats 4000000 in
set_option maxRecDepth 100000 in
theorem bX_X7_restart_Hash {p : Program} {l : Launch} {e : Env} {s : State} {m : MethodId} {args : Array Value} {below : List Frame} {meth : Method} {c : Code} {D : va_G} {cI cS cW : ClassId} {q : Nat → Nat} {A : Nat → Prop} {res : zSt} (C : zCX p s m args meth c cX7_restart 1 none zU RX7) (hE : zE D (zyX cI cS cW) znX A s) (S : zSt) (H : Heap) (locs : List Loc) (ls : Array Slot) (hH : zH D (zwX cI cS cW q) A s S H locs) (hl : lv_has ls 1 [(0, .ref (q 2))]) (h : fX_X7_restart_Hash   S = some res) : W p l e rmX_X7_restart_Hash s m args below meth c H locs 0 0 (zQv below D (zwX cI cS cW q) (zyX cI cS cW) A args s res) (F0 m 0 ls []) := by
  have hx := C.1
  have hb := C.2.1
  unfold fX_X7_restart_Hash at h
  refine lv_aload_n hx hb dX7_restart_0 rfl (lv_at hl 0 rfl) ?_
  refine lv_iconst (v := 0) hx hb dX7_restart_1 (by decide) ?_
  refine z_put C hE hH zX_o2 rfl zh_X2 tyX2_ok nmX2 6 (by decide) zk3_18 (fun _ h9 => h9) rfl (ty := .int) rfl rfl rfl (Nat.le_of_ble_eq_true rfl) zX_i14 dX7_restart_2 (fun H locs hH => ?_)
  refine lv_aload_n hx hb dX7_restart_5 rfl (lv_at hl 0 rfl) ?_
  obtain ⟨u1, e2, h⟩ := zbd_s h
  refine z_callv (va_runU (As := []) (rest := []) (z_fix C) (cX_X4_clear_Hash l D cI cS cW q H.size   (zsI S 14 0) e2) (va_cwA 0 C.2.2.2.2.1 (zGU (x := ⟨"WhichShelf$Shelf", "clear", "()V"⟩) (owner := "WhichShelf$Shelf") zk19_5 zk19_6 zk19_14 zk19_15 zk3_6 zk19_16) rfl rfl rfl ((hE.2.2 _ znX_5).2) ydu_X7_clear ⟨Nat.le_of_ble_eq_true rfl, Nat.le_of_ble_eq_true rfl⟩) (z_preV (zNmX hE) hE hH zX_o2 rfl) rfl rfl hl.1 rfl (lv_room (Nat.le_of_ble_eq_true rfl)) dX7_restart_6 ⟨Nat.le_refl 0, Nat.le_refl 0⟩) hE hH (fun H locs hH => ?_)
  cases h
  exact z_vret C hE hH dX7_restart_9
set_option maxHeartbeats 4000000 in
set_option maxRecDepth 100000 in
theorem cX_X7_restart_Hash (l : Launch) (D : va_G) (cI cS cW : ClassId) (q : Nat → Nat) (sz : Nat) (S : zSt) {res : zSt} (h : fX_X7_restart_Hash  S = some res) : zMv l yX7_restart vsX7_restart rmX_X7_restart_Hash [.ref (q 2)] D (zwX cI cS cW q) (zyX cI cS cW) znX sz S res := by
  refine Met.ofW (cc := cX7_restart) (maxL := 1) (ret := none) (by decide) rfl ?_
  intro p e s m args below meth c s₁ B hml hv
  obtain ⟨rfl, rfl, hP, hK, hD0, hN⟩ := hv
  have hl := lv_entry ([.ref (q 2)]) (n := 1) (Nat.le_of_ble_eq_true rfl)
  rw [lg_entry_eq]
  generalize (lg_sl ([.ref (q 2)]) ++ List.replicate (1 - (lg_sl ([.ref (q 2)])).length) Slot.unset).toArray = ls at hl ⊢
  exact bX_X7_restart_Hash ⟨B.exec, B.bytes, hml, findClass_of_methodNamed B.named, fun w h => atoms_spec (ws := vsX7_restart) B.pre w (List.mem_cons_of_mem _ h), B.returns, B.notSynchronized⟩ ⟨hK, fun q h => Or.inr h, hN⟩  S s.heap [] ls ⟨hP, hD0.self, va_S.rf⟩ hl  h
def rmX_J7_fill_53178_38 : Room := { frames := 0, cells := 0, slots := 0, locals := 0 }
set_option maxHeartbeats 4000000 in
set_option maxRecDepth 100000 in
theorem bX_J7_fill_53178_38_5 {p : Program} {l : Launch} {e : Env} {s : State} {m : MethodId} {args : Array Value} {below : List Frame} {meth : Method} {c : Code} {D : va_G} {cI cS cW : ClassId} {q : Nat → Nat} {A : Nat → Prop} {res : zSt} (C : zCX p s m args meth c cJ7_fill_53178 4 none zU RJ7) (hE : zE D (zyX cI cS cW) znX A s) : ∀ (n : Nat) (x1 x2 x3 : Int32) (S : zSt) (H : Heap) (locs : List Loc) (ls : Array Slot), zH D (zwX cI cS cW q) A s S H locs → lv_has ls 4 [(0, .ref (q 38)), (1, .int x1), (2, .int x2), (3, .int x3)] → fX_J7_fill_53178_38_5  n x1 x2 x3 S = some res → W p l e rmX_J7_fill_53178_38 s m args below meth c H locs 0 0 (zQv below D (zwX cI cS cW q) (zyX cI cS cW) A args s res) (F0 m 5 ls []) := by
  have hx := C.1
  have hb := C.2.1
  intro n
  induction n with
  | zero =>
    intro x1 x2 x3 S H locs ls hH hl  h
    cases h
  | succ n hK5 =>
    intro x1 x2 x3 S H locs ls hH hl  h
    rw [fX_J7_fill_53178_38_5] at h
    refine lv_iload_n hx hb dJ7_fill_53178_5 rfl (lv_at hl 2 rfl) ?_
    refine lv_iload_n hx hb dJ7_fill_53178_6 rfl (lv_at hl 3 rfl) ?_
    refine lv_icmp_ge (tgt := 20) hx hb dJ7_fill_53178_7 (by decide) (fun c1 => ?_) (fun c1 => ?_)
    · replace h := zif_t c1 h
      cases h
      exact z_vret C hE hH dJ7_fill_53178_20
    · replace h := zif_f c1 h
      refine lv_aload_n hx hb dJ7_fill_53178_10 rfl (lv_at hl 0 rfl) ?_
      refine lv_iload_n hx hb dJ7_fill_53178_11 rfl (lv_at hl 2 rfl) ?_
      refine lv_iload_n hx hb dJ7_fill_53178_12 rfl (lv_at hl 1 rfl) ?_
      obtain ⟨g2, h⟩ := zgd_s h
      refine z_iast C hE hH zX_a38 (t0 := 0) rfl g2 zX_r38 dJ7_fill_53178_13 (fun H locs hH => ?_)
      refine lv_iinc (v := (x2 + 1)) (lv' := [(2, .int (x2 + 1)), (0, .ref (q 38)), (1, .int x1), (3, .int x3)]) hx hb dJ7_fill_53178_14 hl (k := 2) rfl rfl (by decide) rfl (fun ls hl => ?_)
      refine lv_goto (tgt := 5) hx hb dJ7_fill_53178_17 (by decide) ?_
      exact hK5 x1 (x2 + 1) x3 (zsR S 38 x2.toNatClampNeg x1) H locs ls hH (lv_sub hl [1, 2, 0, 3] rfl) h
set_option maxHeartbeats 4000000 in
set_option maxRecDepth 100000 in
theorem bX_J7_fill_53178_38 {p : Program} {l : Launch} {e : Env} {s : State} {m : MethodId} {args : Array Value} {below : List Frame} {meth : Method} {c : Code} {D : va_G} {cI cS cW : ClassId} {q : Nat → Nat} {A : Nat → Prop} {res : zSt} (C : zCX p s m args meth c cJ7_fill_53178 4 none zU RJ7) (hE : zE D (zyX cI cS cW) znX A s) (x1 : Int32) (S : zSt) (H : Heap) (locs : List Loc) (ls : Array Slot) (hH : zH D (zwX cI cS cW q) A s S H locs) (hl : lv_has ls 4 [(0, .ref (q 38)), (1, .int x1)]) (h : fX_J7_fill_53178_38  x1 S = some res) : W p l e rmX_J7_fill_53178_38 s m args below meth c H locs 0 0 (zQv below D (zwX cI cS cW q) (zyX cI cS cW) A args s res) (F0 m 0 ls []) := by
  have hx := C.1
  have hb := C.2.1
  unfold fX_J7_fill_53178_38 at h
  refine lv_iconst (v := 0) hx hb dJ7_fill_53178_0 (by decide) ?_
  refine lv_istore_n (lv' := [(2, .int 0), (0, .ref (q 38)), (1, .int x1)]) hx hb dJ7_fill_53178_1 rfl hl (by decide) rfl (fun ls hl => ?_)
  refine lv_aload_n hx hb dJ7_fill_53178_2 rfl (lv_at hl 1 rfl) ?_
  refine z_alen C hE hH zX_a38 (t0 := 0) rfl (v := 64) rfl dJ7_fill_53178_3 ?_
  refine lv_istore_n (lv' := [(3, .int 64), (2, .int 0), (0, .ref (q 38)), (1, .int x1)]) hx hb dJ7_fill_53178_4 rfl hl (by decide) rfl (fun ls hl => ?_)
  exact bX_J7_fill_53178_38_5 C hE   1000 x1 0 64 S H locs ls hH (lv_sub hl [2, 3, 1, 0] rfl) h
set_option maxHeartbeats 4000000 in
set_option maxRecDepth 100000 in
theorem cX_J7_fill_53178_38 (l : Launch) (D : va_G) (cI cS cW : ClassId) (q : Nat → Nat) (sz : Nat) (x1 : Int32) (S : zSt) {res : zSt} (h : fX_J7_fill_53178_38 x1 S = some res) : zMv l yJ7_fill_53178 vsJ7_fill_53178 rmX_J7_fill_53178_38 [.ref (q 38), .int x1] D (zwX cI cS cW q) (zyX cI cS cW) znX sz S res := by
  refine Met.ofW (cc := cJ7_fill_53178) (maxL := 4) (ret := none) (by decide) rfl ?_
  intro p e s m args below meth c s₁ B hml hv
  obtain ⟨rfl, rfl, hP, hK, hD0, hN⟩ := hv
  have hl := lv_entry ([.ref (q 38), .int x1]) (n := 4) (Nat.le_of_ble_eq_true rfl)
  rw [lg_entry_eq]
  generalize (lg_sl ([.ref (q 38), .int x1]) ++ List.replicate (4 - (lg_sl ([.ref (q 38), .int x1])).length) Slot.unset).toArray = ls at hl ⊢
  exact bX_J7_fill_53178_38 ⟨B.exec, B.bytes, hml, findClass_of_methodNamed B.named, fun w h => atoms_spec (ws := vsJ7_fill_53178) B.pre w (List.mem_cons_of_mem _ h), B.returns, B.notSynchronized⟩ ⟨hK, fun q h => Or.inr h, hN⟩ x1 S s.heap [] ls ⟨hP, hD0.self, va_S.rf⟩ hl  h
def rmX_X1_clear_Tree : Room := { frames := 1, cells := 0, slots := 0, locals := 23 }
set_option maxHeartbeats 4000000 in
set_option maxRecDepth 100000 in
theorem bX_X1_clear_Tree {p : Program} {l : Launch} {e : Env} {s : State} {m : MethodId} {args : Array Value} {below : List Frame} {meth : Method} {c : Code} {D : va_G} {cI cS cW : ClassId} {q : Nat → Nat} {A : Nat → Prop} {res : zSt} (C : zCX p s m args meth c cX1_clear 1 none zU RX1) (hE : zE D (zyX cI cS cW) znX A s) (S : zSt) (H : Heap) (locs : List Loc) (ls : Array Slot) (hH : zH D (zwX cI cS cW q) A s S H locs) (hl : lv_has ls 1 [(0, .ref (q 3))]) (h : fX_X1_clear_Tree   S = some res) : W p l e rmX_X1_clear_Tree s m args below meth c H locs 0 0 (zQv below D (zwX cI cS cW q) (zyX cI cS cW) A args s res) (F0 m 0 ls []) := by
  have hx := C.1
  have hb := C.2.1
  unfold fX_X1_clear_Tree at h
  refine lv_aload_n hx hb dX1_clear_0 rfl (lv_at hl 0 rfl) ?_
  refine z_get C hE hH zX_o3 rfl zh_X9 0 (by decide) zk4_15 (fun _ h9 => h9) (v := .ref (q 38)) rfl dX1_clear_1 ?_
  refine lv_iconst (v := 0) hx hb dX1_clear_4 (by decide) ?_
  obtain ⟨u1, e2, h⟩ := zbd_s h
  refine z_callv (va_runS (As := [.ref (q 38), .int 0]) (rest := []) (z_fix C) (cX_J7_fill_53178_38 l D cI cS cW q H.size  0 S e2) (va_cwS 2 C.2.2.2.2.1 (zGS zk19_10 zk19_11 zk19_12 zk19_13) rfl rfl rfl yd_J7_fill_53178 ⟨Nat.le_of_ble_eq_true rfl, Nat.le_of_ble_eq_true rfl⟩) (z_preS (zNmX hE) hE hH) rfl rfl hl.1 rfl (lv_room (Nat.le_of_ble_eq_true rfl)) dX1_clear_5 ⟨Nat.le_refl 0, Nat.le_refl 0⟩) hE hH (fun H locs hH => ?_)
  cases h
  exact z_vret C hE hH dX1_clear_8
set_option maxHeartbeats 4000000 in
set_option maxRecDepth 100000 in
theorem cX_X1_clear_Tree (l : Launch) (D : va_G) (cI cS cW : ClassId) (q : Nat → Nat) (sz : Nat) (S : zSt) {res : zSt} (h : fX_X1_clear_Tree  S = some res) : zMv l yX1_clear vsX1_clear rmX_X1_clear_Tree [.ref (q 3)] D (zwX cI cS cW q) (zyX cI cS cW) znX sz S res := by
  refine Met.ofW (cc := cX1_clear) (maxL := 1) (ret := none) (by decide) rfl ?_
  intro p e s m args below meth c s₁ B hml hv
  obtain ⟨rfl, rfl, hP, hK, hD0, hN⟩ := hv
  have hl := lv_entry ([.ref (q 3)]) (n := 1) (Nat.le_of_ble_eq_true rfl)
  rw [lg_entry_eq]
  generalize (lg_sl ([.ref (q 3)]) ++ List.replicate (1 - (lg_sl ([.ref (q 3)])).length) Slot.unset).toArray = ls at hl ⊢
  exact bX_X1_clear_Tree ⟨B.exec, B.bytes, hml, findClass_of_methodNamed B.named, fun w h => atoms_spec (ws := vsX1_clear) B.pre w (List.mem_cons_of_mem _ h), B.returns, B.notSynchronized⟩ ⟨hK, fun q h => Or.inr h, hN⟩  S s.heap [] ls ⟨hP, hD0.self, va_S.rf⟩ hl  h
def rmX_X9_clear : Room := { frames := 2, cells := 0, slots := 0, locals := 43 }
set_option maxHeartbeats 4000000 in
set_option maxRecDepth 100000 in
theorem bX_X9_clear {p : Program} {l : Launch} {e : Env} {s : State} {m : MethodId} {args : Array Value} {below : List Frame} {meth : Method} {c : Code} {D : va_G} {cI cS cW : ClassId} {q : Nat → Nat} {A : Nat → Prop} {res : zSt} (C : zCX p s m args meth c cX9_clear 1 none zU RX9) (hE : zE D (zyX cI cS cW) znX A s) (S : zSt) (H : Heap) (locs : List Loc) (ls : Array Slot) (hH : zH D (zwX cI cS cW q) A s S H locs) (hl : lv_has ls 1 [(0, .ref (q 3))]) (h : fX_X9_clear   S = some res) : W p l e rmX_X9_clear s m args below meth c H locs 0 0 (zQv below D (zwX cI cS cW q) (zyX cI cS cW) A args s res) (F0 m 0 ls []) := by
  have hx := C.1
  have hb := C.2.1
  unfold fX_X9_clear at h
  refine lv_aload_n hx hb dX9_clear_0 rfl (lv_at hl 0 rfl) ?_
  obtain ⟨u1, e2, h⟩ := zbd_s h
  refine z_callv (va_runSU (z_at hE (ci := 6) rfl) (As := []) (rest := []) (z_fix C) (cX_X1_clear_Tree l D cI cS cW q H.size   S e2) (va_cwSU 0 C.2.2.2.2.1 (zGSU zk19_23 zk20_0 zk20_1 zk19_8 zk4_13 zk19_9) rfl rfl rfl ydn_X1_clear ⟨Nat.le_of_ble_eq_true rfl, Nat.le_of_ble_eq_true rfl⟩) (z_preV (zNmX hE) hE hH zX_o3 rfl) rfl rfl hl.1 rfl (lv_room (Nat.le_of_ble_eq_true rfl)) dX9_clear_1 ⟨Nat.le_refl 0, Nat.le_refl 0⟩) hE hH (fun H locs hH => ?_)
  refine lv_aload_n hx hb dX9_clear_4 rfl (lv_at hl 0 rfl) ?_
  refine lv_iconst (v := (-1)) hx hb dX9_clear_5 (by decide) ?_
  refine z_put C hE hH zX_o3 rfl zh_X9 tyX9_ok nmX9 6 (by decide) zk4_9 (fun _ h9 => h9) rfl (ty := .int) rfl rfl rfl (Nat.le_of_ble_eq_true rfl) zX_i31 dX9_clear_6 (fun H locs hH => ?_)
  refine lv_aload_n hx hb dX9_clear_9 rfl (lv_at hl 0 rfl) ?_
  refine lv_iconst (v := 0) hx hb dX9_clear_10 (by decide) ?_
  refine z_put C hE hH zX_o3 rfl zh_X9 tyX9_ok nmX9 7 (by decide) zk4_10 (fun _ h9 => h9) rfl (ty := .int) rfl rfl rfl (Nat.le_of_ble_eq_true rfl) zX_i32 dX9_clear_11 (fun H locs hH => ?_)
  cases h
  exact z_vret C hE hH dX9_clear_14
set_option maxHeartbeats 4000000 in
set_option maxRecDepth 100000 in
theorem cX_X9_clear (l : Launch) (D : va_G) (cI cS cW : ClassId) (q : Nat → Nat) (sz : Nat) (S : zSt) {res : zSt} (h : fX_X9_clear  S = some res) : zMv l yX9_clear vsX9_clear rmX_X9_clear [.ref (q 3)] D (zwX cI cS cW q) (zyX cI cS cW) znX sz S res := by
  refine Met.ofW (cc := cX9_clear) (maxL := 1) (ret := none) (by decide) rfl ?_
  intro p e s m args below meth c s₁ B hml hv
  obtain ⟨rfl, rfl, hP, hK, hD0, hN⟩ := hv
  have hl := lv_entry ([.ref (q 3)]) (n := 1) (Nat.le_of_ble_eq_true rfl)
  rw [lg_entry_eq]
  generalize (lg_sl ([.ref (q 3)]) ++ List.replicate (1 - (lg_sl ([.ref (q 3)])).length) Slot.unset).toArray = ls at hl ⊢
  exact bX_X9_clear ⟨B.exec, B.bytes, hml, findClass_of_methodNamed B.named, fun w h => atoms_spec (ws := vsX9_clear) B.pre w (List.mem_cons_of_mem _ h), B.returns, B.notSynchronized⟩ ⟨hK, fun q h => Or.inr h, hN⟩  S s.heap [] ls ⟨hP, hD0.self, va_S.rf⟩ hl  h
def rmX_X7_restart_Tree : Room := { frames := 3, cells := 0, slots := 0, locals := 63 }
set_option maxHeartbeats 4000000 in
set_option maxRecDepth 100000 in
theorem bX_X7_restart_Tree {p : Program} {l : Launch} {e : Env} {s : State} {m : MethodId} {args : Array Value} {below : List Frame} {meth : Method} {c : Code} {D : va_G} {cI cS cW : ClassId} {q : Nat → Nat} {A : Nat → Prop} {res : zSt} (C : zCX p s m args meth c cX7_restart 1 none zU RX7) (hE : zE D (zyX cI cS cW) znX A s) (S : zSt) (H : Heap) (locs : List Loc) (ls : Array Slot) (hH : zH D (zwX cI cS cW q) A s S H locs) (hl : lv_has ls 1 [(0, .ref (q 3))]) (h : fX_X7_restart_Tree   S = some res) : W p l e rmX_X7_restart_Tree s m args below meth c H locs 0 0 (zQv below D (zwX cI cS cW q) (zyX cI cS cW) A args s res) (F0 m 0 ls []) := by
  have hx := C.1
  have hb := C.2.1
  unfold fX_X7_restart_Tree at h
  refine lv_aload_n hx hb dX7_restart_0 rfl (lv_at hl 0 rfl) ?_
  refine lv_iconst (v := 0) hx hb dX7_restart_1 (by decide) ?_
  refine z_put C hE hH zX_o3 rfl zh_X9 tyX9_ok nmX9 3 (by decide) zk3_18 (fun _ h9 => h9) rfl (ty := .int) rfl rfl rfl (Nat.le_of_ble_eq_true rfl) zX_i15 dX7_restart_2 (fun H locs hH => ?_)
  refine lv_aload_n hx hb dX7_restart_5 rfl (lv_at hl 0 rfl) ?_
  obtain ⟨u1, e2, h⟩ := zbd_s h
  refine z_callv (va_runU (As := []) (rest := []) (z_fix C) (cX_X9_clear l D cI cS cW q H.size   (zsI S 15 0) e2) (va_cwA 0 C.2.2.2.2.1 (zGU (x := ⟨"WhichShelf$Shelf", "clear", "()V"⟩) (owner := "WhichShelf$Shelf") zk19_5 zk19_6 zk19_20 zk19_21 zk2_2 zk19_22) rfl rfl rfl ((hE.2.2 _ znX_5).2) ydu_X7_clear ⟨Nat.le_of_ble_eq_true rfl, Nat.le_of_ble_eq_true rfl⟩) (z_preV (zNmX hE) hE hH zX_o3 rfl) rfl rfl hl.1 rfl (lv_room (Nat.le_of_ble_eq_true rfl)) dX7_restart_6 ⟨Nat.le_refl 0, Nat.le_refl 0⟩) hE hH (fun H locs hH => ?_)
  cases h
  exact z_vret C hE hH dX7_restart_9
set_option maxHeartbeats 4000000 in
set_option maxRecDepth 100000 in
theorem cX_X7_restart_Tree (l : Launch) (D : va_G) (cI cS cW : ClassId) (q : Nat → Nat) (sz : Nat) (S : zSt) {res : zSt} (h : fX_X7_restart_Tree  S = some res) : zMv l yX7_restart vsX7_restart rmX_X7_restart_Tree [.ref (q 3)] D (zwX cI cS cW q) (zyX cI cS cW) znX sz S res := by
  refine Met.ofW (cc := cX7_restart) (maxL := 1) (ret := none) (by decide) rfl ?_
  intro p e s m args below meth c s₁ B hml hv
  obtain ⟨rfl, rfl, hP, hK, hD0, hN⟩ := hv
  have hl := lv_entry ([.ref (q 3)]) (n := 1) (Nat.le_of_ble_eq_true rfl)
  rw [lg_entry_eq]
  generalize (lg_sl ([.ref (q 3)]) ++ List.replicate (1 - (lg_sl ([.ref (q 3)])).length) Slot.unset).toArray = ls at hl ⊢
  exact bX_X7_restart_Tree ⟨B.exec, B.bytes, hml, findClass_of_methodNamed B.named, fun w h => atoms_spec (ws := vsX7_restart) B.pre w (List.mem_cons_of_mem _ h), B.returns, B.notSynchronized⟩ ⟨hK, fun q h => Or.inr h, hN⟩  S s.heap [] ls ⟨hP, hD0.self, va_S.rf⟩ hl  h
def rmX_X4_clear_Heap : Room := { frames := 0, cells := 0, slots := 0, locals := 0 }
set_option maxHeartbeats 4000000 in
set_option maxRecDepth 100000 in
theorem bX_X4_clear_Heap {p : Program} {l : Launch} {e : Env} {s : State} {m : MethodId} {args : Array Value} {below : List Frame} {meth : Method} {c : Code} {D : va_G} {cI cS cW : ClassId} {q : Nat → Nat} {A : Nat → Prop} {res : zSt} (C : zCX p s m args meth c cX4_clear 1 none zU RX4) (hE : zE D (zyX cI cS cW) znX A s) (S : zSt) (H : Heap) (locs : List Loc) (ls : Array Slot) (hH : zH D (zwX cI cS cW q) A s S H locs) (hl : lv_has ls 1 [(0, .ref (q 4))]) (h : fX_X4_clear_Heap   S = some res) : W p l e rmX_X4_clear_Heap s m args below meth c H locs 0 0 (zQv below D (zwX cI cS cW q) (zyX cI cS cW) A args s res) (F0 m 0 ls []) := by
  have hx := C.1
  have hb := C.2.1
  unfold fX_X4_clear_Heap at h
  refine lv_aload_n hx hb dX4_clear_0 rfl (lv_at hl 0 rfl) ?_
  refine lv_aload_n hx hb dX4_clear_1 rfl (lv_at hl 0 rfl) ?_
  refine z_get C hE hH zX_o4 rfl zh_X3 1 (by decide) zk3_10 (fun _ h9 => h9) (v := .int (S.1 28)) rfl dX4_clear_2 ?_
  refine z_put C hE hH zX_o4 rfl zh_X3 tyX3_ok nmX3 2 (by decide) zk3_11 (fun _ h9 => h9) rfl (ty := .int) rfl rfl rfl (Nat.le_of_ble_eq_true rfl) zX_i29 dX4_clear_5 (fun H locs hH => ?_)
  refine lv_aload_n hx hb dX4_clear_8 rfl (lv_at hl 0 rfl) ?_
  refine lv_iconst (v := 0) hx hb dX4_clear_9 (by decide) ?_
  refine z_put C hE hH zX_o4 rfl zh_X3 tyX3_ok nmX3 3 (by decide) zk3_9 (fun _ h9 => h9) rfl (ty := .int) rfl rfl rfl (Nat.le_of_ble_eq_true rfl) zX_i30 dX4_clear_10 (fun H locs hH => ?_)
  cases h
  exact z_vret C hE hH dX4_clear_13
set_option maxHeartbeats 4000000 in
set_option maxRecDepth 100000 in
theorem cX_X4_clear_Heap (l : Launch) (D : va_G) (cI cS cW : ClassId) (q : Nat → Nat) (sz : Nat) (S : zSt) {res : zSt} (h : fX_X4_clear_Heap  S = some res) : zMv l yX4_clear vsX4_clear rmX_X4_clear_Heap [.ref (q 4)] D (zwX cI cS cW q) (zyX cI cS cW) znX sz S res := by
  refine Met.ofW (cc := cX4_clear) (maxL := 1) (ret := none) (by decide) rfl ?_
  intro p e s m args below meth c s₁ B hml hv
  obtain ⟨rfl, rfl, hP, hK, hD0, hN⟩ := hv
  have hl := lv_entry ([.ref (q 4)]) (n := 1) (Nat.le_of_ble_eq_true rfl)
  rw [lg_entry_eq]
  generalize (lg_sl ([.ref (q 4)]) ++ List.replicate (1 - (lg_sl ([.ref (q 4)])).length) Slot.unset).toArray = ls at hl ⊢
  exact bX_X4_clear_Heap ⟨B.exec, B.bytes, hml, findClass_of_methodNamed B.named, fun w h => atoms_spec (ws := vsX4_clear) B.pre w (List.mem_cons_of_mem _ h), B.returns, B.notSynchronized⟩ ⟨hK, fun q h => Or.inr h, hN⟩  S s.heap [] ls ⟨hP, hD0.self, va_S.rf⟩ hl  h
def rmX_X7_restart_Heap : Room := { frames := 1, cells := 0, slots := 0, locals := 20 }
set_option maxHeartbeats 4000000 in
set_option maxRecDepth 100000 in
theorem bX_X7_restart_Heap {p : Program} {l : Launch} {e : Env} {s : State} {m : MethodId} {args : Array Value} {below : List Frame} {meth : Method} {c : Code} {D : va_G} {cI cS cW : ClassId} {q : Nat → Nat} {A : Nat → Prop} {res : zSt} (C : zCX p s m args meth c cX7_restart 1 none zU RX7) (hE : zE D (zyX cI cS cW) znX A s) (S : zSt) (H : Heap) (locs : List Loc) (ls : Array Slot) (hH : zH D (zwX cI cS cW q) A s S H locs) (hl : lv_has ls 1 [(0, .ref (q 4))]) (h : fX_X7_restart_Heap   S = some res) : W p l e rmX_X7_restart_Heap s m args below meth c H locs 0 0 (zQv below D (zwX cI cS cW q) (zyX cI cS cW) A args s res) (F0 m 0 ls []) := by
  have hx := C.1
  have hb := C.2.1
  unfold fX_X7_restart_Heap at h
  refine lv_aload_n hx hb dX7_restart_0 rfl (lv_at hl 0 rfl) ?_
  refine lv_iconst (v := 0) hx hb dX7_restart_1 (by decide) ?_
  refine z_put C hE hH zX_o4 rfl zh_X3 tyX3_ok nmX3 6 (by decide) zk3_18 (fun _ h9 => h9) rfl (ty := .int) rfl rfl rfl (Nat.le_of_ble_eq_true rfl) zX_i16 dX7_restart_2 (fun H locs hH => ?_)
  refine lv_aload_n hx hb dX7_restart_5 rfl (lv_at hl 0 rfl) ?_
  obtain ⟨u1, e2, h⟩ := zbd_s h
  refine z_callv (va_runU (As := []) (rest := []) (z_fix C) (cX_X4_clear_Heap l D cI cS cW q H.size   (zsI S 16 0) e2) (va_cwA 0 C.2.2.2.2.1 (zGU (x := ⟨"WhichShelf$Shelf", "clear", "()V"⟩) (owner := "WhichShelf$Shelf") zk19_5 zk19_6 zk19_17 zk19_15 zk3_6 zk19_16) rfl rfl rfl ((hE.2.2 _ znX_5).2) ydu_X7_clear ⟨Nat.le_of_ble_eq_true rfl, Nat.le_of_ble_eq_true rfl⟩) (z_preV (zNmX hE) hE hH zX_o4 rfl) rfl rfl hl.1 rfl (lv_room (Nat.le_of_ble_eq_true rfl)) dX7_restart_6 ⟨Nat.le_refl 0, Nat.le_refl 0⟩) hE hH (fun H locs hH => ?_)
  cases h
  exact z_vret C hE hH dX7_restart_9
set_option maxHeartbeats 4000000 in
set_option maxRecDepth 100000 in
theorem cX_X7_restart_Heap (l : Launch) (D : va_G) (cI cS cW : ClassId) (q : Nat → Nat) (sz : Nat) (S : zSt) {res : zSt} (h : fX_X7_restart_Heap  S = some res) : zMv l yX7_restart vsX7_restart rmX_X7_restart_Heap [.ref (q 4)] D (zwX cI cS cW q) (zyX cI cS cW) znX sz S res := by
  refine Met.ofW (cc := cX7_restart) (maxL := 1) (ret := none) (by decide) rfl ?_
  intro p e s m args below meth c s₁ B hml hv
  obtain ⟨rfl, rfl, hP, hK, hD0, hN⟩ := hv
  have hl := lv_entry ([.ref (q 4)]) (n := 1) (Nat.le_of_ble_eq_true rfl)
  rw [lg_entry_eq]
  generalize (lg_sl ([.ref (q 4)]) ++ List.replicate (1 - (lg_sl ([.ref (q 4)])).length) Slot.unset).toArray = ls at hl ⊢
  exact bX_X7_restart_Heap ⟨B.exec, B.bytes, hml, findClass_of_methodNamed B.named, fun w h => atoms_spec (ws := vsX7_restart) B.pre w (List.mem_cons_of_mem _ h), B.returns, B.notSynchronized⟩ ⟨hK, fun q h => Or.inr h, hN⟩  S s.heap [] ls ⟨hP, hD0.self, va_S.rf⟩ hl  h
def rmX_J7_fill_53178_39 : Room := { frames := 0, cells := 0, slots := 0, locals := 0 }
set_option maxHeartbeats 4000000 in
set_option maxRecDepth 100000 in
theorem bX_J7_fill_53178_39_5 {p : Program} {l : Launch} {e : Env} {s : State} {m : MethodId} {args : Array Value} {below : List Frame} {meth : Method} {c : Code} {D : va_G} {cI cS cW : ClassId} {q : Nat → Nat} {A : Nat → Prop} {res : zSt} (C : zCX p s m args meth c cJ7_fill_53178 4 none zU RJ7) (hE : zE D (zyX cI cS cW) znX A s) : ∀ (n : Nat) (x1 x2 x3 : Int32) (S : zSt) (H : Heap) (locs : List Loc) (ls : Array Slot), zH D (zwX cI cS cW q) A s S H locs → lv_has ls 4 [(0, .ref (q 39)), (1, .int x1), (2, .int x2), (3, .int x3)] → fX_J7_fill_53178_39_5  n x1 x2 x3 S = some res → W p l e rmX_J7_fill_53178_39 s m args below meth c H locs 0 0 (zQv below D (zwX cI cS cW q) (zyX cI cS cW) A args s res) (F0 m 5 ls []) := by
  have hx := C.1
  have hb := C.2.1
  intro n
  induction n with
  | zero =>
    intro x1 x2 x3 S H locs ls hH hl  h
    cases h
  | succ n hK5 =>
    intro x1 x2 x3 S H locs ls hH hl  h
    rw [fX_J7_fill_53178_39_5] at h
    refine lv_iload_n hx hb dJ7_fill_53178_5 rfl (lv_at hl 2 rfl) ?_
    refine lv_iload_n hx hb dJ7_fill_53178_6 rfl (lv_at hl 3 rfl) ?_
    refine lv_icmp_ge (tgt := 20) hx hb dJ7_fill_53178_7 (by decide) (fun c1 => ?_) (fun c1 => ?_)
    · replace h := zif_t c1 h
      cases h
      exact z_vret C hE hH dJ7_fill_53178_20
    · replace h := zif_f c1 h
      refine lv_aload_n hx hb dJ7_fill_53178_10 rfl (lv_at hl 0 rfl) ?_
      refine lv_iload_n hx hb dJ7_fill_53178_11 rfl (lv_at hl 2 rfl) ?_
      refine lv_iload_n hx hb dJ7_fill_53178_12 rfl (lv_at hl 1 rfl) ?_
      obtain ⟨g2, h⟩ := zgd_s h
      refine z_iast C hE hH zX_a39 (t0 := 0) rfl g2 zX_r39 dJ7_fill_53178_13 (fun H locs hH => ?_)
      refine lv_iinc (v := (x2 + 1)) (lv' := [(2, .int (x2 + 1)), (0, .ref (q 39)), (1, .int x1), (3, .int x3)]) hx hb dJ7_fill_53178_14 hl (k := 2) rfl rfl (by decide) rfl (fun ls hl => ?_)
      refine lv_goto (tgt := 5) hx hb dJ7_fill_53178_17 (by decide) ?_
      exact hK5 x1 (x2 + 1) x3 (zsR S 39 x2.toNatClampNeg x1) H locs ls hH (lv_sub hl [1, 2, 0, 3] rfl) h
set_option maxHeartbeats 4000000 in
set_option maxRecDepth 100000 in
theorem bX_J7_fill_53178_39 {p : Program} {l : Launch} {e : Env} {s : State} {m : MethodId} {args : Array Value} {below : List Frame} {meth : Method} {c : Code} {D : va_G} {cI cS cW : ClassId} {q : Nat → Nat} {A : Nat → Prop} {res : zSt} (C : zCX p s m args meth c cJ7_fill_53178 4 none zU RJ7) (hE : zE D (zyX cI cS cW) znX A s) (x1 : Int32) (S : zSt) (H : Heap) (locs : List Loc) (ls : Array Slot) (hH : zH D (zwX cI cS cW q) A s S H locs) (hl : lv_has ls 4 [(0, .ref (q 39)), (1, .int x1)]) (h : fX_J7_fill_53178_39  x1 S = some res) : W p l e rmX_J7_fill_53178_39 s m args below meth c H locs 0 0 (zQv below D (zwX cI cS cW q) (zyX cI cS cW) A args s res) (F0 m 0 ls []) := by
  have hx := C.1
  have hb := C.2.1
  unfold fX_J7_fill_53178_39 at h
  refine lv_iconst (v := 0) hx hb dJ7_fill_53178_0 (by decide) ?_
  refine lv_istore_n (lv' := [(2, .int 0), (0, .ref (q 39)), (1, .int x1)]) hx hb dJ7_fill_53178_1 rfl hl (by decide) rfl (fun ls hl => ?_)
  refine lv_aload_n hx hb dJ7_fill_53178_2 rfl (lv_at hl 1 rfl) ?_
  refine z_alen C hE hH zX_a39 (t0 := 0) rfl (v := 64) rfl dJ7_fill_53178_3 ?_
  refine lv_istore_n (lv' := [(3, .int 64), (2, .int 0), (0, .ref (q 39)), (1, .int x1)]) hx hb dJ7_fill_53178_4 rfl hl (by decide) rfl (fun ls hl => ?_)
  exact bX_J7_fill_53178_39_5 C hE   1000 x1 0 64 S H locs ls hH (lv_sub hl [2, 3, 1, 0] rfl) h
set_option maxHeartbeats 4000000 in
set_option maxRecDepth 100000 in
theorem cX_J7_fill_53178_39 (l : Launch) (D : va_G) (cI cS cW : ClassId) (q : Nat → Nat) (sz : Nat) (x1 : Int32) (S : zSt) {res : zSt} (h : fX_J7_fill_53178_39 x1 S = some res) : zMv l yJ7_fill_53178 vsJ7_fill_53178 rmX_J7_fill_53178_39 [.ref (q 39), .int x1] D (zwX cI cS cW q) (zyX cI cS cW) znX sz S res := by
  refine Met.ofW (cc := cJ7_fill_53178) (maxL := 4) (ret := none) (by decide) rfl ?_
  intro p e s m args below meth c s₁ B hml hv
  obtain ⟨rfl, rfl, hP, hK, hD0, hN⟩ := hv
  have hl := lv_entry ([.ref (q 39), .int x1]) (n := 4) (Nat.le_of_ble_eq_true rfl)
  rw [lg_entry_eq]
  generalize (lg_sl ([.ref (q 39), .int x1]) ++ List.replicate (4 - (lg_sl ([.ref (q 39), .int x1])).length) Slot.unset).toArray = ls at hl ⊢
  exact bX_J7_fill_53178_39 ⟨B.exec, B.bytes, hml, findClass_of_methodNamed B.named, fun w h => atoms_spec (ws := vsJ7_fill_53178) B.pre w (List.mem_cons_of_mem _ h), B.returns, B.notSynchronized⟩ ⟨hK, fun q h => Or.inr h, hN⟩ x1 S s.heap [] ls ⟨hP, hD0.self, va_S.rf⟩ hl  h
def rmX_X1_clear_Bits : Room := { frames := 1, cells := 0, slots := 0, locals := 23 }
set_option maxHeartbeats 4000000 in
set_option maxRecDepth 100000 in
theorem bX_X1_clear_Bits {p : Program} {l : Launch} {e : Env} {s : State} {m : MethodId} {args : Array Value} {below : List Frame} {meth : Method} {c : Code} {D : va_G} {cI cS cW : ClassId} {q : Nat → Nat} {A : Nat → Prop} {res : zSt} (C : zCX p s m args meth c cX1_clear 1 none zU RX1) (hE : zE D (zyX cI cS cW) znX A s) (S : zSt) (H : Heap) (locs : List Loc) (ls : Array Slot) (hH : zH D (zwX cI cS cW q) A s S H locs) (hl : lv_has ls 1 [(0, .ref (q 5))]) (h : fX_X1_clear_Bits   S = some res) : W p l e rmX_X1_clear_Bits s m args below meth c H locs 0 0 (zQv below D (zwX cI cS cW q) (zyX cI cS cW) A args s res) (F0 m 0 ls []) := by
  have hx := C.1
  have hb := C.2.1
  unfold fX_X1_clear_Bits at h
  refine lv_aload_n hx hb dX1_clear_0 rfl (lv_at hl 0 rfl) ?_
  refine z_get C hE hH zX_o5 rfl zh_X0 0 (by decide) zk4_15 (fun _ h9 => h9) (v := .ref (q 39)) rfl dX1_clear_1 ?_
  refine lv_iconst (v := 0) hx hb dX1_clear_4 (by decide) ?_
  obtain ⟨u1, e2, h⟩ := zbd_s h
  refine z_callv (va_runS (As := [.ref (q 39), .int 0]) (rest := []) (z_fix C) (cX_J7_fill_53178_39 l D cI cS cW q H.size  0 S e2) (va_cwS 2 C.2.2.2.2.1 (zGS zk19_10 zk19_11 zk19_12 zk19_13) rfl rfl rfl yd_J7_fill_53178 ⟨Nat.le_of_ble_eq_true rfl, Nat.le_of_ble_eq_true rfl⟩) (z_preS (zNmX hE) hE hH) rfl rfl hl.1 rfl (lv_room (Nat.le_of_ble_eq_true rfl)) dX1_clear_5 ⟨Nat.le_refl 0, Nat.le_refl 0⟩) hE hH (fun H locs hH => ?_)
  cases h
  exact z_vret C hE hH dX1_clear_8
set_option maxHeartbeats 4000000 in
set_option maxRecDepth 100000 in
theorem cX_X1_clear_Bits (l : Launch) (D : va_G) (cI cS cW : ClassId) (q : Nat → Nat) (sz : Nat) (S : zSt) {res : zSt} (h : fX_X1_clear_Bits  S = some res) : zMv l yX1_clear vsX1_clear rmX_X1_clear_Bits [.ref (q 5)] D (zwX cI cS cW q) (zyX cI cS cW) znX sz S res := by
  refine Met.ofW (cc := cX1_clear) (maxL := 1) (ret := none) (by decide) rfl ?_
  intro p e s m args below meth c s₁ B hml hv
  obtain ⟨rfl, rfl, hP, hK, hD0, hN⟩ := hv
  have hl := lv_entry ([.ref (q 5)]) (n := 1) (Nat.le_of_ble_eq_true rfl)
  rw [lg_entry_eq]
  generalize (lg_sl ([.ref (q 5)]) ++ List.replicate (1 - (lg_sl ([.ref (q 5)])).length) Slot.unset).toArray = ls at hl ⊢
  exact bX_X1_clear_Bits ⟨B.exec, B.bytes, hml, findClass_of_methodNamed B.named, fun w h => atoms_spec (ws := vsX1_clear) B.pre w (List.mem_cons_of_mem _ h), B.returns, B.notSynchronized⟩ ⟨hK, fun q h => Or.inr h, hN⟩  S s.heap [] ls ⟨hP, hD0.self, va_S.rf⟩ hl  h
def rmX_X7_restart_Bits : Room := { frames := 2, cells := 0, slots := 0, locals := 43 }
set_option maxHeartbeats 4000000 in
set_option maxRecDepth 100000 in
theorem bX_X7_restart_Bits {p : Program} {l : Launch} {e : Env} {s : State} {m : MethodId} {args : Array Value} {below : List Frame} {meth : Method} {c : Code} {D : va_G} {cI cS cW : ClassId} {q : Nat → Nat} {A : Nat → Prop} {res : zSt} (C : zCX p s m args meth c cX7_restart 1 none zU RX7) (hE : zE D (zyX cI cS cW) znX A s) (S : zSt) (H : Heap) (locs : List Loc) (ls : Array Slot) (hH : zH D (zwX cI cS cW q) A s S H locs) (hl : lv_has ls 1 [(0, .ref (q 5))]) (h : fX_X7_restart_Bits   S = some res) : W p l e rmX_X7_restart_Bits s m args below meth c H locs 0 0 (zQv below D (zwX cI cS cW q) (zyX cI cS cW) A args s res) (F0 m 0 ls []) := by
  have hx := C.1
  have hb := C.2.1
  unfold fX_X7_restart_Bits at h
  refine lv_aload_n hx hb dX7_restart_0 rfl (lv_at hl 0 rfl) ?_
  refine lv_iconst (v := 0) hx hb dX7_restart_1 (by decide) ?_
  refine z_put C hE hH zX_o5 rfl zh_X0 tyX0_ok nmX0 3 (by decide) zk3_18 (fun _ h9 => h9) rfl (ty := .int) rfl rfl rfl (Nat.le_of_ble_eq_true rfl) zX_i17 dX7_restart_2 (fun H locs hH => ?_)
  refine lv_aload_n hx hb dX7_restart_5 rfl (lv_at hl 0 rfl) ?_
  obtain ⟨u1, e2, h⟩ := zbd_s h
  refine z_callv (va_runU (As := []) (rest := []) (z_fix C) (cX_X1_clear_Bits l D cI cS cW q H.size   (zsI S 17 0) e2) (va_cwA 0 C.2.2.2.2.1 (zGU (x := ⟨"WhichShelf$Shelf", "clear", "()V"⟩) (owner := "WhichShelf$Shelf") zk19_5 zk19_6 zk19_7 zk19_8 zk4_13 zk19_9) rfl rfl rfl ((hE.2.2 _ znX_5).2) ydu_X7_clear ⟨Nat.le_of_ble_eq_true rfl, Nat.le_of_ble_eq_true rfl⟩) (z_preV (zNmX hE) hE hH zX_o5 rfl) rfl rfl hl.1 rfl (lv_room (Nat.le_of_ble_eq_true rfl)) dX7_restart_6 ⟨Nat.le_refl 0, Nat.le_refl 0⟩) hE hH (fun H locs hH => ?_)
  cases h
  exact z_vret C hE hH dX7_restart_9
set_option maxHeartbeats 4000000 in
set_option maxRecDepth 100000 in
theorem cX_X7_restart_Bits (l : Launch) (D : va_G) (cI cS cW : ClassId) (q : Nat → Nat) (sz : Nat) (S : zSt) {res : zSt} (h : fX_X7_restart_Bits  S = some res) : zMv l yX7_restart vsX7_restart rmX_X7_restart_Bits [.ref (q 5)] D (zwX cI cS cW q) (zyX cI cS cW) znX sz S res := by
  refine Met.ofW (cc := cX7_restart) (maxL := 1) (ret := none) (by decide) rfl ?_
  intro p e s m args below meth c s₁ B hml hv
  obtain ⟨rfl, rfl, hP, hK, hD0, hN⟩ := hv
  have hl := lv_entry ([.ref (q 5)]) (n := 1) (Nat.le_of_ble_eq_true rfl)
  rw [lg_entry_eq]
  generalize (lg_sl ([.ref (q 5)]) ++ List.replicate (1 - (lg_sl ([.ref (q 5)])).length) Slot.unset).toArray = ls at hl ⊢
  exact bX_X7_restart_Bits ⟨B.exec, B.bytes, hml, findClass_of_methodNamed B.named, fun w h => atoms_spec (ws := vsX7_restart) B.pre w (List.mem_cons_of_mem _ h), B.returns, B.notSynchronized⟩ ⟨hK, fun q h => Or.inr h, hN⟩  S s.heap [] ls ⟨hP, hD0.self, va_S.rf⟩ hl  h
def rmX_X10_layAnew_d : Room := { frames := 6, cells := 0, slots := 0, locals := 139 }
set_option maxHeartbeats 4000000 in
set_option maxRecDepth 100000 in
theorem bX_X10_layAnew_d_30 {p : Program} {l : Launch} {e : Env} {s : State} {m : MethodId} {args : Array Value} {below : List Frame} {meth : Method} {c : Code} {D : va_G} {cI cS cW : ClassId} {q : Nat → Nat} {A : Nat → Prop} {res : zSt} (C : zCX p s m args meth c cX10_layAnew 3 none zU RX10) (hE : zE D (zyX cI cS cW) znX A s) (K6 : (Nat → Int32 → zSt → Option (zSt))) (hK6 : ∀ (j1 : Nat) (x2 : Int32) (S : zSt) (H : Heap) (locs : List Loc) (ls : Array Slot), zH D (zwX cI cS cW q) A s S H locs → lv_has ls 3 [(0, .ref (q 6)), (1, .ref (q j1)), (2, .int x2)] → j1 < 6 → K6 j1 x2 S = some res → W p l e rmX_X10_layAnew_d s m args below meth c H locs 0 0 (zQv below D (zwX cI cS cW q) (zyX cI cS cW) A args s res) (F0 m 6 ls [])) (j1 : Nat) (x2 : Int32) (S : zSt) (H : Heap) (locs : List Loc) (ls : Array Slot) (hH : zH D (zwX cI cS cW q) A s S H locs) (hl : lv_has ls 3 [(0, .ref (q 6)), (1, .ref (q j1)), (2, .int x2)]) (hj_j1 : j1 < 6) (h : fX_X10_layAnew_d_30 K6 j1 x2 S = some res) : W p l e rmX_X10_layAnew_d s m args below meth c H locs 0 0 (zQv below D (zwX cI cS cW q) (zyX cI cS cW) A args s res) (F0 m 30 ls []) := by
  have hx := C.1
  have hb := C.2.1
  unfold fX_X10_layAnew_d_30 at h
  refine lv_iinc (v := (x2 + 1)) (lv' := [(2, .int (x2 + 1)), (0, .ref (q 6)), (1, .ref (q j1))]) hx hb dX10_layAnew_30 hl (k := 2) rfl rfl (by decide) rfl (fun ls hl => ?_)
  refine lv_goto (tgt := 6) hx hb dX10_layAnew_33 (by decide) ?_
  exact hK6 j1 (x2 + 1) S H locs ls hH (lv_sub hl [1, 2, 0] rfl) (hj_j1) h
set_option maxHeartbeats 4000000 in
set_option maxRecDepth 100000 in
theorem bX_X10_layAnew_d_6 {p : Program} {l : Launch} {e : Env} {s : State} {m : MethodId} {args : Array Value} {below : List Frame} {meth : Method} {c : Code} {D : va_G} {cI cS cW : ClassId} {q : Nat → Nat} {A : Nat → Prop} {res : zSt} (C : zCX p s m args meth c cX10_layAnew 3 none zU RX10) (hE : zE D (zyX cI cS cW) znX A s) : ∀ (n : Nat) (j1 : Nat) (x2 : Int32) (S : zSt) (H : Heap) (locs : List Loc) (ls : Array Slot), zH D (zwX cI cS cW q) A s S H locs → lv_has ls 3 [(0, .ref (q 6)), (1, .ref (q j1)), (2, .int x2)] → j1 < 6 → fX_X10_layAnew_d_6  n j1 x2 S = some res → W p l e rmX_X10_layAnew_d s m args below meth c H locs 0 0 (zQv below D (zwX cI cS cW q) (zyX cI cS cW) A args s res) (F0 m 6 ls []) := by
  have hx := C.1
  have hb := C.2.1
  intro n
  induction n with
  | zero =>
    intro j1 x2 S H locs ls hH hl hj_j1 h
    cases h
  | succ n hK6 =>
    intro j1 x2 S H locs ls hH hl hj_j1 h
    rw [fX_X10_layAnew_d_6] at h
    refine lv_iload_n hx hb dX10_layAnew_6 rfl (lv_at hl 2 rfl) ?_
    refine lv_aload_n hx hb dX10_layAnew_7 rfl (lv_at hl 0 rfl) ?_
    refine z_get C hE hH zX_o6 rfl zh_X10 6 (by decide) zk2_15 (fun _ h9 => h9) (v := .int (S.1 0)) rfl dX10_layAnew_8 ?_
    refine lv_icmp_ge (tgt := 36) hx hb dX10_layAnew_11 (by decide) (fun c1 => ?_) (fun c1 => ?_)
    · replace h := zif_t c1 h
      cases h
      exact z_vret C hE hH dX10_layAnew_36
    · replace h := zif_f c1 h
      refine lv_aload_n hx hb dX10_layAnew_14 rfl (lv_at hl 1 rfl) ?_
      refine lv_aload_n hx hb dX10_layAnew_15 rfl (lv_at hl 0 rfl) ?_
      refine z_get C hE hH zX_o6 rfl zh_X10 2 (by decide) zk2_11 (fun _ h9 => h9) (v := .ref (q 28)) rfl dX10_layAnew_16 ?_
      refine lv_iload_n hx hb dX10_layAnew_19 rfl (lv_at hl 2 rfl) ?_
      obtain ⟨g2, h⟩ := zgd_s h
      refine z_iald C hE hH zX_a28 (t0 := 0) rfl g2 dX10_layAnew_20 ?_
      refine lv_aload_n hx hb dX10_layAnew_21 rfl (lv_at hl 0 rfl) ?_
      refine z_get C hE hH zX_o6 rfl zh_X10 3 (by decide) zk2_12 (fun _ h9 => h9) (v := .ref (q 29)) rfl dX10_layAnew_22 ?_
      refine lv_iload_n hx hb dX10_layAnew_25 rfl (lv_at hl 2 rfl) ?_
      obtain ⟨g3, h⟩ := zgd_s h
      refine z_iald C hE hH zX_a29 (t0 := 0) rfl g3 dX10_layAnew_26 ?_
      obtain ⟨u4, e5, hh⟩ := zbd_s h
      clear h
      rcases z6 hj_j1 with rfl | rfl | rfl | rfl | rfl | rfl
      · have h := hh
        refine z_callv (va_runU (As := [.int (S.2 28 x2.toNatClampNeg), .int (S.2 29 x2.toNatClampNeg)]) (rest := []) (z_fix C) (cX_X7_take_Row l D cI cS cW q H.size  (S.2 28 x2.toNatClampNeg) (S.2 29 x2.toNatClampNeg) S (fX_d_take_0.symm.trans e5)) (va_cwU 2 C.2.2.2.2.1 (zGU (x := ⟨"WhichShelf$Shelf", "take", "(II)V"⟩) (owner := "WhichShelf$Shelf") zk7_23 zk8_0 zk17_10 zk8_2 zk3_13 zk8_3) rfl rfl rfl rfl ydu_X7_take ⟨Nat.le_of_ble_eq_true rfl, Nat.le_of_ble_eq_true rfl⟩) (z_preV (zNmX hE) hE hH zX_o0 rfl) rfl rfl hl.1 rfl (lv_room (Nat.le_of_ble_eq_true rfl)) dX10_layAnew_27 ⟨Nat.le_refl 0, Nat.le_refl 0⟩) hE hH (fun H locs hH => ?_)
        exact bX_X10_layAnew_d_30 C hE (fX_X10_layAnew_d_6  n) hK6 0 x2 u4 H locs ls hH (lv_sub hl [0, 1, 2] rfl) (by decide) h
      · have h := hh
        refine z_callv (va_runU (As := [.int (S.2 28 x2.toNatClampNeg), .int (S.2 29 x2.toNatClampNeg)]) (rest := []) (z_fix C) (cX_X7_take_Sorted l D cI cS cW q H.size  (S.2 28 x2.toNatClampNeg) (S.2 29 x2.toNatClampNeg) S (fX_d_take_1.symm.trans e5)) (va_cwU 2 C.2.2.2.2.1 (zGU (x := ⟨"WhichShelf$Shelf", "take", "(II)V"⟩) (owner := "WhichShelf$Shelf") zk7_23 zk8_0 zk17_11 zk8_2 zk3_13 zk8_3) rfl rfl rfl rfl ydu_X7_take ⟨Nat.le_of_ble_eq_true rfl, Nat.le_of_ble_eq_true rfl⟩) (z_preV (zNmX hE) hE hH zX_o1 rfl) rfl rfl hl.1 rfl (lv_room (Nat.le_of_ble_eq_true rfl)) dX10_layAnew_27 ⟨Nat.le_refl 0, Nat.le_refl 0⟩) hE hH (fun H locs hH => ?_)
        exact bX_X10_layAnew_d_30 C hE (fX_X10_layAnew_d_6  n) hK6 1 x2 u4 H locs ls hH (lv_sub hl [0, 1, 2] rfl) (by decide) h
      · have h := hh
        refine z_callv (va_runU (As := [.int (S.2 28 x2.toNatClampNeg), .int (S.2 29 x2.toNatClampNeg)]) (rest := []) (z_fix C) (cX_X7_take_Hash l D cI cS cW q H.size  (S.2 28 x2.toNatClampNeg) (S.2 29 x2.toNatClampNeg) S (fX_d_take_2.symm.trans e5)) (va_cwU 2 C.2.2.2.2.1 (zGU (x := ⟨"WhichShelf$Shelf", "take", "(II)V"⟩) (owner := "WhichShelf$Shelf") zk7_23 zk8_0 zk17_8 zk8_2 zk3_13 zk8_3) rfl rfl rfl rfl ydu_X7_take ⟨Nat.le_of_ble_eq_true rfl, Nat.le_of_ble_eq_true rfl⟩) (z_preV (zNmX hE) hE hH zX_o2 rfl) rfl rfl hl.1 rfl (lv_room (Nat.le_of_ble_eq_true rfl)) dX10_layAnew_27 ⟨Nat.le_refl 0, Nat.le_refl 0⟩) hE hH (fun H locs hH => ?_)
        exact bX_X10_layAnew_d_30 C hE (fX_X10_layAnew_d_6  n) hK6 2 x2 u4 H locs ls hH (lv_sub hl [0, 1, 2] rfl) (by decide) h
      · have h := hh
        refine z_callv (va_runU (As := [.int (S.2 28 x2.toNatClampNeg), .int (S.2 29 x2.toNatClampNeg)]) (rest := []) (z_fix C) (cX_X7_take_Tree l D cI cS cW q H.size  (S.2 28 x2.toNatClampNeg) (S.2 29 x2.toNatClampNeg) S (fX_d_take_3.symm.trans e5)) (va_cwU 2 C.2.2.2.2.1 (zGU (x := ⟨"WhichShelf$Shelf", "take", "(II)V"⟩) (owner := "WhichShelf$Shelf") zk7_23 zk8_0 zk17_12 zk8_2 zk3_13 zk8_3) rfl rfl rfl rfl ydu_X7_take ⟨Nat.le_of_ble_eq_true rfl, Nat.le_of_ble_eq_true rfl⟩) (z_preV (zNmX hE) hE hH zX_o3 rfl) rfl rfl hl.1 rfl (lv_room (Nat.le_of_ble_eq_true rfl)) dX10_layAnew_27 ⟨Nat.le_refl 0, Nat.le_refl 0⟩) hE hH (fun H locs hH => ?_)
        exact bX_X10_layAnew_d_30 C hE (fX_X10_layAnew_d_6  n) hK6 3 x2 u4 H locs ls hH (lv_sub hl [0, 1, 2] rfl) (by decide) h
      · have h := hh
        refine z_callv (va_runU (As := [.int (S.2 28 x2.toNatClampNeg), .int (S.2 29 x2.toNatClampNeg)]) (rest := []) (z_fix C) (cX_X7_take_Heap l D cI cS cW q H.size  (S.2 28 x2.toNatClampNeg) (S.2 29 x2.toNatClampNeg) S (fX_d_take_4.symm.trans e5)) (va_cwU 2 C.2.2.2.2.1 (zGU (x := ⟨"WhichShelf$Shelf", "take", "(II)V"⟩) (owner := "WhichShelf$Shelf") zk7_23 zk8_0 zk17_9 zk8_2 zk3_13 zk8_3) rfl rfl rfl rfl ydu_X7_take ⟨Nat.le_of_ble_eq_true rfl, Nat.le_of_ble_eq_true rfl⟩) (z_preV (zNmX hE) hE hH zX_o4 rfl) rfl rfl hl.1 rfl (lv_room (Nat.le_of_ble_eq_true rfl)) dX10_layAnew_27 ⟨Nat.le_refl 0, Nat.le_refl 0⟩) hE hH (fun H locs hH => ?_)
        exact bX_X10_layAnew_d_30 C hE (fX_X10_layAnew_d_6  n) hK6 4 x2 u4 H locs ls hH (lv_sub hl [0, 1, 2] rfl) (by decide) h
      · have h := hh
        refine z_callv (va_runU (As := [.int (S.2 28 x2.toNatClampNeg), .int (S.2 29 x2.toNatClampNeg)]) (rest := []) (z_fix C) (cX_X7_take_Bits l D cI cS cW q H.size  (S.2 28 x2.toNatClampNeg) (S.2 29 x2.toNatClampNeg) S (fX_d_take_5.symm.trans e5)) (va_cwU 2 C.2.2.2.2.1 (zGU (x := ⟨"WhichShelf$Shelf", "take", "(II)V"⟩) (owner := "WhichShelf$Shelf") zk7_23 zk8_0 zk8_1 zk8_2 zk3_13 zk8_3) rfl rfl rfl rfl ydu_X7_take ⟨Nat.le_of_ble_eq_true rfl, Nat.le_of_ble_eq_true rfl⟩) (z_preV (zNmX hE) hE hH zX_o5 rfl) rfl rfl hl.1 rfl (lv_room (Nat.le_of_ble_eq_true rfl)) dX10_layAnew_27 ⟨Nat.le_refl 0, Nat.le_refl 0⟩) hE hH (fun H locs hH => ?_)
        exact bX_X10_layAnew_d_30 C hE (fX_X10_layAnew_d_6  n) hK6 5 x2 u4 H locs ls hH (lv_sub hl [0, 1, 2] rfl) (by decide) h
set_option maxHeartbeats 4000000 in
set_option maxRecDepth 100000 in
theorem bX_X10_layAnew_d_4 {p : Program} {l : Launch} {e : Env} {s : State} {m : MethodId} {args : Array Value} {below : List Frame} {meth : Method} {c : Code} {D : va_G} {cI cS cW : ClassId} {q : Nat → Nat} {A : Nat → Prop} {res : zSt} (C : zCX p s m args meth c cX10_layAnew 3 none zU RX10) (hE : zE D (zyX cI cS cW) znX A s) (j1 : Nat) (S : zSt) (H : Heap) (locs : List Loc) (ls : Array Slot) (hH : zH D (zwX cI cS cW q) A s S H locs) (hl : lv_has ls 3 [(0, .ref (q 6)), (1, .ref (q j1))]) (hj_j1 : j1 < 6) (h : fX_X10_layAnew_d_4  j1 S = some res) : W p l e rmX_X10_layAnew_d s m args below meth c H locs 0 0 (zQv below D (zwX cI cS cW q) (zyX cI cS cW) A args s res) (F0 m 4 ls []) := by
  have hx := C.1
  have hb := C.2.1
  unfold fX_X10_layAnew_d_4 at h
  refine lv_iconst (v := 0) hx hb dX10_layAnew_4 (by decide) ?_
  refine lv_istore_n (lv' := [(2, .int 0), (0, .ref (q 6)), (1, .ref (q j1))]) hx hb dX10_layAnew_5 rfl hl (by decide) rfl (fun ls hl => ?_)
  exact bX_X10_layAnew_d_6 C hE   1000 j1 0 S H locs ls hH (lv_sub hl [1, 2, 0] rfl) (hj_j1) h
set_option maxHeartbeats 4000000 in
set_option maxRecDepth 100000 in
theorem bX_X10_layAnew_d {p : Program} {l : Launch} {e : Env} {s : State} {m : MethodId} {args : Array Value} {below : List Frame} {meth : Method} {c : Code} {D : va_G} {cI cS cW : ClassId} {q : Nat → Nat} {A : Nat → Prop} {res : zSt} (C : zCX p s m args meth c cX10_layAnew 3 none zU RX10) (hE : zE D (zyX cI cS cW) znX A s) (j1 : Nat) (S : zSt) (H : Heap) (locs : List Loc) (ls : Array Slot) (hH : zH D (zwX cI cS cW q) A s S H locs) (hl : lv_has ls 3 [(0, .ref (q 6)), (1, .ref (q j1))]) (hj_j1 : j1 < 6) (h : fX_X10_layAnew_d  j1 S = some res) : W p l e rmX_X10_layAnew_d s m args below meth c H locs 0 0 (zQv below D (zwX cI cS cW q) (zyX cI cS cW) A args s res) (F0 m 0 ls []) := by
  have hx := C.1
  have hb := C.2.1
  unfold fX_X10_layAnew_d at h
  refine lv_aload_n hx hb dX10_layAnew_0 rfl (lv_at hl 1 rfl) ?_
  obtain ⟨u1, e2, hh⟩ := zbd_s h
  clear h
  rcases z6 hj_j1 with rfl | rfl | rfl | rfl | rfl | rfl
  · have h := hh
    refine z_callv (va_runU (As := []) (rest := []) (z_fix C) (cX_X7_restart_Row l D cI cS cW q H.size   S (fX_d_restart_0.symm.trans e2)) (va_cwU 0 C.2.2.2.2.1 (zGU (x := ⟨"WhichShelf$Shelf", "restart", "()V"⟩) (owner := "WhichShelf$Shelf") zk19_0 zk19_1 zk20_4 zk19_3 zk3_13 zk19_4) rfl rfl rfl rfl ydu_X7_restart ⟨Nat.le_of_ble_eq_true rfl, Nat.le_of_ble_eq_true rfl⟩) (z_preV (zNmX hE) hE hH zX_o0 rfl) rfl rfl hl.1 rfl (lv_room (Nat.le_of_ble_eq_true rfl)) dX10_layAnew_1 ⟨Nat.le_refl 0, Nat.le_refl 0⟩) hE hH (fun H locs hH => ?_)
    exact bX_X10_layAnew_d_4 C hE   0 u1 H locs ls hH (lv_sub hl [0, 1] rfl) (by decide) h
  · have h := hh
    refine z_callv (va_runU (As := []) (rest := []) (z_fix C) (cX_X7_restart_Sorted l D cI cS cW q H.size   S (fX_d_restart_1.symm.trans e2)) (va_cwU 0 C.2.2.2.2.1 (zGU (x := ⟨"WhichShelf$Shelf", "restart", "()V"⟩) (owner := "WhichShelf$Shelf") zk19_0 zk19_1 zk20_5 zk19_3 zk3_13 zk19_4) rfl rfl rfl rfl ydu_X7_restart ⟨Nat.le_of_ble_eq_true rfl, Nat.le_of_ble_eq_true rfl⟩) (z_preV (zNmX hE) hE hH zX_o1 rfl) rfl rfl hl.1 rfl (lv_room (Nat.le_of_ble_eq_true rfl)) dX10_layAnew_1 ⟨Nat.le_refl 0, Nat.le_refl 0⟩) hE hH (fun H locs hH => ?_)
    exact bX_X10_layAnew_d_4 C hE   1 u1 H locs ls hH (lv_sub hl [0, 1] rfl) (by decide) h
  · have h := hh
    refine z_callv (va_runU (As := []) (rest := []) (z_fix C) (cX_X7_restart_Hash l D cI cS cW q H.size   S (fX_d_restart_2.symm.trans e2)) (va_cwU 0 C.2.2.2.2.1 (zGU (x := ⟨"WhichShelf$Shelf", "restart", "()V"⟩) (owner := "WhichShelf$Shelf") zk19_0 zk19_1 zk20_2 zk19_3 zk3_13 zk19_4) rfl rfl rfl rfl ydu_X7_restart ⟨Nat.le_of_ble_eq_true rfl, Nat.le_of_ble_eq_true rfl⟩) (z_preV (zNmX hE) hE hH zX_o2 rfl) rfl rfl hl.1 rfl (lv_room (Nat.le_of_ble_eq_true rfl)) dX10_layAnew_1 ⟨Nat.le_refl 0, Nat.le_refl 0⟩) hE hH (fun H locs hH => ?_)
    exact bX_X10_layAnew_d_4 C hE   2 u1 H locs ls hH (lv_sub hl [0, 1] rfl) (by decide) h
  · have h := hh
    refine z_callv (va_runU (As := []) (rest := []) (z_fix C) (cX_X7_restart_Tree l D cI cS cW q H.size   S (fX_d_restart_3.symm.trans e2)) (va_cwU 0 C.2.2.2.2.1 (zGU (x := ⟨"WhichShelf$Shelf", "restart", "()V"⟩) (owner := "WhichShelf$Shelf") zk19_0 zk19_1 zk20_6 zk19_3 zk3_13 zk19_4) rfl rfl rfl rfl ydu_X7_restart ⟨Nat.le_of_ble_eq_true rfl, Nat.le_of_ble_eq_true rfl⟩) (z_preV (zNmX hE) hE hH zX_o3 rfl) rfl rfl hl.1 rfl (lv_room (Nat.le_of_ble_eq_true rfl)) dX10_layAnew_1 ⟨Nat.le_refl 0, Nat.le_refl 0⟩) hE hH (fun H locs hH => ?_)
    exact bX_X10_layAnew_d_4 C hE   3 u1 H locs ls hH (lv_sub hl [0, 1] rfl) (by decide) h
  · have h := hh
    refine z_callv (va_runU (As := []) (rest := []) (z_fix C) (cX_X7_restart_Heap l D cI cS cW q H.size   S (fX_d_restart_4.symm.trans e2)) (va_cwU 0 C.2.2.2.2.1 (zGU (x := ⟨"WhichShelf$Shelf", "restart", "()V"⟩) (owner := "WhichShelf$Shelf") zk19_0 zk19_1 zk20_3 zk19_3 zk3_13 zk19_4) rfl rfl rfl rfl ydu_X7_restart ⟨Nat.le_of_ble_eq_true rfl, Nat.le_of_ble_eq_true rfl⟩) (z_preV (zNmX hE) hE hH zX_o4 rfl) rfl rfl hl.1 rfl (lv_room (Nat.le_of_ble_eq_true rfl)) dX10_layAnew_1 ⟨Nat.le_refl 0, Nat.le_refl 0⟩) hE hH (fun H locs hH => ?_)
    exact bX_X10_layAnew_d_4 C hE   4 u1 H locs ls hH (lv_sub hl [0, 1] rfl) (by decide) h
  · have h := hh
    refine z_callv (va_runU (As := []) (rest := []) (z_fix C) (cX_X7_restart_Bits l D cI cS cW q H.size   S (fX_d_restart_5.symm.trans e2)) (va_cwU 0 C.2.2.2.2.1 (zGU (x := ⟨"WhichShelf$Shelf", "restart", "()V"⟩) (owner := "WhichShelf$Shelf") zk19_0 zk19_1 zk19_2 zk19_3 zk3_13 zk19_4) rfl rfl rfl rfl ydu_X7_restart ⟨Nat.le_of_ble_eq_true rfl, Nat.le_of_ble_eq_true rfl⟩) (z_preV (zNmX hE) hE hH zX_o5 rfl) rfl rfl hl.1 rfl (lv_room (Nat.le_of_ble_eq_true rfl)) dX10_layAnew_1 ⟨Nat.le_refl 0, Nat.le_refl 0⟩) hE hH (fun H locs hH => ?_)
    exact bX_X10_layAnew_d_4 C hE   5 u1 H locs ls hH (lv_sub hl [0, 1] rfl) (by decide) h
set_option maxHeartbeats 4000000 in
set_option maxRecDepth 100000 in
theorem cX_X10_layAnew_d (l : Launch) (D : va_G) (cI cS cW : ClassId) (q : Nat → Nat) (sz : Nat) (j1 : Nat) (S : zSt) (hj_j1 : j1 < 6) {res : zSt} (h : fX_X10_layAnew_d j1 S = some res) : zMv l yX10_layAnew vsX10_layAnew rmX_X10_layAnew_d [.ref (q 6), .ref (q j1)] D (zwX cI cS cW q) (zyX cI cS cW) znX sz S res := by
  refine Met.ofW (cc := cX10_layAnew) (maxL := 3) (ret := none) (by decide) rfl ?_
  intro p e s m args below meth c s₁ B hml hv
  obtain ⟨rfl, rfl, hP, hK, hD0, hN⟩ := hv
  have hl := lv_entry ([.ref (q 6), .ref (q j1)]) (n := 3) (Nat.le_of_ble_eq_true rfl)
  rw [lg_entry_eq]
  generalize (lg_sl ([.ref (q 6), .ref (q j1)]) ++ List.replicate (3 - (lg_sl ([.ref (q 6), .ref (q j1)])).length) Slot.unset).toArray = ls at hl ⊢
  exact bX_X10_layAnew_d ⟨B.exec, B.bytes, hml, findClass_of_methodNamed B.named, fun w h => atoms_spec (ws := vsX10_layAnew) B.pre w (List.mem_cons_of_mem _ h), B.returns, B.notSynchronized⟩ ⟨hK, fun q h => Or.inr h, hN⟩ j1 S s.heap [] ls ⟨hP, hD0.self, va_S.rf⟩ hl hj_j1 h
def rmX_X10_drop : Room := { frames := 7, cells := 0, slots := 0, locals := 161 }
set_option maxHeartbeats 4000000 in
set_option maxRecDepth 100000 in
theorem bX_X10_drop_54 {p : Program} {l : Launch} {e : Env} {s : State} {m : MethodId} {args : Array Value} {below : List Frame} {meth : Method} {c : Code} {D : va_G} {cI cS cW : ClassId} {q : Nat → Nat} {A : Nat → Prop} {res : Int32 × zSt} (C : zCX p s m args meth c cX10_drop 6 (some .int) zU RX10) (hE : zE D (zyX cI cS cW) znX A s) (K44 : (Int32 → Int32 → zSt → Option (Int32 × zSt))) (hK44 : ∀ (x3 x4 : Int32) (S : zSt) (H : Heap) (locs : List Loc) (ls : Array Slot), zH D (zwX cI cS cW q) A s S H locs → lv_has ls 6 [(0, .ref (q 6)), (2, .ref (q 8)), (3, .int x3), (4, .int x4)] → K44 x3 x4 S = some res → W p l e rmX_X10_drop s m args below meth c H locs 0 0 (zQi below D (zwX cI cS cW q) (zyX cI cS cW) A args s res.1 res.2) (F0 m 44 ls [])) (k0 : Nat) (x3 x4 : Int32) (S : zSt) (H : Heap) (locs : List Loc) (ls : Array Slot) (hH : zH D (zwX cI cS cW q) A s S H locs) (hl : lv_has ls 6 [(0, .ref (q 6)), (2, .ref (q 8)), (3, .int x3), (4, .int x4)]) (hj_k0 : k0 < 6) (h : fX_X10_drop_54 K44 k0 x3 x4 S = some res) : W p l e rmX_X10_drop s m args below meth c H locs 0 0 (zQi below D (zwX cI cS cW q) (zyX cI cS cW) A args s res.1 res.2) (F0 m 54 ls [.ref (q k0)]) := by
  have hx := C.1
  have hb := C.2.1
  unfold fX_X10_drop_54 at h
  refine lv_astore (lv' := [(5, .ref (q k0)), (0, .ref (q 6)), (2, .ref (q 8)), (3, .int x3), (4, .int x4)]) hx hb dX10_drop_54 hl (by decide) rfl (fun ls hl => ?_)
  refine lv_aload_n hx hb dX10_drop_56 rfl (lv_at hl 1 rfl) ?_
  refine lv_aload hx hb dX10_drop_57 (lv_at hl 0 rfl) ?_
  obtain ⟨u1, e2, h⟩ := zbd_s h
  refine z_callv (va_runV (As := [.ref (q k0)]) (rest := []) (z_fix C) (cX_X10_layAnew_d l D cI cS cW q H.size k0  S (hj_k0) e2) (cwV 1 C.2.2.2.2.1 (zGV zk18_20 zk18_21 zk18_22 zk1_2 zk18_23) rfl rfl rfl yd_X10_layAnew ⟨Nat.le_of_ble_eq_true rfl, Nat.le_of_ble_eq_true rfl⟩) (z_preV (zNmX hE) hE hH zX_o6 rfl) rfl rfl hl.1 rfl (lv_room (Nat.le_of_ble_eq_true rfl)) dX10_drop_59 ⟨Nat.le_refl 0, Nat.le_refl 0⟩) hE hH (fun H locs hH => ?_)
  refine lv_iinc (v := (x4 + 1)) (lv' := [(4, .int (x4 + 1)), (5, .ref (q k0)), (0, .ref (q 6)), (2, .ref (q 8)), (3, .int x3)]) hx hb dX10_drop_62 hl (k := 4) rfl rfl (by decide) rfl (fun ls hl => ?_)
  refine lv_goto (tgt := 44) hx hb dX10_drop_65 (by decide) ?_
  exact hK44 x3 (x4 + 1) u1 H locs ls hH (lv_sub hl [2, 3, 4, 0] rfl) h
set_option maxHeartbeats 4000000 in
set_option maxRecDepth 100000 in
theorem bX_X10_drop_44 {p : Program} {l : Launch} {e : Env} {s : State} {m : MethodId} {args : Array Value} {below : List Frame} {meth : Method} {c : Code} {D : va_G} {cI cS cW : ClassId} {q : Nat → Nat} {A : Nat → Prop} {res : Int32 × zSt} (C : zCX p s m args meth c cX10_drop 6 (some .int) zU RX10) (hE : zE D (zyX cI cS cW) znX A s) : ∀ (n : Nat) (x3 x4 : Int32) (S : zSt) (H : Heap) (locs : List Loc) (ls : Array Slot), zH D (zwX cI cS cW q) A s S H locs → lv_has ls 6 [(0, .ref (q 6)), (2, .ref (q 8)), (3, .int x3), (4, .int x4)] → fX_X10_drop_44  n x3 x4 S = some res → W p l e rmX_X10_drop s m args below meth c H locs 0 0 (zQi below D (zwX cI cS cW q) (zyX cI cS cW) A args s res.1 res.2) (F0 m 44 ls []) := by
  have hx := C.1
  have hb := C.2.1
  intro n
  induction n with
  | zero =>
    intro x3 x4 S H locs ls hH hl  h
    cases h
  | succ n hK44 =>
    intro x3 x4 S H locs ls hH hl  h
    rw [fX_X10_drop_44] at h
    refine lv_iload hx hb dX10_drop_44 (lv_at hl 3 rfl) ?_
    refine lv_iload_n hx hb dX10_drop_46 rfl (lv_at hl 2 rfl) ?_
    refine lv_icmp_ge (tgt := 68) hx hb dX10_drop_47 (by decide) (fun c1 => ?_) (fun c1 => ?_)
    · replace h := zif_t c1 h
      refine lv_aload_n hx hb dX10_drop_68 rfl (lv_at hl 0 rfl) ?_
      refine z_get C hE hH zX_o6 rfl zh_X10 6 (by decide) zk2_15 (fun _ h9 => h9) (v := .int (S.1 0)) rfl dX10_drop_69 ?_
      cases h
      exact z_iret C hE hH dX10_drop_72
    · replace h := zif_f c1 h
      refine lv_aload_n hx hb dX10_drop_50 rfl (lv_at hl 1 rfl) ?_
      refine lv_iload hx hb dX10_drop_51 (lv_at hl 3 rfl) ?_
      obtain ⟨g2, h⟩ := zgd_s h
      refine z_aldq C hE hH zX_sh (t0 := 1) rfl g2 dX10_drop_53 ?_
      exact bX_X10_drop_54 C hE (fX_X10_drop_44  n) hK44 x4.toNatClampNeg x3 x4 S H locs ls hH (lv_sub hl [0, 1, 2, 3] rfl) (zin_lt g2) h
set_option maxHeartbeats 4000000 in
set_option maxRecDepth 100000 in
theorem bX_X10_drop {p : Program} {l : Launch} {e : Env} {s : State} {m : MethodId} {args : Array Value} {below : List Frame} {meth : Method} {c : Code} {D : va_G} {cI cS cW : ClassId} {q : Nat → Nat} {A : Nat → Prop} {res : Int32 × zSt} (C : zCX p s m args meth c cX10_drop 6 (some .int) zU RX10) (hE : zE D (zyX cI cS cW) znX A s) (x1 : Int32) (S : zSt) (H : Heap) (locs : List Loc) (ls : Array Slot) (hH : zH D (zwX cI cS cW q) A s S H locs) (hl : lv_has ls 6 [(0, .ref (q 6)), (1, .int x1)]) (h : fX_X10_drop  x1 S = some res) : W p l e rmX_X10_drop s m args below meth c H locs 0 0 (zQi below D (zwX cI cS cW q) (zyX cI cS cW) A args s res.1 res.2) (F0 m 0 ls []) := by
  have hx := C.1
  have hb := C.2.1
  unfold fX_X10_drop at h
  refine lv_iload_n hx hb dX10_drop_0 rfl (lv_at hl 1 rfl) ?_
  refine lv_if_lt (tgt := 12) hx hb dX10_drop_1 (by decide) (fun c1 => ?_) (fun c1 => ?_)
  · replace h := zif_t c1 h
    refine lv_iconst (v := (-1)) hx hb dX10_drop_12 (by decide) ?_
    cases h
    exact z_iret C hE hH dX10_drop_13
  · replace h := zif_f c1 h
    refine lv_iload_n hx hb dX10_drop_4 rfl (lv_at hl 1 rfl) ?_
    refine lv_aload_n hx hb dX10_drop_5 rfl (lv_at hl 0 rfl) ?_
    refine z_get C hE hH zX_o6 rfl zh_X10 6 (by decide) zk2_15 (fun _ h9 => h9) (v := .int (S.1 0)) rfl dX10_drop_6 ?_
    refine lv_icmp_le (tgt := 14) hx hb dX10_drop_9 (by decide) (fun c2 => ?_) (fun c2 => ?_)
    · replace h := zif_t c2 h
      refine lv_iload_n hx hb dX10_drop_14 rfl (lv_at hl 1 rfl) ?_
      refine lv_if_le (tgt := 68) hx hb dX10_drop_15 (by decide) (fun c3 => ?_) (fun c3 => ?_)
      · replace h := zif_t c3 h
        refine lv_aload_n hx hb dX10_drop_68 rfl (lv_at hl 0 rfl) ?_
        refine z_get C hE hH zX_o6 rfl zh_X10 6 (by decide) zk2_15 (fun _ h9 => h9) (v := .int (S.1 0)) rfl dX10_drop_69 ?_
        cases h
        exact z_iret C hE hH dX10_drop_72
      · replace h := zif_f c3 h
        refine lv_aload_n hx hb dX10_drop_18 rfl (lv_at hl 0 rfl) ?_
        refine lv_dup hx hb dX10_drop_19 rfl ?_
        refine z_get C hE hH zX_o6 rfl zh_X10 6 (by decide) zk2_15 (fun _ h9 => h9) (v := .int (S.1 0)) rfl dX10_drop_20 ?_
        refine lv_iload_n hx hb dX10_drop_23 rfl (lv_at hl 1 rfl) ?_
        refine lv_isub hx hb dX10_drop_24 ?_
        refine z_put C hE hH zX_o6 rfl zh_X10 tyX10_ok nmX10 6 (by decide) zk2_15 (fun _ h9 => h9) rfl (ty := .int) rfl rfl rfl (Nat.le_of_ble_eq_true rfl) zX_i0 dX10_drop_25 (fun H locs hH => ?_)
        refine lv_aload_n hx hb dX10_drop_28 rfl (lv_at hl 0 rfl) ?_
        refine lv_iconst (v := 0) hx hb dX10_drop_29 (by decide) ?_
        refine z_put C hE hH zX_o6 rfl zh_X10 tyX10_ok nmX10 12 (by decide) zk3_0 (fun _ h9 => h9) rfl (ty := .boolean) rfl rfl rfl (Nat.le_of_ble_eq_true rfl) zX_i5 dX10_drop_30 (fun H locs hH => ?_)
        refine lv_aload_n hx hb dX10_drop_33 rfl (lv_at hl 0 rfl) ?_
        refine z_get C hE hH zX_o6 rfl zh_X10 1 (by decide) zk2_9 (fun _ h9 => h9) (v := .ref (q 8)) rfl dX10_drop_34 ?_
        refine lv_astore_n (lv' := [(2, .ref (q 8)), (0, .ref (q 6)), (1, .int x1)]) hx hb dX10_drop_37 rfl hl (by decide) rfl (fun ls hl => ?_)
        refine lv_aload_n hx hb dX10_drop_38 rfl (lv_at hl 0 rfl) ?_
        refine z_alen C hE hH zX_sh (t0 := 1) rfl (v := 6) rfl dX10_drop_39 ?_
        refine lv_istore_n (lv' := [(3, .int 6), (2, .ref (q 8)), (0, .ref (q 6)), (1, .int x1)]) hx hb dX10_drop_40 rfl hl (by decide) rfl (fun ls hl => ?_)
        refine lv_iconst (v := 0) hx hb dX10_drop_41 (by decide) ?_
        refine lv_istore (lv' := [(4, .int 0), (3, .int 6), (2, .ref (q 8)), (0, .ref (q 6)), (1, .int x1)]) hx hb dX10_drop_42 hl (by decide) rfl (fun ls hl => ?_)
        exact bX_X10_drop_44 C hE   1000 6 0 (zsI (zsI S 0 ((S.1 0) - x1)) 5 0) H locs ls hH (lv_sub hl [3, 2, 1, 0] rfl) h
    · replace h := zif_f c2 h
      refine lv_iconst (v := (-1)) hx hb dX10_drop_12 (by decide) ?_
      cases h
      exact z_iret C hE hH dX10_drop_13
set_option maxHeartbeats 4000000 in
set_option maxRecDepth 100000 in
theorem cX_X10_drop (l : Launch) (D : va_G) (cI cS cW : ClassId) (q : Nat → Nat) (sz : Nat) (x1 : Int32) (S : zSt) {res : Int32 × zSt} (h : fX_X10_drop x1 S = some res) : zMi l yX10_drop vsX10_drop rmX_X10_drop [.ref (q 6), .int x1] D (zwX cI cS cW q) (zyX cI cS cW) znX sz S res.1 res.2 := by
  refine Met.ofW (cc := cX10_drop) (maxL := 6) (ret := (some .int)) (by decide) rfl ?_
  intro p e s m args below meth c s₁ B hml hv
  obtain ⟨rfl, rfl, hP, hK, hD0, hN⟩ := hv
  have hl := lv_entry ([.ref (q 6), .int x1]) (n := 6) (Nat.le_of_ble_eq_true rfl)
  rw [lg_entry_eq]
  generalize (lg_sl ([.ref (q 6), .int x1]) ++ List.replicate (6 - (lg_sl ([.ref (q 6), .int x1])).length) Slot.unset).toArray = ls at hl ⊢
  exact bX_X10_drop ⟨B.exec, B.bytes, hml, findClass_of_methodNamed B.named, fun w h => atoms_spec (ws := vsX10_drop) B.pre w (List.mem_cons_of_mem _ h), B.returns, B.notSynchronized⟩ ⟨hK, fun q h => Or.inr h, hN⟩ x1 S s.heap [] ls ⟨hP, hD0.self, va_S.rf⟩ hl  h
def rmX_X10_law : Room := { frames := 0, cells := 0, slots := 0, locals := 0 }
set_option maxHeartbeats 4000000 in
set_option maxRecDepth 100000 in
theorem bX_X10_law_30 {p : Program} {l : Launch} {e : Env} {s : State} {m : MethodId} {args : Array Value} {below : List Frame} {meth : Method} {c : Code} {D : va_G} {cI cS cW : ClassId} {q : Nat → Nat} {A : Nat → Prop} {res : Int32 × zSt} (C : zCX p s m args meth c cX10_law 3 (some .boolean) zU RX10) (hE : zE D (zyX cI cS cW) znX A s) (S : zSt) (H : Heap) (locs : List Loc) (ls : Array Slot) (hH : zH D (zwX cI cS cW q) A s S H locs) (hl : lv_has ls 3 [(0, .ref (q 6))]) (h : fX_X10_law_30   S = some res) : W p l e rmX_X10_law s m args below meth c H locs 0 0 (zQi below D (zwX cI cS cW q) (zyX cI cS cW) A args s res.1 res.2) (F0 m 30 ls []) := by
  have hx := C.1
  have hb := C.2.1
  unfold fX_X10_law_30 at h
  refine lv_aload_n hx hb dX10_law_30 rfl (lv_at hl 0 rfl) ?_
  refine lv_iconst (v := 0) hx hb dX10_law_31 (by decide) ?_
  refine z_put C hE hH zX_o6 rfl zh_X10 tyX10_ok nmX10 12 (by decide) zk3_0 (fun _ h9 => h9) rfl (ty := .boolean) rfl rfl rfl (Nat.le_of_ble_eq_true rfl) zX_i5 dX10_law_32 (fun H locs hH => ?_)
  refine lv_iconst (v := 1) hx hb dX10_law_35 (by decide) ?_
  cases h
  exact z_zret (v := 1) C hE hH zb_1 dX10_law_36
set_option maxHeartbeats 4000000 in
set_option maxRecDepth 100000 in
theorem bX_X10_law_12 {p : Program} {l : Launch} {e : Env} {s : State} {m : MethodId} {args : Array Value} {below : List Frame} {meth : Method} {c : Code} {D : va_G} {cI cS cW : ClassId} {q : Nat → Nat} {A : Nat → Prop} {res : Int32 × zSt} (C : zCX p s m args meth c cX10_law 3 (some .boolean) zU RX10) (hE : zE D (zyX cI cS cW) znX A s) (x1 x2 : Int32) (S : zSt) (H : Heap) (locs : List Loc) (ls : Array Slot) (hH : zH D (zwX cI cS cW q) A s S H locs) (hl : lv_has ls 3 [(0, .ref (q 6)), (1, .int x1), (2, .int x2)]) (h : fX_X10_law_12  x1 x2 S = some res) : W p l e rmX_X10_law s m args below meth c H locs 0 0 (zQi below D (zwX cI cS cW q) (zyX cI cS cW) A args s res.1 res.2) (F0 m 12 ls []) := by
  have hx := C.1
  have hb := C.2.1
  unfold fX_X10_law_12 at h
  refine lv_iload_n hx hb dX10_law_12 rfl (lv_at hl 1 rfl) ?_
  refine lv_iconst (v := 1) hx hb dX10_law_13 (by decide) ?_
  refine lv_icmp_ne (tgt := 25) hx hb dX10_law_14 (by decide) (fun c1 => ?_) (fun c1 => ?_)
  · replace h := zif_f c1 h
    refine lv_aload_n hx hb dX10_law_25 rfl (lv_at hl 0 rfl) ?_
    refine lv_iload_n hx hb dX10_law_26 rfl (lv_at hl 2 rfl) ?_
    obtain ⟨g2, h⟩ := zgd_s h
    refine z_put C hE hH zX_o6 rfl zh_X10 tyX10_ok nmX10 8 (by decide) zk2_17 (fun _ h9 => h9) rfl (ty := .boolean) rfl (zbo_n g2) (zbo_f g2) (Nat.le_of_ble_eq_true rfl) zX_i2 dX10_law_27 (fun H locs hH => ?_)
    exact bX_X10_law_30 C hE   (zsI S 2 x2) H locs ls hH (lv_sub hl [0] rfl) h
  · replace h := zif_t c1 h
    refine lv_aload_n hx hb dX10_law_17 rfl (lv_at hl 0 rfl) ?_
    refine lv_iload_n hx hb dX10_law_18 rfl (lv_at hl 2 rfl) ?_
    obtain ⟨g3, h⟩ := zgd_s h
    refine z_put C hE hH zX_o6 rfl zh_X10 tyX10_ok nmX10 7 (by decide) zk2_16 (fun _ h9 => h9) rfl (ty := .boolean) rfl (zbo_n g3) (zbo_f g3) (Nat.le_of_ble_eq_true rfl) zX_i1 dX10_law_19 (fun H locs hH => ?_)
    refine lv_goto (tgt := 30) hx hb dX10_law_22 (by decide) ?_
    exact bX_X10_law_30 C hE   (zsI S 1 x2) H locs ls hH (lv_sub hl [0] rfl) h
set_option maxHeartbeats 4000000 in
set_option maxRecDepth 100000 in
theorem bX_X10_law {p : Program} {l : Launch} {e : Env} {s : State} {m : MethodId} {args : Array Value} {below : List Frame} {meth : Method} {c : Code} {D : va_G} {cI cS cW : ClassId} {q : Nat → Nat} {A : Nat → Prop} {res : Int32 × zSt} (C : zCX p s m args meth c cX10_law 3 (some .boolean) zU RX10) (hE : zE D (zyX cI cS cW) znX A s) (x1 x2 : Int32) (S : zSt) (H : Heap) (locs : List Loc) (ls : Array Slot) (hH : zH D (zwX cI cS cW q) A s S H locs) (hl : lv_has ls 3 [(0, .ref (q 6)), (1, .int x1), (2, .int x2)]) (h : fX_X10_law  x1 x2 S = some res) : W p l e rmX_X10_law s m args below meth c H locs 0 0 (zQi below D (zwX cI cS cW q) (zyX cI cS cW) A args s res.1 res.2) (F0 m 0 ls []) := by
  have hx := C.1
  have hb := C.2.1
  unfold fX_X10_law at h
  refine lv_iload_n hx hb dX10_law_0 rfl (lv_at hl 1 rfl) ?_
  refine lv_iconst (v := 1) hx hb dX10_law_1 (by decide) ?_
  refine lv_icmp_eq (tgt := 12) hx hb dX10_law_2 (by decide) (fun c1 => ?_) (fun c1 => ?_)
  · replace h := zif_t c1 h
    exact bX_X10_law_12 C hE   x1 x2 S H locs ls hH (lv_sub hl [0, 1, 2] rfl) h
  · replace h := zif_f c1 h
    refine lv_iload_n hx hb dX10_law_5 rfl (lv_at hl 1 rfl) ?_
    refine lv_iconst (v := 2) hx hb dX10_law_6 (by decide) ?_
    refine lv_icmp_eq (tgt := 12) hx hb dX10_law_7 (by decide) (fun c2 => ?_) (fun c2 => ?_)
    · replace h := zif_t c2 h
      exact bX_X10_law_12 C hE   x1 x2 S H locs ls hH (lv_sub hl [0, 1, 2] rfl) h
    · replace h := zif_f c2 h
      refine lv_iconst (v := 0) hx hb dX10_law_10 (by decide) ?_
      cases h
      exact z_zret (v := 0) C hE hH zb_0 dX10_law_11
set_option maxHeartbeats 4000000 in
set_option maxRecDepth 100000 in
theorem cX_X10_law (l : Launch) (D : va_G) (cI cS cW : ClassId) (q : Nat → Nat) (sz : Nat) (x1 : Int32) (x2 : Int32) (S : zSt) {res : Int32 × zSt} (h : fX_X10_law x1 x2 S = some res) : zMi l yX10_law vsX10_law rmX_X10_law [.ref (q 6), .int x1, .int x2] D (zwX cI cS cW q) (zyX cI cS cW) znX sz S res.1 res.2 := by
  refine Met.ofW (cc := cX10_law) (maxL := 3) (ret := (some .boolean)) (by decide) rfl ?_
  intro p e s m args below meth c s₁ B hml hv
  obtain ⟨rfl, rfl, hP, hK, hD0, hN⟩ := hv
  have hl := lv_entry ([.ref (q 6), .int x1, .int x2]) (n := 3) (Nat.le_of_ble_eq_true rfl)
  rw [lg_entry_eq]
  generalize (lg_sl ([.ref (q 6), .int x1, .int x2]) ++ List.replicate (3 - (lg_sl ([.ref (q 6), .int x1, .int x2])).length) Slot.unset).toArray = ls at hl ⊢
  exact bX_X10_law ⟨B.exec, B.bytes, hml, findClass_of_methodNamed B.named, fun w h => atoms_spec (ws := vsX10_law) B.pre w (List.mem_cons_of_mem _ h), B.returns, B.notSynchronized⟩ ⟨hK, fun q h => Or.inr h, hN⟩ x1 x2 S s.heap [] ls ⟨hP, hD0.self, va_S.rf⟩ hl  h
def rmX_X10_set : Room := { frames := 0, cells := 0, slots := 0, locals := 0 }
set_option maxHeartbeats 4000000 in
set_option maxRecDepth 100000 in
theorem bX_X10_set_55 {p : Program} {l : Launch} {e : Env} {s : State} {m : MethodId} {args : Array Value} {below : List Frame} {meth : Method} {c : Code} {D : va_G} {cI cS cW : ClassId} {q : Nat → Nat} {A : Nat → Prop} {res : Int32 × zSt} (C : zCX p s m args meth c cX10_set 4 (some .int) zU RX10) (hE : zE D (zyX cI cS cW) znX A s) (x3 : Int32) (S : zSt) (H : Heap) (locs : List Loc) (ls : Array Slot) (hH : zH D (zwX cI cS cW q) A s S H locs) (hl : lv_has ls 4 [(0, .ref (q 6)), (3, .int x3)]) (h : fX_X10_set_55  x3 S = some res) : W p l e rmX_X10_set s m args below meth c H locs 0 0 (zQi below D (zwX cI cS cW q) (zyX cI cS cW) A args s res.1 res.2) (F0 m 55 ls []) := by
  have hx := C.1
  have hb := C.2.1
  unfold fX_X10_set_55 at h
  refine lv_aload_n hx hb dX10_set_55 rfl (lv_at hl 0 rfl) ?_
  refine lv_iconst (v := 0) hx hb dX10_set_56 (by decide) ?_
  refine z_put C hE hH zX_o6 rfl zh_X10 tyX10_ok nmX10 12 (by decide) zk3_0 (fun _ h9 => h9) rfl (ty := .boolean) rfl rfl rfl (Nat.le_of_ble_eq_true rfl) zX_i5 dX10_set_57 (fun H locs hH => ?_)
  refine lv_iload_n hx hb dX10_set_60 rfl (lv_at hl 1 rfl) ?_
  cases h
  exact z_iret C hE hH dX10_set_61
set_option maxHeartbeats 4000000 in
set_option maxRecDepth 100000 in
theorem bX_X10_set_37 {p : Program} {l : Launch} {e : Env} {s : State} {m : MethodId} {args : Array Value} {below : List Frame} {meth : Method} {c : Code} {D : va_G} {cI cS cW : ClassId} {q : Nat → Nat} {A : Nat → Prop} {res : Int32 × zSt} (C : zCX p s m args meth c cX10_set 4 (some .int) zU RX10) (hE : zE D (zyX cI cS cW) znX A s) (x1 x2 t0 : Int32) (S : zSt) (H : Heap) (locs : List Loc) (ls : Array Slot) (hH : zH D (zwX cI cS cW q) A s S H locs) (hl : lv_has ls 4 [(0, .ref (q 6)), (1, .int x1), (2, .int x2)]) (h : fX_X10_set_37  x1 x2 t0 S = some res) : W p l e rmX_X10_set s m args below meth c H locs 0 0 (zQi below D (zwX cI cS cW q) (zyX cI cS cW) A args s res.1 res.2) (F0 m 37 ls [.int t0]) := by
  have hx := C.1
  have hb := C.2.1
  unfold fX_X10_set_37 at h
  refine lv_istore_n (lv' := [(3, .int t0), (0, .ref (q 6)), (1, .int x1), (2, .int x2)]) hx hb dX10_set_37 rfl hl (by decide) rfl (fun ls hl => ?_)
  refine lv_iload_n hx hb dX10_set_38 rfl (lv_at hl 2 rfl) ?_
  refine lv_if_ne (tgt := 50) hx hb dX10_set_39 (by decide) (fun c1 => ?_) (fun c1 => ?_)
  · replace h := zif_f c1 h
    refine lv_aload_n hx hb dX10_set_50 rfl (lv_at hl 1 rfl) ?_
    refine lv_iload_n hx hb dX10_set_51 rfl (lv_at hl 3 rfl) ?_
    refine z_put C hE hH zX_o6 rfl zh_X10 tyX10_ok nmX10 10 (by decide) zk2_19 (fun _ h9 => h9) rfl (ty := .int) rfl rfl rfl (Nat.le_of_ble_eq_true rfl) zX_i4 dX10_set_52 (fun H locs hH => ?_)
    exact bX_X10_set_55 C hE   t0 (zsI S 4 x2) H locs ls hH (lv_sub hl [1, 0] rfl) h
  · replace h := zif_t c1 h
    refine lv_aload_n hx hb dX10_set_42 rfl (lv_at hl 1 rfl) ?_
    refine lv_iload_n hx hb dX10_set_43 rfl (lv_at hl 3 rfl) ?_
    refine z_put C hE hH zX_o6 rfl zh_X10 tyX10_ok nmX10 9 (by decide) zk2_18 (fun _ h9 => h9) rfl (ty := .int) rfl rfl rfl (Nat.le_of_ble_eq_true rfl) zX_i3 dX10_set_44 (fun H locs hH => ?_)
    refine lv_goto (tgt := 55) hx hb dX10_set_47 (by decide) ?_
    exact bX_X10_set_55 C hE   t0 (zsI S 3 x2) H locs ls hH (lv_sub hl [1, 0] rfl) h
set_option maxHeartbeats 4000000 in
set_option maxRecDepth 100000 in
theorem bX_X10_set {p : Program} {l : Launch} {e : Env} {s : State} {m : MethodId} {args : Array Value} {below : List Frame} {meth : Method} {c : Code} {D : va_G} {cI cS cW : ClassId} {q : Nat → Nat} {A : Nat → Prop} {res : Int32 × zSt} (C : zCX p s m args meth c cX10_set 4 (some .int) zU RX10) (hE : zE D (zyX cI cS cW) znX A s) (x1 x2 : Int32) (S : zSt) (H : Heap) (locs : List Loc) (ls : Array Slot) (hH : zH D (zwX cI cS cW q) A s S H locs) (hl : lv_has ls 4 [(0, .ref (q 6)), (1, .int x1), (2, .int x2)]) (h : fX_X10_set  x1 x2 S = some res) : W p l e rmX_X10_set s m args below meth c H locs 0 0 (zQi below D (zwX cI cS cW q) (zyX cI cS cW) A args s res.1 res.2) (F0 m 0 ls []) := by
  have hx := C.1
  have hb := C.2.1
  unfold fX_X10_set at h
  refine lv_iload_n hx hb dX10_set_0 rfl (lv_at hl 1 rfl) ?_
  refine lv_if_lt (tgt := 20) hx hb dX10_set_1 (by decide) (fun c1 => ?_) (fun c1 => ?_)
  · replace h := zif_t c1 h
    refine lv_iconst (v := (-1)) hx hb dX10_set_20 (by decide) ?_
    cases h
    exact z_iret C hE hH dX10_set_21
  · replace h := zif_f c1 h
    refine lv_iload_n hx hb dX10_set_4 rfl (lv_at hl 1 rfl) ?_
    refine lv_iconst (v := 1) hx hb dX10_set_5 (by decide) ?_
    refine lv_icmp_gt (tgt := 20) hx hb dX10_set_6 (by decide) (fun c2 => ?_) (fun c2 => ?_)
    · replace h := zif_t c2 h
      refine lv_iconst (v := (-1)) hx hb dX10_set_20 (by decide) ?_
      cases h
      exact z_iret C hE hH dX10_set_21
    · replace h := zif_f c2 h
      refine lv_iload_n hx hb dX10_set_9 rfl (lv_at hl 2 rfl) ?_
      refine lv_if_lt (tgt := 20) hx hb dX10_set_10 (by decide) (fun c3 => ?_) (fun c3 => ?_)
      · replace h := zif_t c3 h
        refine lv_iconst (v := (-1)) hx hb dX10_set_20 (by decide) ?_
        cases h
        exact z_iret C hE hH dX10_set_21
      · replace h := zif_f c3 h
        refine lv_iload_n hx hb dX10_set_13 rfl (lv_at hl 2 rfl) ?_
        refine lv_sipush (v := 1000) hx hb dX10_set_14 (by decide) ?_
        refine lv_icmp_le (tgt := 22) hx hb dX10_set_17 (by decide) (fun c4 => ?_) (fun c4 => ?_)
        · replace h := zif_t c4 h
          refine lv_iload_n hx hb dX10_set_22 rfl (lv_at hl 1 rfl) ?_
          refine lv_if_ne (tgt := 33) hx hb dX10_set_23 (by decide) (fun c5 => ?_) (fun c5 => ?_)
          · replace h := zif_f c5 h
            refine lv_aload_n hx hb dX10_set_33 rfl (lv_at hl 0 rfl) ?_
            refine z_get C hE hH zX_o6 rfl zh_X10 10 (by decide) zk2_19 (fun _ h9 => h9) (v := .int (S.1 4)) rfl dX10_set_34 ?_
            exact bX_X10_set_37 C hE   x1 x2 (S.1 4) S H locs ls hH (lv_sub hl [0, 1, 2] rfl) h
          · replace h := zif_t c5 h
            refine lv_aload_n hx hb dX10_set_26 rfl (lv_at hl 0 rfl) ?_
            refine z_get C hE hH zX_o6 rfl zh_X10 9 (by decide) zk2_18 (fun _ h9 => h9) (v := .int (S.1 3)) rfl dX10_set_27 ?_
            refine lv_goto (tgt := 37) hx hb dX10_set_30 (by decide) ?_
            exact bX_X10_set_37 C hE   x1 x2 (S.1 3) S H locs ls hH (lv_sub hl [0, 1, 2] rfl) h
        · replace h := zif_f c4 h
          refine lv_iconst (v := (-1)) hx hb dX10_set_20 (by decide) ?_
          cases h
          exact z_iret C hE hH dX10_set_21
set_option maxHeartbeats 4000000 in
set_option maxRecDepth 100000 in
theorem cX_X10_set (l : Launch) (D : va_G) (cI cS cW : ClassId) (q : Nat → Nat) (sz : Nat) (x1 : Int32) (x2 : Int32) (S : zSt) {res : Int32 × zSt} (h : fX_X10_set x1 x2 S = some res) : zMi l yX10_set vsX10_set rmX_X10_set [.ref (q 6), .int x1, .int x2] D (zwX cI cS cW q) (zyX cI cS cW) znX sz S res.1 res.2 := by
  refine Met.ofW (cc := cX10_set) (maxL := 4) (ret := (some .int)) (by decide) rfl ?_
  intro p e s m args below meth c s₁ B hml hv
  obtain ⟨rfl, rfl, hP, hK, hD0, hN⟩ := hv
  have hl := lv_entry ([.ref (q 6), .int x1, .int x2]) (n := 4) (Nat.le_of_ble_eq_true rfl)
  rw [lg_entry_eq]
  generalize (lg_sl ([.ref (q 6), .int x1, .int x2]) ++ List.replicate (4 - (lg_sl ([.ref (q 6), .int x1, .int x2])).length) Slot.unset).toArray = ls at hl ⊢
  exact bX_X10_set ⟨B.exec, B.bytes, hml, findClass_of_methodNamed B.named, fun w h => atoms_spec (ws := vsX10_set) B.pre w (List.mem_cons_of_mem _ h), B.returns, B.notSynchronized⟩ ⟨hK, fun q h => Or.inr h, hN⟩ x1 x2 S s.heap [] ls ⟨hP, hD0.self, va_S.rf⟩ hl  h
def rmX_X10_isCall : Room := { frames := 0, cells := 0, slots := 0, locals := 0 }
set_option maxHeartbeats 4000000 in
set_option maxRecDepth 100000 in
theorem bX_X10_isCall {p : Program} {l : Launch} {e : Env} {s : State} {m : MethodId} {args : Array Value} {below : List Frame} {meth : Method} {c : Code} {D : va_G} {cI cS cW : ClassId} {q : Nat → Nat} {A : Nat → Prop} {res : Int32} (C : zCX p s m args meth c cX10_isCall 2 (some .boolean) zU RX10) (hE : zE D (zyX cI cS cW) znX A s) (x1 : Int32) (S : zSt) (H : Heap) (locs : List Loc) (ls : Array Slot) (hH : zH D (zwX cI cS cW q) A s S H locs) (hl : lv_has ls 2 [(0, .ref (q 6)), (1, .int x1)]) (h : fX_X10_isCall  x1 S = some res) : W p l e rmX_X10_isCall s m args below meth c H locs 0 0 (zQi below D (zwX cI cS cW q) (zyX cI cS cW) A args s res S) (F0 m 0 ls []) := by
  have hx := C.1
  have hb := C.2.1
  unfold fX_X10_isCall at h
  refine lv_iload_n hx hb dX10_isCall_0 rfl (lv_at hl 1 rfl) ?_
  refine lv_if_lt (tgt := 16) hx hb dX10_isCall_1 (by decide) (fun c1 => ?_) (fun c1 => ?_)
  · replace h := zif_t c1 h
    refine lv_iconst (v := 0) hx hb dX10_isCall_16 (by decide) ?_
    cases h
    exact z_zret (v := 0) C hE hH zb_0 dX10_isCall_17
  · replace h := zif_f c1 h
    refine lv_iload_n hx hb dX10_isCall_4 rfl (lv_at hl 1 rfl) ?_
    refine lv_aload_n hx hb dX10_isCall_5 rfl (lv_at hl 0 rfl) ?_
    refine z_get C hE hH zX_o6 rfl zh_X10 6 (by decide) zk2_15 (fun _ h9 => h9) (v := .int (S.1 0)) rfl dX10_isCall_6 ?_
    refine lv_icmp_ge (tgt := 16) hx hb dX10_isCall_9 (by decide) (fun c2 => ?_) (fun c2 => ?_)
    · replace h := zif_t c2 h
      refine lv_iconst (v := 0) hx hb dX10_isCall_16 (by decide) ?_
      cases h
      exact z_zret (v := 0) C hE hH zb_0 dX10_isCall_17
    · replace h := zif_f c2 h
      refine lv_iconst (v := 1) hx hb dX10_isCall_12 (by decide) ?_
      refine lv_goto (tgt := 17) hx hb dX10_isCall_13 (by decide) ?_
      cases h
      exact z_zret (v := 1) C hE hH zb_1 dX10_isCall_17
set_option maxHeartbeats 4000000 in
set_option maxRecDepth 100000 in
theorem cX_X10_isCall (l : Launch) (D : va_G) (cI cS cW : ClassId) (q : Nat → Nat) (sz : Nat) (x1 : Int32) (S : zSt) {res : Int32} (h : fX_X10_isCall x1 S = some res) : zMi l yX10_isCall vsX10_isCall rmX_X10_isCall [.ref (q 6), .int x1] D (zwX cI cS cW q) (zyX cI cS cW) znX sz S res S := by
  refine Met.ofW (cc := cX10_isCall) (maxL := 2) (ret := (some .boolean)) (by decide) rfl ?_
  intro p e s m args below meth c s₁ B hml hv
  obtain ⟨rfl, rfl, hP, hK, hD0, hN⟩ := hv
  have hl := lv_entry ([.ref (q 6), .int x1]) (n := 2) (Nat.le_of_ble_eq_true rfl)
  rw [lg_entry_eq]
  generalize (lg_sl ([.ref (q 6), .int x1]) ++ List.replicate (2 - (lg_sl ([.ref (q 6), .int x1])).length) Slot.unset).toArray = ls at hl ⊢
  exact bX_X10_isCall ⟨B.exec, B.bytes, hml, findClass_of_methodNamed B.named, fun w h => atoms_spec (ws := vsX10_isCall) B.pre w (List.mem_cons_of_mem _ h), B.returns, B.notSynchronized⟩ ⟨hK, fun q h => Or.inr h, hN⟩ x1 S s.heap [] ls ⟨hP, hD0.self, va_S.rf⟩ hl  h
def rmX_X10_told : Room := { frames := 1, cells := 0, slots := 0, locals := 21 }
set_option maxHeartbeats 4000000 in
set_option maxRecDepth 100000 in
theorem bX_X10_told {p : Program} {l : Launch} {e : Env} {s : State} {m : MethodId} {args : Array Value} {below : List Frame} {meth : Method} {c : Code} {D : va_G} {cI cS cW : ClassId} {q : Nat → Nat} {A : Nat → Prop} {res : Int32} (C : zCX p s m args meth c cX10_told 3 (some .int) zU RX10) (hE : zE D (zyX cI cS cW) znX A s) (x1 x2 : Int32) (S : zSt) (H : Heap) (locs : List Loc) (ls : Array Slot) (hH : zH D (zwX cI cS cW q) A s S H locs) (hl : lv_has ls 3 [(0, .ref (q 6)), (1, .int x1), (2, .int x2)]) (h : fX_X10_told  x1 x2 S = some res) : W p l e rmX_X10_told s m args below meth c H locs 0 0 (zQi below D (zwX cI cS cW q) (zyX cI cS cW) A args s res S) (F0 m 0 ls []) := by
  have hx := C.1
  have hb := C.2.1
  unfold fX_X10_told at h
  refine lv_aload_n hx hb dX10_told_0 rfl (lv_at hl 0 rfl) ?_
  refine lv_iload_n hx hb dX10_told_1 rfl (lv_at hl 1 rfl) ?_
  obtain ⟨u1, e2, h⟩ := zbd_s h
  refine z_calli (va_runV (As := [.int x1]) (rest := []) (z_fix C) (cX_X10_isCall l D cI cS cW q H.size  x1 S e2) (cwV 1 C.2.2.2.2.1 (zGV zk21_9 zk21_10 zk21_11 zk1_2 zk21_12) rfl rfl rfl yd_X10_isCall ⟨Nat.le_of_ble_eq_true rfl, Nat.le_of_ble_eq_true rfl⟩) (z_preV (zNmX hE) hE hH zX_o6 rfl) rfl rfl hl.1 rfl (lv_room (Nat.le_of_ble_eq_true rfl)) dX10_told_2 ⟨Nat.le_refl 0, Nat.le_refl 0⟩) hE hH (fun H locs hH => ?_)
  refine lv_if_ne (tgt := 10) hx hb dX10_told_5 (by decide) (fun c3 => ?_) (fun c3 => ?_)
  · replace h := zif_f c3 h
    refine lv_iload_n hx hb dX10_told_10 rfl (lv_at hl 2 rfl) ?_
    by_cases c4_0 : x2 = 0
    · replace h := zif_t c4_0 h
      refine lv_tableIn (tgt := 36) hx hb dX10_told_11 (by rw [c4_0]; decide) (by rw [c4_0]; decide) (by rw [c4_0]; rfl) (by decide) ?_
      refine lv_aload_n hx hb dX10_told_36 rfl (lv_at hl 0 rfl) ?_
      refine z_get C hE hH zX_o6 rfl zh_X10 2 (by decide) zk2_11 (fun _ h9 => h9) (v := .ref (q 28)) rfl dX10_told_37 ?_
      refine lv_iload_n hx hb dX10_told_40 rfl (lv_at hl 1 rfl) ?_
      obtain ⟨g5, h⟩ := zgd_s h
      refine z_iald C hE hH zX_a28 (t0 := 0) rfl g5 dX10_told_41 ?_
      cases h
      exact z_iret C hE hH dX10_told_42
    · replace h := zif_f c4_0 h
      by_cases c4_1 : x2 = 1
      · replace h := zif_t c4_1 h
        refine lv_tableIn (tgt := 43) hx hb dX10_told_11 (by rw [c4_1]; decide) (by rw [c4_1]; decide) (by rw [c4_1]; rfl) (by decide) ?_
        refine lv_aload_n hx hb dX10_told_43 rfl (lv_at hl 0 rfl) ?_
        refine z_get C hE hH zX_o6 rfl zh_X10 3 (by decide) zk2_12 (fun _ h9 => h9) (v := .ref (q 29)) rfl dX10_told_44 ?_
        refine lv_iload_n hx hb dX10_told_47 rfl (lv_at hl 1 rfl) ?_
        obtain ⟨g6, h⟩ := zgd_s h
        refine z_iald C hE hH zX_a29 (t0 := 0) rfl g6 dX10_told_48 ?_
        cases h
        exact z_iret C hE hH dX10_told_49
      · replace h := zif_f c4_1 h
        by_cases c4_2 : x2 = 2
        · replace h := zif_t c4_2 h
          refine lv_tableIn (tgt := 50) hx hb dX10_told_11 (by rw [c4_2]; decide) (by rw [c4_2]; decide) (by rw [c4_2]; rfl) (by decide) ?_
          refine lv_aload_n hx hb dX10_told_50 rfl (lv_at hl 0 rfl) ?_
          refine z_get C hE hH zX_o6 rfl zh_X10 5 (by decide) zk2_14 (fun _ h9 => h9) (v := .ref (q 31)) rfl dX10_told_51 ?_
          refine lv_iload_n hx hb dX10_told_54 rfl (lv_at hl 1 rfl) ?_
          obtain ⟨g7, h⟩ := zgd_s h
          refine z_iald C hE hH zX_a31 (t0 := 0) rfl g7 dX10_told_55 ?_
          cases h
          exact z_iret C hE hH dX10_told_56
        · replace h := zif_f c4_2 h
          have ec4_0 : ¬ (x2).toInt = 0 := zsw_ne c4_0
          have ec4_1 : ¬ (x2).toInt = 1 := zsw_ne c4_1
          have ec4_2 : ¬ (x2).toInt = 2 := zsw_ne c4_2
          refine lv_tableOut (tgt := 57) hx hb dX10_told_11 (by omega) (by decide) ?_
          refine lv_iconst (v := (-1)) hx hb dX10_told_57 (by decide) ?_
          cases h
          exact z_iret C hE hH dX10_told_58
  · replace h := zif_t c3 h
    refine lv_iconst (v := (-1)) hx hb dX10_told_8 (by decide) ?_
    cases h
    exact z_iret C hE hH dX10_told_9
set_option maxHeartbeats 4000000 in
set_option maxRecDepth 100000 in
theorem cX_X10_told (l : Launch) (D : va_G) (cI cS cW : ClassId) (q : Nat → Nat) (sz : Nat) (x1 : Int32) (x2 : Int32) (S : zSt) {res : Int32} (h : fX_X10_told x1 x2 S = some res) : zMi l yX10_told vsX10_told rmX_X10_told [.ref (q 6), .int x1, .int x2] D (zwX cI cS cW q) (zyX cI cS cW) znX sz S res S := by
  refine Met.ofW (cc := cX10_told) (maxL := 3) (ret := (some .int)) (by decide) rfl ?_
  intro p e s m args below meth c s₁ B hml hv
  obtain ⟨rfl, rfl, hP, hK, hD0, hN⟩ := hv
  have hl := lv_entry ([.ref (q 6), .int x1, .int x2]) (n := 3) (Nat.le_of_ble_eq_true rfl)
  rw [lg_entry_eq]
  generalize (lg_sl ([.ref (q 6), .int x1, .int x2]) ++ List.replicate (3 - (lg_sl ([.ref (q 6), .int x1, .int x2])).length) Slot.unset).toArray = ls at hl ⊢
  exact bX_X10_told ⟨B.exec, B.bytes, hml, findClass_of_methodNamed B.named, fun w h => atoms_spec (ws := vsX10_told) B.pre w (List.mem_cons_of_mem _ h), B.returns, B.notSynchronized⟩ ⟨hK, fun q h => Or.inr h, hN⟩ x1 x2 S s.heap [] ls ⟨hP, hD0.self, va_S.rf⟩ hl  h
def rmX_X10_isShelf : Room := { frames := 0, cells := 0, slots := 0, locals := 0 }
set_option maxHeartbeats 4000000 in
set_option maxRecDepth 100000 in
theorem bX_X10_isShelf {p : Program} {l : Launch} {e : Env} {s : State} {m : MethodId} {args : Array Value} {below : List Frame} {meth : Method} {c : Code} {D : va_G} {cI cS cW : ClassId} {q : Nat → Nat} {A : Nat → Prop} {res : Int32} (C : zCX p s m args meth c cX10_isShelf 1 (some .boolean) zU RX10) (hE : zE D (zyX cI cS cW) znX A s) (x0 : Int32) (S : zSt) (H : Heap) (locs : List Loc) (ls : Array Slot) (hH : zH D (zwX cI cS cW q) A s S H locs) (hl : lv_has ls 1 [(0, .int x0)]) (h : fX_X10_isShelf  x0 S = some res) : W p l e rmX_X10_isShelf s m args below meth c H locs 0 0 (zQi below D (zwX cI cS cW q) (zyX cI cS cW) A args s res S) (F0 m 0 ls []) := by
  have hx := C.1
  have hb := C.2.1
  unfold fX_X10_isShelf at h
  refine lv_iload_n hx hb dX10_isShelf_0 rfl (lv_at hl 0 rfl) ?_
  refine lv_if_lt (tgt := 14) hx hb dX10_isShelf_1 (by decide) (fun c1 => ?_) (fun c1 => ?_)
  · replace h := zif_t c1 h
    refine lv_iconst (v := 0) hx hb dX10_isShelf_14 (by decide) ?_
    cases h
    exact z_zret (v := 0) C hE hH zb_0 dX10_isShelf_15
  · replace h := zif_f c1 h
    refine lv_iload_n hx hb dX10_isShelf_4 rfl (lv_at hl 0 rfl) ?_
    refine lv_bipush (v := 6) hx hb dX10_isShelf_5 (by decide) ?_
    refine lv_icmp_ge (tgt := 14) hx hb dX10_isShelf_7 (by decide) (fun c2 => ?_) (fun c2 => ?_)
    · replace h := zif_t c2 h
      refine lv_iconst (v := 0) hx hb dX10_isShelf_14 (by decide) ?_
      cases h
      exact z_zret (v := 0) C hE hH zb_0 dX10_isShelf_15
    · replace h := zif_f c2 h
      refine lv_iconst (v := 1) hx hb dX10_isShelf_10 (by decide) ?_
      refine lv_goto (tgt := 15) hx hb dX10_isShelf_11 (by decide) ?_
      cases h
      exact z_zret (v := 1) C hE hH zb_1 dX10_isShelf_15
set_option maxHeartbeats 4000000 in
set_option maxRecDepth 100000 in
theorem cX_X10_isShelf (l : Launch) (D : va_G) (cI cS cW : ClassId) (q : Nat → Nat) (sz : Nat) (x0 : Int32) (S : zSt) {res : Int32} (h : fX_X10_isShelf x0 S = some res) : zMi l yX10_isShelf vsX10_isShelf rmX_X10_isShelf [.int x0] D (zwX cI cS cW q) (zyX cI cS cW) znX sz S res S := by
  refine Met.ofW (cc := cX10_isShelf) (maxL := 1) (ret := (some .boolean)) (by decide) rfl ?_
  intro p e s m args below meth c s₁ B hml hv
  obtain ⟨rfl, rfl, hP, hK, hD0, hN⟩ := hv
  have hl := lv_entry ([.int x0]) (n := 1) (Nat.le_of_ble_eq_true rfl)
  rw [lg_entry_eq]
  generalize (lg_sl ([.int x0]) ++ List.replicate (1 - (lg_sl ([.int x0])).length) Slot.unset).toArray = ls at hl ⊢
  exact bX_X10_isShelf ⟨B.exec, B.bytes, hml, findClass_of_methodNamed B.named, fun w h => atoms_spec (ws := vsX10_isShelf) B.pre w (List.mem_cons_of_mem _ h), B.returns, B.notSynchronized⟩ ⟨hK, fun q h => Or.inr h, hN⟩ x0 S s.heap [] ls ⟨hP, hD0.self, va_S.rf⟩ hl  h
def rmX_X10_cost : Room := { frames := 1, cells := 0, slots := 0, locals := 21 }
set_option maxHeartbeats 4000000 in
set_option maxRecDepth 100000 in
theorem bX_X10_cost {p : Program} {l : Launch} {e : Env} {s : State} {m : MethodId} {args : Array Value} {below : List Frame} {meth : Method} {c : Code} {D : va_G} {cI cS cW : ClassId} {q : Nat → Nat} {A : Nat → Prop} {res : Int32} (C : zCX p s m args meth c cX10_cost 3 (some .int) zU RX10) (hE : zE D (zyX cI cS cW) znX A s) (x1 x2 : Int32) (S : zSt) (H : Heap) (locs : List Loc) (ls : Array Slot) (hH : zH D (zwX cI cS cW q) A s S H locs) (hl : lv_has ls 3 [(0, .ref (q 6)), (1, .int x1), (2, .int x2)]) (h : fX_X10_cost  x1 x2 S = some res) : W p l e rmX_X10_cost s m args below meth c H locs 0 0 (zQi below D (zwX cI cS cW q) (zyX cI cS cW) A args s res S) (F0 m 0 ls []) := by
  have hx := C.1
  have hb := C.2.1
  unfold fX_X10_cost at h
  refine lv_iload_n hx hb dX10_cost_0 rfl (lv_at hl 1 rfl) ?_
  obtain ⟨u1, e2, h⟩ := zbd_s h
  refine z_calli (va_runS (As := [.int x1]) (rest := []) (z_fix C) (cX_X10_isShelf l D cI cS cW q H.size  x1 S e2) (va_cwS 1 C.2.2.2.2.1 (zGS zk27_10 zk27_11 zk1_2 zk27_12) rfl rfl rfl yd_X10_isShelf ⟨Nat.le_of_ble_eq_true rfl, Nat.le_of_ble_eq_true rfl⟩) (z_preS (zNmX hE) hE hH) rfl rfl hl.1 rfl (lv_room (Nat.le_of_ble_eq_true rfl)) dX10_cost_1 ⟨Nat.le_refl 0, Nat.le_refl 0⟩) hE hH (fun H locs hH => ?_)
  refine lv_if_eq (tgt := 29) hx hb dX10_cost_4 (by decide) (fun c3 => ?_) (fun c3 => ?_)
  · replace h := zif_t c3 h
    refine lv_iconst (v := (-1)) hx hb dX10_cost_29 (by decide) ?_
    cases h
    exact z_iret C hE hH dX10_cost_30
  · replace h := zif_f c3 h
    refine lv_aload_n hx hb dX10_cost_7 rfl (lv_at hl 0 rfl) ?_
    refine lv_iload_n hx hb dX10_cost_8 rfl (lv_at hl 2 rfl) ?_
    obtain ⟨u4, e5, h⟩ := zbd_s h
    refine z_calli (va_runV (As := [.int x2]) (rest := []) (z_fix C) (cX_X10_isCall l D cI cS cW q H.size  x2 S e5) (cwV 1 C.2.2.2.2.1 (zGV zk21_9 zk21_10 zk21_11 zk1_2 zk21_12) rfl rfl rfl yd_X10_isCall ⟨Nat.le_of_ble_eq_true rfl, Nat.le_of_ble_eq_true rfl⟩) (z_preV (zNmX hE) hE hH zX_o6 rfl) rfl rfl hl.1 rfl (lv_room (Nat.le_of_ble_eq_true rfl)) dX10_cost_9 ⟨Nat.le_refl 0, Nat.le_refl 0⟩) hE hH (fun H locs hH => ?_)
    refine lv_if_eq (tgt := 29) hx hb dX10_cost_12 (by decide) (fun c6 => ?_) (fun c6 => ?_)
    · replace h := zif_t c6 h
      refine lv_iconst (v := (-1)) hx hb dX10_cost_29 (by decide) ?_
      cases h
      exact z_iret C hE hH dX10_cost_30
    · replace h := zif_f c6 h
      refine lv_aload_n hx hb dX10_cost_15 rfl (lv_at hl 0 rfl) ?_
      refine z_get C hE hH zX_o6 rfl zh_X10 1 (by decide) zk2_9 (fun _ h9 => h9) (v := .ref (q 8)) rfl dX10_cost_16 ?_
      refine lv_iload_n hx hb dX10_cost_19 rfl (lv_at hl 1 rfl) ?_
      obtain ⟨g7, h⟩ := zgd_s h
      refine z_aldq C hE hH zX_sh (t0 := 1) rfl g7 dX10_cost_20 ?_
      refine z_getSteps C hE hH zh_X6 zh_X8 zh_X2 zh_X9 zh_X3 zh_X0 zk27_9 (zin_lt g7) dX10_cost_21 ?_
      refine lv_iload_n hx hb dX10_cost_24 rfl (lv_at hl 2 rfl) ?_
      obtain ⟨g8, h⟩ := zgd_s h
      refine z_iald C hE hH (zX_d10 (zin_lt g7)) (t0 := 0) rfl g8 dX10_cost_25 ?_
      refine lv_goto (tgt := 30) hx hb dX10_cost_26 (by decide) ?_
      cases h
      exact z_iret C hE hH dX10_cost_30
set_option maxHeartbeats 4000000 in
set_option maxRecDepth 100000 in
theorem cX_X10_cost (l : Launch) (D : va_G) (cI cS cW : ClassId) (q : Nat → Nat) (sz : Nat) (x1 : Int32) (x2 : Int32) (S : zSt) {res : Int32} (h : fX_X10_cost x1 x2 S = some res) : zMi l yX10_cost vsX10_cost rmX_X10_cost [.ref (q 6), .int x1, .int x2] D (zwX cI cS cW q) (zyX cI cS cW) znX sz S res S := by
  refine Met.ofW (cc := cX10_cost) (maxL := 3) (ret := (some .int)) (by decide) rfl ?_
  intro p e s m args below meth c s₁ B hml hv
  obtain ⟨rfl, rfl, hP, hK, hD0, hN⟩ := hv
  have hl := lv_entry ([.ref (q 6), .int x1, .int x2]) (n := 3) (Nat.le_of_ble_eq_true rfl)
  rw [lg_entry_eq]
  generalize (lg_sl ([.ref (q 6), .int x1, .int x2]) ++ List.replicate (3 - (lg_sl ([.ref (q 6), .int x1, .int x2])).length) Slot.unset).toArray = ls at hl ⊢
  exact bX_X10_cost ⟨B.exec, B.bytes, hml, findClass_of_methodNamed B.named, fun w h => atoms_spec (ws := vsX10_cost) B.pre w (List.mem_cons_of_mem _ h), B.returns, B.notSynchronized⟩ ⟨hK, fun q h => Or.inr h, hN⟩ x1 x2 S s.heap [] ls ⟨hP, hD0.self, va_S.rf⟩ hl  h
def rmX_X4_keyAt_Hash : Room := { frames := 0, cells := 0, slots := 0, locals := 0 }
set_option maxHeartbeats 4000000 in
set_option maxRecDepth 100000 in
theorem bX_X4_keyAt_Hash {p : Program} {l : Launch} {e : Env} {s : State} {m : MethodId} {args : Array Value} {below : List Frame} {meth : Method} {c : Code} {D : va_G} {cI cS cW : ClassId} {q : Nat → Nat} {A : Nat → Prop} {res : Int32} (C : zCX p s m args meth c cX4_keyAt 2 (some .int) zU RX4) (hE : zE D (zyX cI cS cW) znX A s) (x1 : Int32) (S : zSt) (H : Heap) (locs : List Loc) (ls : Array Slot) (hH : zH D (zwX cI cS cW q) A s S H locs) (hl : lv_has ls 2 [(0, .ref (q 2)), (1, .int x1)]) (h : fX_X4_keyAt_Hash  x1 S = some res) : W p l e rmX_X4_keyAt_Hash s m args below meth c H locs 0 0 (zQi below D (zwX cI cS cW q) (zyX cI cS cW) A args s res S) (F0 m 0 ls []) := by
  have hx := C.1
  have hb := C.2.1
  unfold fX_X4_keyAt_Hash at h
  refine lv_iload_n hx hb dX4_keyAt_0 rfl (lv_at hl 1 rfl) ?_
  refine lv_if_lt (tgt := 21) hx hb dX4_keyAt_1 (by decide) (fun c1 => ?_) (fun c1 => ?_)
  · replace h := zif_t c1 h
    refine lv_iconst (v := (-1)) hx hb dX4_keyAt_21 (by decide) ?_
    cases h
    exact z_iret C hE hH dX4_keyAt_22
  · replace h := zif_f c1 h
    refine lv_iload_n hx hb dX4_keyAt_4 rfl (lv_at hl 1 rfl) ?_
    refine lv_aload_n hx hb dX4_keyAt_5 rfl (lv_at hl 0 rfl) ?_
    refine z_get C hE hH zX_o2 rfl zh_X2 3 (by decide) zk3_9 (fun _ h9 => h9) (v := .int (S.1 27)) rfl dX4_keyAt_6 ?_
    refine lv_icmp_ge (tgt := 21) hx hb dX4_keyAt_9 (by decide) (fun c2 => ?_) (fun c2 => ?_)
    · replace h := zif_t c2 h
      refine lv_iconst (v := (-1)) hx hb dX4_keyAt_21 (by decide) ?_
      cases h
      exact z_iret C hE hH dX4_keyAt_22
    · replace h := zif_f c2 h
      refine lv_aload_n hx hb dX4_keyAt_12 rfl (lv_at hl 0 rfl) ?_
      refine z_get C hE hH zX_o2 rfl zh_X2 0 (by decide) zk3_8 (fun _ h9 => h9) (v := .ref (q 35)) rfl dX4_keyAt_13 ?_
      refine lv_iload_n hx hb dX4_keyAt_16 rfl (lv_at hl 1 rfl) ?_
      obtain ⟨g3, h⟩ := zgd_s h
      refine z_iald C hE hH zX_a35 (t0 := 0) rfl g3 dX4_keyAt_17 ?_
      refine lv_goto (tgt := 22) hx hb dX4_keyAt_18 (by decide) ?_
      cases h
      exact z_iret C hE hH dX4_keyAt_22
set_option maxHeartbeats 4000000 in
set_option maxRecDepth 100000 in
theorem cX_X4_keyAt_Hash (l : Launch) (D : va_G) (cI cS cW : ClassId) (q : Nat → Nat) (sz : Nat) (x1 : Int32) (S : zSt) {res : Int32} (h : fX_X4_keyAt_Hash x1 S = some res) : zMi l yX4_keyAt vsX4_keyAt rmX_X4_keyAt_Hash [.ref (q 2), .int x1] D (zwX cI cS cW q) (zyX cI cS cW) znX sz S res S := by
  refine Met.ofW (cc := cX4_keyAt) (maxL := 2) (ret := (some .int)) (by decide) rfl ?_
  intro p e s m args below meth c s₁ B hml hv
  obtain ⟨rfl, rfl, hP, hK, hD0, hN⟩ := hv
  have hl := lv_entry ([.ref (q 2), .int x1]) (n := 2) (Nat.le_of_ble_eq_true rfl)
  rw [lg_entry_eq]
  generalize (lg_sl ([.ref (q 2), .int x1]) ++ List.replicate (2 - (lg_sl ([.ref (q 2), .int x1])).length) Slot.unset).toArray = ls at hl ⊢
  exact bX_X4_keyAt_Hash ⟨B.exec, B.bytes, hml, findClass_of_methodNamed B.named, fun w h => atoms_spec (ws := vsX4_keyAt) B.pre w (List.mem_cons_of_mem _ h), B.returns, B.notSynchronized⟩ ⟨hK, fun q h => Or.inr h, hN⟩ x1 S s.heap [] ls ⟨hP, hD0.self, va_S.rf⟩ hl  h
def rmX_X1_keyAt_Tree : Room := { frames := 0, cells := 0, slots := 0, locals := 0 }
set_option maxHeartbeats 4000000 in
set_option maxRecDepth 100000 in
theorem bX_X1_keyAt_Tree_4 {p : Program} {l : Launch} {e : Env} {s : State} {m : MethodId} {args : Array Value} {below : List Frame} {meth : Method} {c : Code} {D : va_G} {cI cS cW : ClassId} {q : Nat → Nat} {A : Nat → Prop} {res : Int32} (C : zCX p s m args meth c cX1_keyAt 4 (some .int) zU RX1) (hE : zE D (zyX cI cS cW) znX A s) : ∀ (n : Nat) (x1 x2 x3 : Int32) (S : zSt) (H : Heap) (locs : List Loc) (ls : Array Slot), zH D (zwX cI cS cW q) A s S H locs → lv_has ls 4 [(0, .ref (q 3)), (1, .int x1), (2, .int x2), (3, .int x3)] → fX_X1_keyAt_Tree_4  n x1 x2 x3 S = some res → W p l e rmX_X1_keyAt_Tree s m args below meth c H locs 0 0 (zQi below D (zwX cI cS cW q) (zyX cI cS cW) A args s res S) (F0 m 4 ls []) := by
  have hx := C.1
  have hb := C.2.1
  intro n
  induction n with
  | zero =>
    intro x1 x2 x3 S H locs ls hH hl  h
    cases h
  | succ n hK4 =>
    intro x1 x2 x3 S H locs ls hH hl  h
    rw [fX_X1_keyAt_Tree_4] at h
    refine lv_iload_n hx hb dX1_keyAt_4 rfl (lv_at hl 3 rfl) ?_
    refine lv_bipush (v := 64) hx hb dX1_keyAt_5 (by decide) ?_
    refine lv_icmp_ge (tgt := 36) hx hb dX1_keyAt_7 (by decide) (fun c1 => ?_) (fun c1 => ?_)
    · replace h := zif_t c1 h
      refine lv_iconst (v := (-1)) hx hb dX1_keyAt_36 (by decide) ?_
      cases h
      exact z_iret C hE hH dX1_keyAt_37
    · replace h := zif_f c1 h
      refine lv_iload_n hx hb dX1_keyAt_10 rfl (lv_at hl 2 rfl) ?_
      refine lv_aload_n hx hb dX1_keyAt_11 rfl (lv_at hl 0 rfl) ?_
      refine z_get C hE hH zX_o3 rfl zh_X9 0 (by decide) zk4_15 (fun _ h9 => h9) (v := .ref (q 38)) rfl dX1_keyAt_12 ?_
      refine lv_iload_n hx hb dX1_keyAt_15 rfl (lv_at hl 3 rfl) ?_
      obtain ⟨g2, h⟩ := zgd_s h
      refine z_iald C hE hH zX_a38 (t0 := 0) rfl g2 dX1_keyAt_16 ?_
      refine lv_iadd hx hb dX1_keyAt_17 ?_
      refine lv_istore_n (lv' := [(2, .int (x2 + (S.2 38 x3.toNatClampNeg))), (0, .ref (q 3)), (1, .int x1), (3, .int x3)]) hx hb dX1_keyAt_18 rfl hl (by decide) rfl (fun ls hl => ?_)
      refine lv_iload_n hx hb dX1_keyAt_19 rfl (lv_at hl 2 rfl) ?_
      refine lv_if_lt (tgt := 30) hx hb dX1_keyAt_20 (by decide) (fun c3 => ?_) (fun c3 => ?_)
      · replace h := zif_t c3 h
        refine lv_iinc (v := (x3 + 1)) (lv' := [(3, .int (x3 + 1)), (2, .int (x2 + (S.2 38 x3.toNatClampNeg))), (0, .ref (q 3)), (1, .int x1)]) hx hb dX1_keyAt_30 hl (k := 3) rfl rfl (by decide) rfl (fun ls hl => ?_)
        refine lv_goto (tgt := 4) hx hb dX1_keyAt_33 (by decide) ?_
        exact hK4 x1 (x2 + (S.2 38 x3.toNatClampNeg)) (x3 + 1) S H locs ls hH (lv_sub hl [2, 3, 1, 0] rfl) h
      · replace h := zif_f c3 h
        refine lv_iload_n hx hb dX1_keyAt_23 rfl (lv_at hl 2 rfl) ?_
        refine lv_iload_n hx hb dX1_keyAt_24 rfl (lv_at hl 0 rfl) ?_
        refine lv_icmp_ge (tgt := 30) hx hb dX1_keyAt_25 (by decide) (fun c4 => ?_) (fun c4 => ?_)
        · replace h := zif_t c4 h
          refine lv_iinc (v := (x3 + 1)) (lv' := [(3, .int (x3 + 1)), (2, .int (x2 + (S.2 38 x3.toNatClampNeg))), (0, .ref (q 3)), (1, .int x1)]) hx hb dX1_keyAt_30 hl (k := 3) rfl rfl (by decide) rfl (fun ls hl => ?_)
          refine lv_goto (tgt := 4) hx hb dX1_keyAt_33 (by decide) ?_
          exact hK4 x1 (x2 + (S.2 38 x3.toNatClampNeg)) (x3 + 1) S H locs ls hH (lv_sub hl [2, 3, 1, 0] rfl) h
        · replace h := zif_f c4 h
          refine lv_iload_n hx hb dX1_keyAt_28 rfl (lv_at hl 3 rfl) ?_
          cases h
          exact z_iret C hE hH dX1_keyAt_29
set_option maxHeartbeats 4000000 in
set_option maxRecDepth 100000 in
theorem bX_X1_keyAt_Tree {p : Program} {l : Launch} {e : Env} {s : State} {m : MethodId} {args : Array Value} {below : List Frame} {meth : Method} {c : Code} {D : va_G} {cI cS cW : ClassId} {q : Nat → Nat} {A : Nat → Prop} {res : Int32} (C : zCX p s m args meth c cX1_keyAt 4 (some .int) zU RX1) (hE : zE D (zyX cI cS cW) znX A s) (x1 : Int32) (S : zSt) (H : Heap) (locs : List Loc) (ls : Array Slot) (hH : zH D (zwX cI cS cW q) A s S H locs) (hl : lv_has ls 4 [(0, .ref (q 3)), (1, .int x1)]) (h : fX_X1_keyAt_Tree  x1 S = some res) : W p l e rmX_X1_keyAt_Tree s m args below meth c H locs 0 0 (zQi below D (zwX cI cS cW q) (zyX cI cS cW) A args s res S) (F0 m 0 ls []) := by
  have hx := C.1
  have hb := C.2.1
  unfold fX_X1_keyAt_Tree at h
  refine lv_iconst (v := 0) hx hb dX1_keyAt_0 (by decide) ?_
  refine lv_istore_n (lv' := [(2, .int 0), (0, .ref (q 3)), (1, .int x1)]) hx hb dX1_keyAt_1 rfl hl (by decide) rfl (fun ls hl => ?_)
  refine lv_iconst (v := 0) hx hb dX1_keyAt_2 (by decide) ?_
  refine lv_istore_n (lv' := [(3, .int 0), (2, .int 0), (0, .ref (q 3)), (1, .int x1)]) hx hb dX1_keyAt_3 rfl hl (by decide) rfl (fun ls hl => ?_)
  exact bX_X1_keyAt_Tree_4 C hE   1000 x1 0 0 S H locs ls hH (lv_sub hl [2, 3, 1, 0] rfl) h
set_option maxHeartbeats 4000000 in
set_option maxRecDepth 100000 in
theorem cX_X1_keyAt_Tree (l : Launch) (D : va_G) (cI cS cW : ClassId) (q : Nat → Nat) (sz : Nat) (x1 : Int32) (S : zSt) {res : Int32} (h : fX_X1_keyAt_Tree x1 S = some res) : zMi l yX1_keyAt vsX1_keyAt rmX_X1_keyAt_Tree [.ref (q 3), .int x1] D (zwX cI cS cW q) (zyX cI cS cW) znX sz S res S := by
  refine Met.ofW (cc := cX1_keyAt) (maxL := 4) (ret := (some .int)) (by decide) rfl ?_
  intro p e s m args below meth c s₁ B hml hv
  obtain ⟨rfl, rfl, hP, hK, hD0, hN⟩ := hv
  have hl := lv_entry ([.ref (q 3), .int x1]) (n := 4) (Nat.le_of_ble_eq_true rfl)
  rw [lg_entry_eq]
  generalize (lg_sl ([.ref (q 3), .int x1]) ++ List.replicate (4 - (lg_sl ([.ref (q 3), .int x1])).length) Slot.unset).toArray = ls at hl ⊢
  exact bX_X1_keyAt_Tree ⟨B.exec, B.bytes, hml, findClass_of_methodNamed B.named, fun w h => atoms_spec (ws := vsX1_keyAt) B.pre w (List.mem_cons_of_mem _ h), B.returns, B.notSynchronized⟩ ⟨hK, fun q h => Or.inr h, hN⟩ x1 S s.heap [] ls ⟨hP, hD0.self, va_S.rf⟩ hl  h
def rmX_X4_keyAt_Heap : Room := { frames := 0, cells := 0, slots := 0, locals := 0 }
set_option maxHeartbeats 4000000 in
set_option maxRecDepth 100000 in
theorem bX_X4_keyAt_Heap {p : Program} {l : Launch} {e : Env} {s : State} {m : MethodId} {args : Array Value} {below : List Frame} {meth : Method} {c : Code} {D : va_G} {cI cS cW : ClassId} {q : Nat → Nat} {A : Nat → Prop} {res : Int32} (C : zCX p s m args meth c cX4_keyAt 2 (some .int) zU RX4) (hE : zE D (zyX cI cS cW) znX A s) (x1 : Int32) (S : zSt) (H : Heap) (locs : List Loc) (ls : Array Slot) (hH : zH D (zwX cI cS cW q) A s S H locs) (hl : lv_has ls 2 [(0, .ref (q 4)), (1, .int x1)]) (h : fX_X4_keyAt_Heap  x1 S = some res) : W p l e rmX_X4_keyAt_Heap s m args below meth c H locs 0 0 (zQi below D (zwX cI cS cW q) (zyX cI cS cW) A args s res S) (F0 m 0 ls []) := by
  have hx := C.1
  have hb := C.2.1
  unfold fX_X4_keyAt_Heap at h
  refine lv_iload_n hx hb dX4_keyAt_0 rfl (lv_at hl 1 rfl) ?_
  refine lv_if_lt (tgt := 21) hx hb dX4_keyAt_1 (by decide) (fun c1 => ?_) (fun c1 => ?_)
  · replace h := zif_t c1 h
    refine lv_iconst (v := (-1)) hx hb dX4_keyAt_21 (by decide) ?_
    cases h
    exact z_iret C hE hH dX4_keyAt_22
  · replace h := zif_f c1 h
    refine lv_iload_n hx hb dX4_keyAt_4 rfl (lv_at hl 1 rfl) ?_
    refine lv_aload_n hx hb dX4_keyAt_5 rfl (lv_at hl 0 rfl) ?_
    refine z_get C hE hH zX_o4 rfl zh_X3 3 (by decide) zk3_9 (fun _ h9 => h9) (v := .int (S.1 30)) rfl dX4_keyAt_6 ?_
    refine lv_icmp_ge (tgt := 21) hx hb dX4_keyAt_9 (by decide) (fun c2 => ?_) (fun c2 => ?_)
    · replace h := zif_t c2 h
      refine lv_iconst (v := (-1)) hx hb dX4_keyAt_21 (by decide) ?_
      cases h
      exact z_iret C hE hH dX4_keyAt_22
    · replace h := zif_f c2 h
      refine lv_aload_n hx hb dX4_keyAt_12 rfl (lv_at hl 0 rfl) ?_
      refine z_get C hE hH zX_o4 rfl zh_X3 0 (by decide) zk3_8 (fun _ h9 => h9) (v := .ref (q 36)) rfl dX4_keyAt_13 ?_
      refine lv_iload_n hx hb dX4_keyAt_16 rfl (lv_at hl 1 rfl) ?_
      obtain ⟨g3, h⟩ := zgd_s h
      refine z_iald C hE hH zX_a36 (t0 := 0) rfl g3 dX4_keyAt_17 ?_
      refine lv_goto (tgt := 22) hx hb dX4_keyAt_18 (by decide) ?_
      cases h
      exact z_iret C hE hH dX4_keyAt_22
set_option maxHeartbeats 4000000 in
set_option maxRecDepth 100000 in
theorem cX_X4_keyAt_Heap (l : Launch) (D : va_G) (cI cS cW : ClassId) (q : Nat → Nat) (sz : Nat) (x1 : Int32) (S : zSt) {res : Int32} (h : fX_X4_keyAt_Heap x1 S = some res) : zMi l yX4_keyAt vsX4_keyAt rmX_X4_keyAt_Heap [.ref (q 4), .int x1] D (zwX cI cS cW q) (zyX cI cS cW) znX sz S res S := by
  refine Met.ofW (cc := cX4_keyAt) (maxL := 2) (ret := (some .int)) (by decide) rfl ?_
  intro p e s m args below meth c s₁ B hml hv
  obtain ⟨rfl, rfl, hP, hK, hD0, hN⟩ := hv
  have hl := lv_entry ([.ref (q 4), .int x1]) (n := 2) (Nat.le_of_ble_eq_true rfl)
  rw [lg_entry_eq]
  generalize (lg_sl ([.ref (q 4), .int x1]) ++ List.replicate (2 - (lg_sl ([.ref (q 4), .int x1])).length) Slot.unset).toArray = ls at hl ⊢
  exact bX_X4_keyAt_Heap ⟨B.exec, B.bytes, hml, findClass_of_methodNamed B.named, fun w h => atoms_spec (ws := vsX4_keyAt) B.pre w (List.mem_cons_of_mem _ h), B.returns, B.notSynchronized⟩ ⟨hK, fun q h => Or.inr h, hN⟩ x1 S s.heap [] ls ⟨hP, hD0.self, va_S.rf⟩ hl  h

def rmM_X11_doAll : Room := { frames := 4, cells := 0, slots := 0, locals := 102 }
set_option maxHeartbeats 4000000 in
set_option maxRecDepth 100000 in
theorem bM_X11_doAll_103 {p : Program} {l : Launch} {e : Env} {s : State} {m : MethodId} {args : Array Value} {below : List Frame} {meth : Method} {c : Code} {D : va_G} {cI : ClassId} {q : Nat → Nat} {A : Nat → Prop} {res : zSt} (C : zCX p s m args meth c cX11_doAll 2 none zU RX11) (hE : zE D [(cI, .int)] [] A s) : ∀ (n : Nat) (x1 : Int32) (S : zSt) (H : Heap) (locs : List Loc) (ls : Array Slot), zH D (zwM cI q) A s S H locs → lv_has ls 2 [(0, .ref (q 32)), (1, .int x1)] → fM_X11_doAll_103  n x1 S = some res → W p l e rmM_X11_doAll s m args below meth c H locs 0 0 (zQv below D (zwM cI q) [(cI, .int)] A args s res) (F0 m 103 ls []) := by
  have hx := C.1
  have hb := C.2.1
  intro n
  induction n with
  | zero =>
    intro x1 S H locs ls hH hl  h
    cases h
  | succ n hK103 =>
    intro x1 S H locs ls hH hl  h
    rw [fM_X11_doAll_103] at h
    refine lv_iload_n hx hb dX11_doAll_103 rfl (lv_at hl 1 rfl) ?_
    refine lv_aload_n hx hb dX11_doAll_104 rfl (lv_at hl 0 rfl) ?_
    refine z_get C hE hH zM_o rfl zh_X11 2 (by decide) zk17_18 (fun _ h9 => h9) (v := .int (S.1 2)) rfl dX11_doAll_105 ?_
    refine lv_icmp_ge (tgt := 122) hx hb dX11_doAll_108 (by decide) (fun c1 => ?_) (fun c1 => ?_)
    · replace h := zif_t c1 h
      cases h
      exact z_vret C hE hH dX11_doAll_122
    · replace h := zif_f c1 h
      refine lv_aload_n hx hb dX11_doAll_111 rfl (lv_at hl 0 rfl) ?_
      refine lv_iload_n hx hb dX11_doAll_112 rfl (lv_at hl 1 rfl) ?_
      obtain ⟨u2, e3, h⟩ := zbd_s h
      refine z_callv (va_runV (As := [.int x1]) (rest := []) (z_fix C) (cM_X11_step l D cI q H.size x1 S e3) (cwV 1 C.2.2.2.2.1 (zGV zk22_13 zk22_14 zk22_15 zk1_5 zk22_16) rfl rfl rfl yd_X11_step ⟨Nat.le_of_ble_eq_true rfl, Nat.le_of_ble_eq_true rfl⟩) (z_preV zNm0 hE hH zM_o rfl) rfl rfl hl.1 rfl (lv_room (Nat.le_of_ble_eq_true rfl)) dX11_doAll_113 ⟨Nat.le_refl 0, Nat.le_refl 0⟩) hE hH (fun H locs hH => ?_)
      refine lv_iinc (v := (x1 + 1)) (lv' := [(1, .int (x1 + 1)), (0, .ref (q 32))]) hx hb dX11_doAll_116 hl (k := 1) rfl rfl (by decide) rfl (fun ls hl => ?_)
      refine lv_goto (tgt := 103) hx hb dX11_doAll_119 (by decide) ?_
      exact hK103 (x1 + 1) u2 H locs ls hH (lv_sub hl [1, 0] rfl) h
set_option maxHeartbeats 4000000 in
set_option maxRecDepth 100000 in
theorem bM_X11_doAll_64 {p : Program} {l : Launch} {e : Env} {s : State} {m : MethodId} {args : Array Value} {below : List Frame} {meth : Method} {c : Code} {D : va_G} {cI : ClassId} {q : Nat → Nat} {A : Nat → Prop} {res : zSt} (C : zCX p s m args meth c cX11_doAll 2 none zU RX11) (hE : zE D [(cI, .int)] [] A s) : ∀ (n : Nat) (x1 : Int32) (S : zSt) (H : Heap) (locs : List Loc) (ls : Array Slot), zH D (zwM cI q) A s S H locs → lv_has ls 2 [(0, .ref (q 32)), (1, .int x1)] → fM_X11_doAll_64  n x1 S = some res → W p l e rmM_X11_doAll s m args below meth c H locs 0 0 (zQv below D (zwM cI q) [(cI, .int)] A args s res) (F0 m 64 ls []) := by
  have hx := C.1
  have hb := C.2.1
  intro n
  induction n with
  | zero =>
    intro x1 S H locs ls hH hl  h
    cases h
  | succ n hK64 =>
    intro x1 S H locs ls hH hl  h
    rw [fM_X11_doAll_64] at h
    refine lv_iload_n hx hb dX11_doAll_64 rfl (lv_at hl 1 rfl) ?_
    refine lv_bipush (v := 6) hx hb dX11_doAll_65 (by decide) ?_
    refine lv_icmp_ge (tgt := 101) hx hb dX11_doAll_67 (by decide) (fun c1 => ?_) (fun c1 => ?_)
    · replace h := zif_t c1 h
      refine lv_iconst (v := 0) hx hb dX11_doAll_101 (by decide) ?_
      refine lv_istore_n (lv' := [(1, .int 0), (0, .ref (q 32))]) hx hb dX11_doAll_102 rfl hl (by decide) rfl (fun ls hl => ?_)
      exact bM_X11_doAll_103 C hE   1000 0 S H locs ls hH (lv_sub hl [1, 0] rfl) h
    · replace h := zif_f c1 h
      refine lv_aload_n hx hb dX11_doAll_70 rfl (lv_at hl 0 rfl) ?_
      refine z_get C hE hH zM_o rfl zh_X11 17 (by decide) zk6_1 (fun _ h9 => h9) (v := .ref (q 17)) rfl dX11_doAll_71 ?_
      refine lv_iload_n hx hb dX11_doAll_74 rfl (lv_at hl 1 rfl) ?_
      refine lv_iconst (v := 4) hx hb dX11_doAll_75 (by decide) ?_
      obtain ⟨g2, h⟩ := zgd_s h
      refine z_iast C hE hH zM_a17 (t0 := 0) rfl g2 zM_r17 dX11_doAll_76 (fun H locs hH => ?_)
      refine lv_aload_n hx hb dX11_doAll_77 rfl (lv_at hl 0 rfl) ?_
      refine z_get C hE hH zM_o rfl zh_X11 12 (by decide) zk5_20 (fun _ h9 => h9) (v := .ref (q 12)) rfl dX11_doAll_78 ?_
      refine lv_iload_n hx hb dX11_doAll_81 rfl (lv_at hl 1 rfl) ?_
      refine lv_aload_n hx hb dX11_doAll_82 rfl (lv_at hl 0 rfl) ?_
      refine lv_iload_n hx hb dX11_doAll_83 rfl (lv_at hl 1 rfl) ?_
      obtain ⟨u3, e4, h⟩ := zbd_s h
      refine z_calli (va_runV (As := [.int x1]) (rest := [.int x1, .ref (q 12)]) (z_fix C) (cM_X11_roomOf l D cI q H.size x1 (zsR S 17 x1.toNatClampNeg 4) e4) (cwV 1 C.2.2.2.2.1 (zGV zk22_5 zk22_6 zk22_7 zk1_5 zk22_8) rfl rfl rfl yd_X11_roomOf ⟨Nat.le_of_ble_eq_true rfl, Nat.le_of_ble_eq_true rfl⟩) (z_preV zNm0 hE hH zM_o rfl) rfl rfl hl.1 rfl (lv_room (Nat.le_of_ble_eq_true rfl)) dX11_doAll_84 ⟨Nat.le_refl 0, Nat.le_refl 0⟩) hE hH (fun H locs hH => ?_)
      obtain ⟨g5, h⟩ := zgd_s h
      refine z_iast C hE hH zM_a12 (t0 := 0) rfl g5 zM_r12 dX11_doAll_87 (fun H locs hH => ?_)
      refine lv_aload_n hx hb dX11_doAll_88 rfl (lv_at hl 0 rfl) ?_
      refine z_get C hE hH zM_o rfl zh_X11 13 (by decide) zk5_21 (fun _ h9 => h9) (v := .ref (q 13)) rfl dX11_doAll_89 ?_
      refine lv_iload_n hx hb dX11_doAll_92 rfl (lv_at hl 1 rfl) ?_
      refine lv_iconst (v := 0) hx hb dX11_doAll_93 (by decide) ?_
      obtain ⟨g6, h⟩ := zgd_s h
      refine z_iast C hE hH zM_a13 (t0 := 0) rfl g6 zM_r13 dX11_doAll_94 (fun H locs hH => ?_)
      refine lv_iinc (v := (x1 + 1)) (lv' := [(1, .int (x1 + 1)), (0, .ref (q 32))]) hx hb dX11_doAll_95 hl (k := 1) rfl rfl (by decide) rfl (fun ls hl => ?_)
      refine lv_goto (tgt := 64) hx hb dX11_doAll_98 (by decide) ?_
      exact hK64 (x1 + 1) (zsR (zsR (zsR S 17 x1.toNatClampNeg 4) 12 x1.toNatClampNeg u3) 13 x1.toNatClampNeg 0) H locs ls hH (lv_sub hl [1, 0] rfl) h
set_option maxHeartbeats 4000000 in
set_option maxRecDepth 100000 in
theorem bM_X11_doAll_36 {p : Program} {l : Launch} {e : Env} {s : State} {m : MethodId} {args : Array Value} {below : List Frame} {meth : Method} {c : Code} {D : va_G} {cI : ClassId} {q : Nat → Nat} {A : Nat → Prop} {res : zSt} (C : zCX p s m args meth c cX11_doAll 2 none zU RX11) (hE : zE D [(cI, .int)] [] A s) : ∀ (n : Nat) (x1 : Int32) (S : zSt) (H : Heap) (locs : List Loc) (ls : Array Slot), zH D (zwM cI q) A s S H locs → lv_has ls 2 [(0, .ref (q 32)), (1, .int x1)] → fM_X11_doAll_36  n x1 S = some res → W p l e rmM_X11_doAll s m args below meth c H locs 0 0 (zQv below D (zwM cI q) [(cI, .int)] A args s res) (F0 m 36 ls []) := by
  have hx := C.1
  have hb := C.2.1
  intro n
  induction n with
  | zero =>
    intro x1 S H locs ls hH hl  h
    cases h
  | succ n hK36 =>
    intro x1 S H locs ls hH hl  h
    rw [fM_X11_doAll_36] at h
    refine lv_iload_n hx hb dX11_doAll_36 rfl (lv_at hl 1 rfl) ?_
    refine lv_bipush (v := 64) hx hb dX11_doAll_37 (by decide) ?_
    refine lv_icmp_ge (tgt := 62) hx hb dX11_doAll_39 (by decide) (fun c1 => ?_) (fun c1 => ?_)
    · replace h := zif_t c1 h
      refine lv_iconst (v := 0) hx hb dX11_doAll_62 (by decide) ?_
      refine lv_istore_n (lv' := [(1, .int 0), (0, .ref (q 32))]) hx hb dX11_doAll_63 rfl hl (by decide) rfl (fun ls hl => ?_)
      exact bM_X11_doAll_64 C hE   1000 0 S H locs ls hH (lv_sub hl [1, 0] rfl) h
    · replace h := zif_f c1 h
      refine lv_aload_n hx hb dX11_doAll_42 rfl (lv_at hl 0 rfl) ?_
      refine z_get C hE hH zM_o rfl zh_X11 23 (by decide) zk6_4 (fun _ h9 => h9) (v := .ref (q 23)) rfl dX11_doAll_43 ?_
      refine lv_iload_n hx hb dX11_doAll_46 rfl (lv_at hl 1 rfl) ?_
      refine lv_iconst (v := 0) hx hb dX11_doAll_47 (by decide) ?_
      obtain ⟨g2, h⟩ := zgd_s h
      refine z_iast C hE hH zM_a23 (t0 := 0) rfl g2 zM_r23 dX11_doAll_48 (fun H locs hH => ?_)
      refine lv_aload_n hx hb dX11_doAll_49 rfl (lv_at hl 0 rfl) ?_
      refine z_get C hE hH zM_o rfl zh_X11 24 (by decide) zk6_5 (fun _ h9 => h9) (v := .ref (q 24)) rfl dX11_doAll_50 ?_
      refine lv_iload_n hx hb dX11_doAll_53 rfl (lv_at hl 1 rfl) ?_
      refine lv_iconst (v := 0) hx hb dX11_doAll_54 (by decide) ?_
      obtain ⟨g3, h⟩ := zgd_s h
      refine z_iast C hE hH zM_a24 (t0 := 0) rfl g3 zM_r24 dX11_doAll_55 (fun H locs hH => ?_)
      refine lv_iinc (v := (x1 + 1)) (lv' := [(1, .int (x1 + 1)), (0, .ref (q 32))]) hx hb dX11_doAll_56 hl (k := 1) rfl rfl (by decide) rfl (fun ls hl => ?_)
      refine lv_goto (tgt := 36) hx hb dX11_doAll_59 (by decide) ?_
      exact hK36 (x1 + 1) (zsR (zsR S 23 x1.toNatClampNeg 0) 24 x1.toNatClampNeg 0) H locs ls hH (lv_sub hl [1, 0] rfl) h
set_option maxHeartbeats 4000000 in
set_option maxRecDepth 100000 in
theorem bM_X11_doAll {p : Program} {l : Launch} {e : Env} {s : State} {m : MethodId} {args : Array Value} {below : List Frame} {meth : Method} {c : Code} {D : va_G} {cI : ClassId} {q : Nat → Nat} {A : Nat → Prop} {res : zSt} (C : zCX p s m args meth c cX11_doAll 2 none zU RX11) (hE : zE D [(cI, .int)] [] A s) (S : zSt) (H : Heap) (locs : List Loc) (ls : Array Slot) (hH : zH D (zwM cI q) A s S H locs) (hl : lv_has ls 2 [(0, .ref (q 32))]) (h : fM_X11_doAll   S = some res) : W p l e rmM_X11_doAll s m args below meth c H locs 0 0 (zQv below D (zwM cI q) [(cI, .int)] A args s res) (F0 m 0 ls []) := by
  have hx := C.1
  have hb := C.2.1
  unfold fM_X11_doAll at h
  refine lv_aload_n hx hb dX11_doAll_0 rfl (lv_at hl 0 rfl) ?_
  refine z_get C hE hH zM_o rfl zh_X11 8 (by decide) zk18_2 (fun _ h9 => h9) (v := .int (S.1 8)) rfl dX11_doAll_1 ?_
  refine lv_if_eq (tgt := 8) hx hb dX11_doAll_4 (by decide) (fun c1 => ?_) (fun c1 => ?_)
  · replace h := zif_t c1 h
    refine lv_aload_n hx hb dX11_doAll_8 rfl (lv_at hl 0 rfl) ?_
    refine lv_iconst (v := 1) hx hb dX11_doAll_9 (by decide) ?_
    refine z_put C hE hH zM_o rfl zh_X11 tyX11_ok nmX11 8 (by decide) zk18_2 (fun _ h9 => h9) rfl (ty := .boolean) rfl rfl rfl (Nat.le_of_ble_eq_true rfl) zM_i8 dX11_doAll_10 (fun H locs hH => ?_)
    refine lv_aload_n hx hb dX11_doAll_13 rfl (lv_at hl 0 rfl) ?_
    refine lv_iconst (v := 0) hx hb dX11_doAll_14 (by decide) ?_
    refine z_put C hE hH zM_o rfl zh_X11 tyX11_ok nmX11 18 (by decide) zk22_1 (fun _ h9 => h9) rfl (ty := .int) rfl rfl rfl (Nat.le_of_ble_eq_true rfl) zM_i18 dX11_doAll_15 (fun H locs hH => ?_)
    refine lv_aload_n hx hb dX11_doAll_18 rfl (lv_at hl 0 rfl) ?_
    refine lv_bipush (v := 8) hx hb dX11_doAll_19 (by decide) ?_
    refine z_put C hE hH zM_o rfl zh_X11 tyX11_ok nmX11 21 (by decide) zk22_2 (fun _ h9 => h9) rfl (ty := .int) rfl rfl rfl (Nat.le_of_ble_eq_true rfl) zM_i21 dX11_doAll_21 (fun H locs hH => ?_)
    refine lv_aload_n hx hb dX11_doAll_24 rfl (lv_at hl 0 rfl) ?_
    refine lv_iconst (v := 0) hx hb dX11_doAll_25 (by decide) ?_
    refine z_put C hE hH zM_o rfl zh_X11 tyX11_ok nmX11 22 (by decide) zk22_3 (fun _ h9 => h9) rfl (ty := .int) rfl rfl rfl (Nat.le_of_ble_eq_true rfl) zM_i22 dX11_doAll_26 (fun H locs hH => ?_)
    refine lv_aload_n hx hb dX11_doAll_29 rfl (lv_at hl 0 rfl) ?_
    refine lv_iconst (v := 0) hx hb dX11_doAll_30 (by decide) ?_
    refine z_put C hE hH zM_o rfl zh_X11 tyX11_ok nmX11 25 (by decide) zk22_4 (fun _ h9 => h9) rfl (ty := .int) rfl rfl rfl (Nat.le_of_ble_eq_true rfl) zM_i25 dX11_doAll_31 (fun H locs hH => ?_)
    refine lv_iconst (v := 0) hx hb dX11_doAll_34 (by decide) ?_
    refine lv_istore_n (lv' := [(1, .int 0), (0, .ref (q 32))]) hx hb dX11_doAll_35 rfl hl (by decide) rfl (fun ls hl => ?_)
    exact bM_X11_doAll_36 C hE   1000 0 (zsI (zsI (zsI (zsI (zsI S 8 1) 18 0) 21 8) 22 0) 25 0) H locs ls hH (lv_sub hl [1, 0] rfl) h
  · replace h := zif_f c1 h
    cases h
    exact z_vret C hE hH dX11_doAll_7
set_option maxHeartbeats 4000000 in
set_option maxRecDepth 100000 in
theorem cM_X11_doAll (l : Launch) (D : va_G) (cI : ClassId) (q : Nat → Nat) (sz : Nat) (S : zSt) {res : zSt} (h : fM_X11_doAll  S = some res) : zMv l yX11_doAll vsX11_doAll rmM_X11_doAll [.ref (q 32)] D (zwM cI q) [(cI, .int)] [] sz S res := by
  refine Met.ofW (cc := cX11_doAll) (maxL := 2) (ret := none) (by decide) rfl ?_
  intro p e s m args below meth c s₁ B hml hv
  obtain ⟨rfl, rfl, hP, hK, hD0, hN⟩ := hv
  have hl := lv_entry ([.ref (q 32)]) (n := 2) (Nat.le_of_ble_eq_true rfl)
  rw [lg_entry_eq]
  generalize (lg_sl ([.ref (q 32)]) ++ List.replicate (2 - (lg_sl ([.ref (q 32)])).length) Slot.unset).toArray = ls at hl ⊢
  exact bM_X11_doAll ⟨B.exec, B.bytes, hml, findClass_of_methodNamed B.named, fun w h => atoms_spec (ws := vsX11_doAll) B.pre w (List.mem_cons_of_mem _ h), B.returns, B.notSynchronized⟩ ⟨hK, fun q h => Or.inr h, hN⟩  S s.heap [] ls ⟨hP, hD0.self, va_S.rf⟩ hl  h
def rmM_X11_isCall : Room := { frames := 1, cells := 0, slots := 0, locals := 22 }
set_option maxHeartbeats 4000000 in
set_option maxRecDepth 100000 in
theorem bM_X11_isCall {p : Program} {l : Launch} {e : Env} {s : State} {m : MethodId} {args : Array Value} {below : List Frame} {meth : Method} {c : Code} {D : va_G} {cI : ClassId} {q : Nat → Nat} {A : Nat → Prop} {res : Int32} (C : zCX p s m args meth c cX11_isCall 2 (some .boolean) zU RX11) (hE : zE D [(cI, .int)] [] A s) (x1 : Int32) (S : zSt) (H : Heap) (locs : List Loc) (ls : Array Slot) (hH : zH D (zwM cI q) A s S H locs) (hl : lv_has ls 2 [(0, .ref (q 32)), (1, .int x1)]) (h : fM_X11_isCall  x1 S = some res) : W p l e rmM_X11_isCall s m args below meth c H locs 0 0 (zQi below D (zwM cI q) [(cI, .int)] A args s res S) (F0 m 0 ls []) := by
  have hx := C.1
  have hb := C.2.1
  unfold fM_X11_isCall at h
  refine lv_iload_n hx hb dX11_isCall_0 rfl (lv_at hl 1 rfl) ?_
  refine lv_iconst (v := 0) hx hb dX11_isCall_1 (by decide) ?_
  refine lv_aload_n hx hb dX11_isCall_2 rfl (lv_at hl 0 rfl) ?_
  refine z_get C hE hH zM_o rfl zh_X11 2 (by decide) zk17_18 (fun _ h9 => h9) (v := .int (S.1 2)) rfl dX11_isCall_3 ?_
  refine lv_iconst (v := 1) hx hb dX11_isCall_6 (by decide) ?_
  refine lv_isub hx hb dX11_isCall_7 ?_
  obtain ⟨u1, e2, h⟩ := zbd_s h
  refine z_calli (va_runS (As := [.int x1, .int 0, .int ((S.1 2) - 1)]) (rest := []) (z_fix C) (cM_X11_in l D cI q H.size x1 0 ((S.1 2) - 1) S e2) (va_cwS 3 C.2.2.2.2.1 (zGS zk17_19 zk17_20 zk1_5 zk17_21) rfl rfl rfl yd_X11_in ⟨Nat.le_of_ble_eq_true rfl, Nat.le_of_ble_eq_true rfl⟩) (z_preS zNm0 hE hH) rfl rfl hl.1 rfl (lv_room (Nat.le_of_ble_eq_true rfl)) dX11_isCall_8 ⟨Nat.le_refl 0, Nat.le_refl 0⟩) hE hH (fun H locs hH => ?_)
  obtain ⟨g3, h⟩ := zgd_s h
  cases h
  exact z_zret C hE hH (zbo_n g3) dX11_isCall_11
set_option maxHeartbeats 4000000 in
set_option maxRecDepth 100000 in
theorem cM_X11_isCall (l : Launch) (D : va_G) (cI : ClassId) (q : Nat → Nat) (sz : Nat) (x1 : Int32) (S : zSt) {res : Int32} (h : fM_X11_isCall x1 S = some res) : zMi l yX11_isCall vsX11_isCall rmM_X11_isCall [.ref (q 32), .int x1] D (zwM cI q) [(cI, .int)] [] sz S res S := by
  refine Met.ofW (cc := cX11_isCall) (maxL := 2) (ret := (some .boolean)) (by decide) rfl ?_
  intro p e s m args below meth c s₁ B hml hv
  obtain ⟨rfl, rfl, hP, hK, hD0, hN⟩ := hv
  have hl := lv_entry ([.ref (q 32), .int x1]) (n := 2) (Nat.le_of_ble_eq_true rfl)
  rw [lg_entry_eq]
  generalize (lg_sl ([.ref (q 32), .int x1]) ++ List.replicate (2 - (lg_sl ([.ref (q 32), .int x1])).length) Slot.unset).toArray = ls at hl ⊢
  exact bM_X11_isCall ⟨B.exec, B.bytes, hml, findClass_of_methodNamed B.named, fun w h => atoms_spec (ws := vsX11_isCall) B.pre w (List.mem_cons_of_mem _ h), B.returns, B.notSynchronized⟩ ⟨hK, fun q h => Or.inr h, hN⟩ x1 S s.heap [] ls ⟨hP, hD0.self, va_S.rf⟩ hl  h
def rmM_X11_isShelf : Room := { frames := 1, cells := 0, slots := 0, locals := 22 }
set_option maxHeartbeats 4000000 in
set_option maxRecDepth 100000 in
theorem bM_X11_isShelf {p : Program} {l : Launch} {e : Env} {s : State} {m : MethodId} {args : Array Value} {below : List Frame} {meth : Method} {c : Code} {D : va_G} {cI : ClassId} {q : Nat → Nat} {A : Nat → Prop} {res : Int32} (C : zCX p s m args meth c cX11_isShelf 1 (some .boolean) zU RX11) (hE : zE D [(cI, .int)] [] A s) (x0 : Int32) (S : zSt) (H : Heap) (locs : List Loc) (ls : Array Slot) (hH : zH D (zwM cI q) A s S H locs) (hl : lv_has ls 1 [(0, .int x0)]) (h : fM_X11_isShelf  x0 S = some res) : W p l e rmM_X11_isShelf s m args below meth c H locs 0 0 (zQi below D (zwM cI q) [(cI, .int)] A args s res S) (F0 m 0 ls []) := by
  have hx := C.1
  have hb := C.2.1
  unfold fM_X11_isShelf at h
  refine lv_iload_n hx hb dX11_isShelf_0 rfl (lv_at hl 0 rfl) ?_
  refine lv_iconst (v := 0) hx hb dX11_isShelf_1 (by decide) ?_
  refine lv_iconst (v := 5) hx hb dX11_isShelf_2 (by decide) ?_
  obtain ⟨u1, e2, h⟩ := zbd_s h
  refine z_calli (va_runS (As := [.int x0, .int 0, .int 5]) (rest := []) (z_fix C) (cM_X11_in l D cI q H.size x0 0 5 S e2) (va_cwS 3 C.2.2.2.2.1 (zGS zk17_19 zk17_20 zk1_5 zk17_21) rfl rfl rfl yd_X11_in ⟨Nat.le_of_ble_eq_true rfl, Nat.le_of_ble_eq_true rfl⟩) (z_preS zNm0 hE hH) rfl rfl hl.1 rfl (lv_room (Nat.le_of_ble_eq_true rfl)) dX11_isShelf_3 ⟨Nat.le_refl 0, Nat.le_refl 0⟩) hE hH (fun H locs hH => ?_)
  obtain ⟨g3, h⟩ := zgd_s h
  cases h
  exact z_zret C hE hH (zbo_n g3) dX11_isShelf_6
set_option maxHeartbeats 4000000 in
set_option maxRecDepth 100000 in
theorem cM_X11_isShelf (l : Launch) (D : va_G) (cI : ClassId) (q : Nat → Nat) (sz : Nat) (x0 : Int32) (S : zSt) {res : Int32} (h : fM_X11_isShelf x0 S = some res) : zMi l yX11_isShelf vsX11_isShelf rmM_X11_isShelf [.int x0] D (zwM cI q) [(cI, .int)] [] sz S res S := by
  refine Met.ofW (cc := cX11_isShelf) (maxL := 1) (ret := (some .boolean)) (by decide) rfl ?_
  intro p e s m args below meth c s₁ B hml hv
  obtain ⟨rfl, rfl, hP, hK, hD0, hN⟩ := hv
  have hl := lv_entry ([.int x0]) (n := 1) (Nat.le_of_ble_eq_true rfl)
  rw [lg_entry_eq]
  generalize (lg_sl ([.int x0]) ++ List.replicate (1 - (lg_sl ([.int x0])).length) Slot.unset).toArray = ls at hl ⊢
  exact bM_X11_isShelf ⟨B.exec, B.bytes, hml, findClass_of_methodNamed B.named, fun w h => atoms_spec (ws := vsX11_isShelf) B.pre w (List.mem_cons_of_mem _ h), B.returns, B.notSynchronized⟩ ⟨hK, fun q h => Or.inr h, hN⟩ x0 S s.heap [] ls ⟨hP, hD0.self, va_S.rf⟩ hl  h
def rmM_X11_told : Room := { frames := 5, cells := 0, slots := 0, locals := 123 }
set_option maxHeartbeats 4000000 in
set_option maxRecDepth 100000 in
theorem bM_X11_told {p : Program} {l : Launch} {e : Env} {s : State} {m : MethodId} {args : Array Value} {below : List Frame} {meth : Method} {c : Code} {D : va_G} {cI : ClassId} {q : Nat → Nat} {A : Nat → Prop} {res : Int32 × zSt} (C : zCX p s m args meth c cX11_told 3 (some .int) zU RX11) (hE : zE D [(cI, .int)] [] A s) (x1 x2 : Int32) (S : zSt) (H : Heap) (locs : List Loc) (ls : Array Slot) (hH : zH D (zwM cI q) A s S H locs) (hl : lv_has ls 3 [(0, .ref (q 32)), (1, .int x1), (2, .int x2)]) (h : fM_X11_told  x1 x2 S = some res) : W p l e rmM_X11_told s m args below meth c H locs 0 0 (zQi below D (zwM cI q) [(cI, .int)] A args s res.1 res.2) (F0 m 0 ls []) := by
  have hx := C.1
  have hb := C.2.1
  unfold fM_X11_told at h
  refine lv_aload_n hx hb dX11_told_0 rfl (lv_at hl 0 rfl) ?_
  refine lv_iconst (v := 0) hx hb dX11_told_1 (by decide) ?_
  refine z_put C hE hH zM_o rfl zh_X11 tyX11_ok nmX11 7 (by decide) zk17_17 (fun _ h9 => h9) rfl (ty := .int) rfl rfl rfl (Nat.le_of_ble_eq_true rfl) zM_i7 dX11_told_2 (fun H locs hH => ?_)
  refine lv_aload_n hx hb dX11_told_5 rfl (lv_at hl 0 rfl) ?_
  refine lv_iload_n hx hb dX11_told_6 rfl (lv_at hl 1 rfl) ?_
  obtain ⟨u1, e2, h⟩ := zbd_s h
  refine z_calli (va_runV (As := [.int x1]) (rest := []) (z_fix C) (cM_X11_isCall l D cI q H.size x1 (zsI S 7 0) e2) (cwV 1 C.2.2.2.2.1 (zGV zk21_17 zk21_18 zk21_19 zk1_5 zk21_20) rfl rfl rfl yd_X11_isCall ⟨Nat.le_of_ble_eq_true rfl, Nat.le_of_ble_eq_true rfl⟩) (z_preV zNm0 hE hH zM_o rfl) rfl rfl hl.1 rfl (lv_room (Nat.le_of_ble_eq_true rfl)) dX11_told_7 ⟨Nat.le_refl 0, Nat.le_refl 0⟩) hE hH (fun H locs hH => ?_)
  refine lv_if_eq (tgt := 22) hx hb dX11_told_10 (by decide) (fun c3 => ?_) (fun c3 => ?_)
  · replace h := zif_t c3 h
    refine lv_iconst (v := (-1)) hx hb dX11_told_22 (by decide) ?_
    cases h
    exact z_iret C hE hH dX11_told_23
  · replace h := zif_f c3 h
    refine lv_iload_n hx hb dX11_told_13 rfl (lv_at hl 2 rfl) ?_
    refine lv_iconst (v := 0) hx hb dX11_told_14 (by decide) ?_
    refine lv_iconst (v := 2) hx hb dX11_told_15 (by decide) ?_
    obtain ⟨u4, e5, h⟩ := zbd_s h
    refine z_calli (va_runS (As := [.int x2, .int 0, .int 2]) (rest := []) (z_fix C) (cM_X11_in l D cI q H.size x2 0 2 (zsI S 7 0) e5) (va_cwS 3 C.2.2.2.2.1 (zGS zk17_19 zk17_20 zk1_5 zk17_21) rfl rfl rfl yd_X11_in ⟨Nat.le_of_ble_eq_true rfl, Nat.le_of_ble_eq_true rfl⟩) (z_preS zNm0 hE hH) rfl rfl hl.1 rfl (lv_room (Nat.le_of_ble_eq_true rfl)) dX11_told_16 ⟨Nat.le_refl 0, Nat.le_refl 0⟩) hE hH (fun H locs hH => ?_)
    refine lv_if_ne (tgt := 24) hx hb dX11_told_19 (by decide) (fun c6 => ?_) (fun c6 => ?_)
    · replace h := zif_f c6 h
      refine lv_aload_n hx hb dX11_told_24 rfl (lv_at hl 0 rfl) ?_
      obtain ⟨u7, e8, h⟩ := zbd_s h
      refine z_callv (va_runV (As := []) (rest := []) (z_fix C) (cM_X11_doAll l D cI q H.size  (zsI S 7 0) e8) (cwV 0 C.2.2.2.2.1 (zGV zk21_21 zk21_22 zk21_23 zk1_5 zk22_0) rfl rfl rfl yd_X11_doAll ⟨Nat.le_of_ble_eq_true rfl, Nat.le_of_ble_eq_true rfl⟩) (z_preV zNm0 hE hH zM_o rfl) rfl rfl hl.1 rfl (lv_room (Nat.le_of_ble_eq_true rfl)) dX11_told_25 ⟨Nat.le_refl 0, Nat.le_refl 0⟩) hE hH (fun H locs hH => ?_)
      refine lv_iload_n hx hb dX11_told_28 rfl (lv_at hl 2 rfl) ?_
      refine lv_if_ne (tgt := 41) hx hb dX11_told_29 (by decide) (fun c9 => ?_) (fun c9 => ?_)
      · replace h := zif_f c9 h
        refine lv_iload_n hx hb dX11_told_41 rfl (lv_at hl 2 rfl) ?_
        refine lv_iconst (v := 1) hx hb dX11_told_42 (by decide) ?_
        refine lv_icmp_ne (tgt := 55) hx hb dX11_told_43 (by decide) (fun c10 => ?_) (fun c10 => ?_)
        · replace h := zif_f c10 h
          refine lv_aload_n hx hb dX11_told_55 rfl (lv_at hl 0 rfl) ?_
          refine z_get C hE hH zM_o rfl zh_X11 10 (by decide) zk5_18 (fun _ h9 => h9) (v := .ref (q 10)) rfl dX11_told_56 ?_
          refine lv_iload_n hx hb dX11_told_59 rfl (lv_at hl 1 rfl) ?_
          obtain ⟨g11, h⟩ := zgd_s h
          refine z_iald C hE hH zM_a10 (t0 := 0) rfl g11 dX11_told_60 ?_
          cases h
          exact z_iret C hE hH dX11_told_61
        · replace h := zif_t c10 h
          refine lv_aload_n hx hb dX11_told_46 rfl (lv_at hl 0 rfl) ?_
          refine z_get C hE hH zM_o rfl zh_X11 1 (by decide) zk5_14 (fun _ h9 => h9) (v := .ref (q 1)) rfl dX11_told_47 ?_
          refine lv_iload_n hx hb dX11_told_50 rfl (lv_at hl 1 rfl) ?_
          obtain ⟨g12, h⟩ := zgd_s h
          refine z_iald C hE hH zM_a1 (t0 := 0) rfl g12 dX11_told_51 ?_
          refine lv_goto (tgt := 61) hx hb dX11_told_52 (by decide) ?_
          cases h
          exact z_iret C hE hH dX11_told_61
      · replace h := zif_t c9 h
        refine lv_aload_n hx hb dX11_told_32 rfl (lv_at hl 0 rfl) ?_
        refine z_get C hE hH zM_o rfl zh_X11 0 (by decide) zk5_13 (fun _ h9 => h9) (v := .ref (q 0)) rfl dX11_told_33 ?_
        refine lv_iload_n hx hb dX11_told_36 rfl (lv_at hl 1 rfl) ?_
        obtain ⟨g13, h⟩ := zgd_s h
        refine z_iald C hE hH zM_a0 (t0 := 0) rfl g13 dX11_told_37 ?_
        refine lv_goto (tgt := 61) hx hb dX11_told_38 (by decide) ?_
        cases h
        exact z_iret C hE hH dX11_told_61
    · replace h := zif_t c6 h
      refine lv_iconst (v := (-1)) hx hb dX11_told_22 (by decide) ?_
      cases h
      exact z_iret C hE hH dX11_told_23
set_option maxHeartbeats 4000000 in
set_option maxRecDepth 100000 in
theorem cM_X11_told (l : Launch) (D : va_G) (cI : ClassId) (q : Nat → Nat) (sz : Nat) (x1 : Int32) (x2 : Int32) (S : zSt) {res : Int32 × zSt} (h : fM_X11_told x1 x2 S = some res) : zMi l yX11_told vsX11_told rmM_X11_told [.ref (q 32), .int x1, .int x2] D (zwM cI q) [(cI, .int)] [] sz S res.1 res.2 := by
  refine Met.ofW (cc := cX11_told) (maxL := 3) (ret := (some .int)) (by decide) rfl ?_
  intro p e s m args below meth c s₁ B hml hv
  obtain ⟨rfl, rfl, hP, hK, hD0, hN⟩ := hv
  have hl := lv_entry ([.ref (q 32), .int x1, .int x2]) (n := 3) (Nat.le_of_ble_eq_true rfl)
  rw [lg_entry_eq]
  generalize (lg_sl ([.ref (q 32), .int x1, .int x2]) ++ List.replicate (3 - (lg_sl ([.ref (q 32), .int x1, .int x2])).length) Slot.unset).toArray = ls at hl ⊢
  exact bM_X11_told ⟨B.exec, B.bytes, hml, findClass_of_methodNamed B.named, fun w h => atoms_spec (ws := vsX11_told) B.pre w (List.mem_cons_of_mem _ h), B.returns, B.notSynchronized⟩ ⟨hK, fun q h => Or.inr h, hN⟩ x1 x2 S s.heap [] ls ⟨hP, hD0.self, va_S.rf⟩ hl  h
def rmM_X11_answer : Room := { frames := 5, cells := 0, slots := 0, locals := 123 }
set_option maxHeartbeats 4000000 in
set_option maxRecDepth 100000 in
theorem bM_X11_answer {p : Program} {l : Launch} {e : Env} {s : State} {m : MethodId} {args : Array Value} {below : List Frame} {meth : Method} {c : Code} {D : va_G} {cI : ClassId} {q : Nat → Nat} {A : Nat → Prop} {res : Int32 × zSt} (C : zCX p s m args meth c cX11_answer 2 (some .int) zU RX11) (hE : zE D [(cI, .int)] [] A s) (x1 : Int32) (S : zSt) (H : Heap) (locs : List Loc) (ls : Array Slot) (hH : zH D (zwM cI q) A s S H locs) (hl : lv_has ls 2 [(0, .ref (q 32)), (1, .int x1)]) (h : fM_X11_answer  x1 S = some res) : W p l e rmM_X11_answer s m args below meth c H locs 0 0 (zQi below D (zwM cI q) [(cI, .int)] A args s res.1 res.2) (F0 m 0 ls []) := by
  have hx := C.1
  have hb := C.2.1
  unfold fM_X11_answer at h
  refine lv_aload_n hx hb dX11_answer_0 rfl (lv_at hl 0 rfl) ?_
  refine lv_iconst (v := 0) hx hb dX11_answer_1 (by decide) ?_
  refine z_put C hE hH zM_o rfl zh_X11 tyX11_ok nmX11 7 (by decide) zk17_17 (fun _ h9 => h9) rfl (ty := .int) rfl rfl rfl (Nat.le_of_ble_eq_true rfl) zM_i7 dX11_answer_2 (fun H locs hH => ?_)
  refine lv_aload_n hx hb dX11_answer_5 rfl (lv_at hl 0 rfl) ?_
  refine lv_iload_n hx hb dX11_answer_6 rfl (lv_at hl 1 rfl) ?_
  obtain ⟨u1, e2, h⟩ := zbd_s h
  refine z_calli (va_runV (As := [.int x1]) (rest := []) (z_fix C) (cM_X11_isCall l D cI q H.size x1 (zsI S 7 0) e2) (cwV 1 C.2.2.2.2.1 (zGV zk21_17 zk21_18 zk21_19 zk1_5 zk21_20) rfl rfl rfl yd_X11_isCall ⟨Nat.le_of_ble_eq_true rfl, Nat.le_of_ble_eq_true rfl⟩) (z_preV zNm0 hE hH zM_o rfl) rfl rfl hl.1 rfl (lv_room (Nat.le_of_ble_eq_true rfl)) dX11_answer_7 ⟨Nat.le_refl 0, Nat.le_refl 0⟩) hE hH (fun H locs hH => ?_)
  refine lv_if_ne (tgt := 20) hx hb dX11_answer_10 (by decide) (fun c3 => ?_) (fun c3 => ?_)
  · replace h := zif_f c3 h
    refine lv_aload_n hx hb dX11_answer_20 rfl (lv_at hl 0 rfl) ?_
    obtain ⟨u4, e5, h⟩ := zbd_s h
    refine z_callv (va_runV (As := []) (rest := []) (z_fix C) (cM_X11_doAll l D cI q H.size  (zsI S 7 0) e5) (cwV 0 C.2.2.2.2.1 (zGV zk21_21 zk21_22 zk21_23 zk1_5 zk22_0) rfl rfl rfl yd_X11_doAll ⟨Nat.le_of_ble_eq_true rfl, Nat.le_of_ble_eq_true rfl⟩) (z_preV zNm0 hE hH zM_o rfl) rfl rfl hl.1 rfl (lv_room (Nat.le_of_ble_eq_true rfl)) dX11_answer_21 ⟨Nat.le_refl 0, Nat.le_refl 0⟩) hE hH (fun H locs hH => ?_)
    refine lv_aload_n hx hb dX11_answer_24 rfl (lv_at hl 0 rfl) ?_
    refine z_get C hE hH zM_o rfl zh_X11 9 (by decide) zk5_17 (fun _ h9 => h9) (v := .ref (q 9)) rfl dX11_answer_25 ?_
    refine lv_iload_n hx hb dX11_answer_28 rfl (lv_at hl 1 rfl) ?_
    obtain ⟨g6, h⟩ := zgd_s h
    refine z_iald C hE hH zM_a9 (t0 := 0) rfl g6 dX11_answer_29 ?_
    cases h
    exact z_iret C hE hH dX11_answer_30
  · replace h := zif_t c3 h
    refine lv_aload_n hx hb dX11_answer_13 rfl (lv_at hl 0 rfl) ?_
    refine lv_iconst (v := 1) hx hb dX11_answer_14 (by decide) ?_
    refine z_put C hE hH zM_o rfl zh_X11 tyX11_ok nmX11 7 (by decide) zk17_17 (fun _ h9 => h9) rfl (ty := .int) rfl rfl rfl (Nat.le_of_ble_eq_true rfl) zM_i7 dX11_answer_15 (fun H locs hH => ?_)
    refine lv_iconst (v := 0) hx hb dX11_answer_18 (by decide) ?_
    cases h
    exact z_iret C hE hH dX11_answer_19
set_option maxHeartbeats 4000000 in
set_option maxRecDepth 100000 in
theorem cM_X11_answer (l : Launch) (D : va_G) (cI : ClassId) (q : Nat → Nat) (sz : Nat) (x1 : Int32) (S : zSt) {res : Int32 × zSt} (h : fM_X11_answer x1 S = some res) : zMi l yX11_answer vsX11_answer rmM_X11_answer [.ref (q 32), .int x1] D (zwM cI q) [(cI, .int)] [] sz S res.1 res.2 := by
  refine Met.ofW (cc := cX11_answer) (maxL := 2) (ret := (some .int)) (by decide) rfl ?_
  intro p e s m args below meth c s₁ B hml hv
  obtain ⟨rfl, rfl, hP, hK, hD0, hN⟩ := hv
  have hl := lv_entry ([.ref (q 32), .int x1]) (n := 2) (Nat.le_of_ble_eq_true rfl)
  rw [lg_entry_eq]
  generalize (lg_sl ([.ref (q 32), .int x1]) ++ List.replicate (2 - (lg_sl ([.ref (q 32), .int x1])).length) Slot.unset).toArray = ls at hl ⊢
  exact bM_X11_answer ⟨B.exec, B.bytes, hml, findClass_of_methodNamed B.named, fun w h => atoms_spec (ws := vsX11_answer) B.pre w (List.mem_cons_of_mem _ h), B.returns, B.notSynchronized⟩ ⟨hK, fun q h => Or.inr h, hN⟩ x1 S s.heap [] ls ⟨hP, hD0.self, va_S.rf⟩ hl  h
def rmM_X11_cost : Room := { frames := 5, cells := 0, slots := 0, locals := 123 }
set_option maxHeartbeats 4000000 in
set_option maxRecDepth 100000 in
theorem bM_X11_cost {p : Program} {l : Launch} {e : Env} {s : State} {m : MethodId} {args : Array Value} {below : List Frame} {meth : Method} {c : Code} {D : va_G} {cI : ClassId} {q : Nat → Nat} {A : Nat → Prop} {res : Int32 × zSt} (C : zCX p s m args meth c cX11_cost 3 (some .int) zU RX11) (hE : zE D [(cI, .int)] [] A s) (x1 x2 : Int32) (S : zSt) (H : Heap) (locs : List Loc) (ls : Array Slot) (hH : zH D (zwM cI q) A s S H locs) (hl : lv_has ls 3 [(0, .ref (q 32)), (1, .int x1), (2, .int x2)]) (h : fM_X11_cost  x1 x2 S = some res) : W p l e rmM_X11_cost s m args below meth c H locs 0 0 (zQi below D (zwM cI q) [(cI, .int)] A args s res.1 res.2) (F0 m 0 ls []) := by
  have hx := C.1
  have hb := C.2.1
  unfold fM_X11_cost at h
  refine lv_aload_n hx hb dX11_cost_0 rfl (lv_at hl 0 rfl) ?_
  refine lv_iconst (v := 0) hx hb dX11_cost_1 (by decide) ?_
  refine z_put C hE hH zM_o rfl zh_X11 tyX11_ok nmX11 7 (by decide) zk17_17 (fun _ h9 => h9) rfl (ty := .int) rfl rfl rfl (Nat.le_of_ble_eq_true rfl) zM_i7 dX11_cost_2 (fun H locs hH => ?_)
  refine lv_iload_n hx hb dX11_cost_5 rfl (lv_at hl 1 rfl) ?_
  obtain ⟨u1, e2, h⟩ := zbd_s h
  refine z_calli (va_runS (As := [.int x1]) (rest := []) (z_fix C) (cM_X11_isShelf l D cI q H.size x1 (zsI S 7 0) e2) (va_cwS 1 C.2.2.2.2.1 (zGS zk27_17 zk27_18 zk1_5 zk27_19) rfl rfl rfl yd_X11_isShelf ⟨Nat.le_of_ble_eq_true rfl, Nat.le_of_ble_eq_true rfl⟩) (z_preS zNm0 hE hH) rfl rfl hl.1 rfl (lv_room (Nat.le_of_ble_eq_true rfl)) dX11_cost_6 ⟨Nat.le_refl 0, Nat.le_refl 0⟩) hE hH (fun H locs hH => ?_)
  refine lv_if_eq (tgt := 20) hx hb dX11_cost_9 (by decide) (fun c3 => ?_) (fun c3 => ?_)
  · replace h := zif_t c3 h
    refine lv_iconst (v := (-1)) hx hb dX11_cost_20 (by decide) ?_
    cases h
    exact z_iret C hE hH dX11_cost_21
  · replace h := zif_f c3 h
    refine lv_aload_n hx hb dX11_cost_12 rfl (lv_at hl 0 rfl) ?_
    refine lv_iload_n hx hb dX11_cost_13 rfl (lv_at hl 2 rfl) ?_
    obtain ⟨u4, e5, h⟩ := zbd_s h
    refine z_calli (va_runV (As := [.int x2]) (rest := []) (z_fix C) (cM_X11_isCall l D cI q H.size x2 (zsI S 7 0) e5) (cwV 1 C.2.2.2.2.1 (zGV zk21_17 zk21_18 zk21_19 zk1_5 zk21_20) rfl rfl rfl yd_X11_isCall ⟨Nat.le_of_ble_eq_true rfl, Nat.le_of_ble_eq_true rfl⟩) (z_preV zNm0 hE hH zM_o rfl) rfl rfl hl.1 rfl (lv_room (Nat.le_of_ble_eq_true rfl)) dX11_cost_14 ⟨Nat.le_refl 0, Nat.le_refl 0⟩) hE hH (fun H locs hH => ?_)
    refine lv_if_ne (tgt := 22) hx hb dX11_cost_17 (by decide) (fun c6 => ?_) (fun c6 => ?_)
    · replace h := zif_f c6 h
      refine lv_aload_n hx hb dX11_cost_22 rfl (lv_at hl 0 rfl) ?_
      obtain ⟨u7, e8, h⟩ := zbd_s h
      refine z_callv (va_runV (As := []) (rest := []) (z_fix C) (cM_X11_doAll l D cI q H.size  (zsI S 7 0) e8) (cwV 0 C.2.2.2.2.1 (zGV zk21_21 zk21_22 zk21_23 zk1_5 zk22_0) rfl rfl rfl yd_X11_doAll ⟨Nat.le_of_ble_eq_true rfl, Nat.le_of_ble_eq_true rfl⟩) (z_preV zNm0 hE hH zM_o rfl) rfl rfl hl.1 rfl (lv_room (Nat.le_of_ble_eq_true rfl)) dX11_cost_23 ⟨Nat.le_refl 0, Nat.le_refl 0⟩) hE hH (fun H locs hH => ?_)
      refine lv_aload_n hx hb dX11_cost_26 rfl (lv_at hl 0 rfl) ?_
      refine z_get C hE hH zM_o rfl zh_X11 11 (by decide) zk5_19 (fun _ h9 => h9) (v := .ref (q 11)) rfl dX11_cost_27 ?_
      refine lv_bipush (v := 6) hx hb dX11_cost_30 (by decide) ?_
      refine lv_iload_n hx hb dX11_cost_32 rfl (lv_at hl 2 rfl) ?_
      refine lv_imul hx hb dX11_cost_33 ?_
      refine lv_iload_n hx hb dX11_cost_34 rfl (lv_at hl 1 rfl) ?_
      refine lv_iadd hx hb dX11_cost_35 ?_
      obtain ⟨g9, h⟩ := zgd_s h
      refine z_iald C hE hH zM_a11 (t0 := 0) rfl g9 dX11_cost_36 ?_
      cases h
      exact z_iret C hE hH dX11_cost_37
    · replace h := zif_t c6 h
      refine lv_iconst (v := (-1)) hx hb dX11_cost_20 (by decide) ?_
      cases h
      exact z_iret C hE hH dX11_cost_21
set_option maxHeartbeats 4000000 in
set_option maxRecDepth 100000 in
theorem cM_X11_cost (l : Launch) (D : va_G) (cI : ClassId) (q : Nat → Nat) (sz : Nat) (x1 : Int32) (x2 : Int32) (S : zSt) {res : Int32 × zSt} (h : fM_X11_cost x1 x2 S = some res) : zMi l yX11_cost vsX11_cost rmM_X11_cost [.ref (q 32), .int x1, .int x2] D (zwM cI q) [(cI, .int)] [] sz S res.1 res.2 := by
  refine Met.ofW (cc := cX11_cost) (maxL := 3) (ret := (some .int)) (by decide) rfl ?_
  intro p e s m args below meth c s₁ B hml hv
  obtain ⟨rfl, rfl, hP, hK, hD0, hN⟩ := hv
  have hl := lv_entry ([.ref (q 32), .int x1, .int x2]) (n := 3) (Nat.le_of_ble_eq_true rfl)
  rw [lg_entry_eq]
  generalize (lg_sl ([.ref (q 32), .int x1, .int x2]) ++ List.replicate (3 - (lg_sl ([.ref (q 32), .int x1, .int x2])).length) Slot.unset).toArray = ls at hl ⊢
  exact bM_X11_cost ⟨B.exec, B.bytes, hml, findClass_of_methodNamed B.named, fun w h => atoms_spec (ws := vsX11_cost) B.pre w (List.mem_cons_of_mem _ h), B.returns, B.notSynchronized⟩ ⟨hK, fun q h => Or.inr h, hN⟩ x1 x2 S s.heap [] ls ⟨hP, hD0.self, va_S.rf⟩ hl  h
def rmM_X11_ascending : Room := { frames := 0, cells := 0, slots := 0, locals := 0 }
set_option maxHeartbeats 4000000 in
set_option maxRecDepth 100000 in
theorem bM_X11_ascending_4 {p : Program} {l : Launch} {e : Env} {s : State} {m : MethodId} {args : Array Value} {below : List Frame} {meth : Method} {c : Code} {D : va_G} {cI : ClassId} {q : Nat → Nat} {A : Nat → Prop} {res : Int32} (C : zCX p s m args meth c cX11_ascending 4 (some .int) zU RX11) (hE : zE D [(cI, .int)] [] A s) : ∀ (n : Nat) (x2 x3 : Int32) (S : zSt) (H : Heap) (locs : List Loc) (ls : Array Slot), zH D (zwM cI q) A s S H locs → lv_has ls 4 [(0, .ref (q 32)), (2, .int x2), (3, .int x3)] → fM_X11_ascending_4  n x2 x3 S = some res → W p l e rmM_X11_ascending s m args below meth c H locs 0 0 (zQi below D (zwM cI q) [(cI, .int)] A args s res S) (F0 m 4 ls []) := by
  have hx := C.1
  have hb := C.2.1
  intro n
  induction n with
  | zero =>
    intro x2 x3 S H locs ls hH hl  h
    cases h
  | succ n hK4 =>
    intro x2 x3 S H locs ls hH hl  h
    rw [fM_X11_ascending_4] at h
    refine lv_iload_n hx hb dX11_ascending_4 rfl (lv_at hl 1 rfl) ?_
    refine lv_aload_n hx hb dX11_ascending_5 rfl (lv_at hl 0 rfl) ?_
    refine z_get C hE hH zM_o rfl zh_X11 24 (by decide) zk6_5 (fun _ h9 => h9) (v := .ref (q 24)) rfl dX11_ascending_6 ?_
    refine lv_iload_n hx hb dX11_ascending_9 rfl (lv_at hl 2 rfl) ?_
    obtain ⟨g1, h⟩ := zgd_s h
    refine z_iald C hE hH zM_a24 (t0 := 0) rfl g1 dX11_ascending_10 ?_
    refine lv_icmp_lt (tgt := 29) hx hb dX11_ascending_11 (by decide) (fun c2 => ?_) (fun c2 => ?_)
    · replace h := zif_t c2 h
      refine lv_iload_n hx hb dX11_ascending_29 rfl (lv_at hl 2 rfl) ?_
      cases h
      exact z_iret C hE hH dX11_ascending_30
    · replace h := zif_f c2 h
      refine lv_iload_n hx hb dX11_ascending_14 rfl (lv_at hl 1 rfl) ?_
      refine lv_aload_n hx hb dX11_ascending_15 rfl (lv_at hl 0 rfl) ?_
      refine z_get C hE hH zM_o rfl zh_X11 24 (by decide) zk6_5 (fun _ h9 => h9) (v := .ref (q 24)) rfl dX11_ascending_16 ?_
      refine lv_iload_n hx hb dX11_ascending_19 rfl (lv_at hl 2 rfl) ?_
      obtain ⟨g3, h⟩ := zgd_s h
      refine z_iald C hE hH zM_a24 (t0 := 0) rfl g3 dX11_ascending_20 ?_
      refine lv_isub hx hb dX11_ascending_21 ?_
      refine lv_istore_n (lv' := [(2, .int (x2 - (S.2 24 x3.toNatClampNeg))), (0, .ref (q 32)), (3, .int x3)]) hx hb dX11_ascending_22 rfl hl (by decide) rfl (fun ls hl => ?_)
      refine lv_iinc (v := (x3 + 1)) (lv' := [(3, .int (x3 + 1)), (2, .int (x2 - (S.2 24 x3.toNatClampNeg))), (0, .ref (q 32))]) hx hb dX11_ascending_23 hl (k := 2) rfl rfl (by decide) rfl (fun ls hl => ?_)
      refine lv_goto (tgt := 4) hx hb dX11_ascending_26 (by decide) ?_
      exact hK4 (x2 - (S.2 24 x3.toNatClampNeg)) (x3 + 1) S H locs ls hH (lv_sub hl [2, 1, 0] rfl) h
set_option maxHeartbeats 4000000 in
set_option maxRecDepth 100000 in
theorem bM_X11_ascending {p : Program} {l : Launch} {e : Env} {s : State} {m : MethodId} {args : Array Value} {below : List Frame} {meth : Method} {c : Code} {D : va_G} {cI : ClassId} {q : Nat → Nat} {A : Nat → Prop} {res : Int32} (C : zCX p s m args meth c cX11_ascending 4 (some .int) zU RX11) (hE : zE D [(cI, .int)] [] A s) (x1 : Int32) (S : zSt) (H : Heap) (locs : List Loc) (ls : Array Slot) (hH : zH D (zwM cI q) A s S H locs) (hl : lv_has ls 4 [(0, .ref (q 32)), (1, .int x1)]) (h : fM_X11_ascending  x1 S = some res) : W p l e rmM_X11_ascending s m args below meth c H locs 0 0 (zQi below D (zwM cI q) [(cI, .int)] A args s res S) (F0 m 0 ls []) := by
  have hx := C.1
  have hb := C.2.1
  unfold fM_X11_ascending at h
  refine lv_iload_n hx hb dX11_ascending_0 rfl (lv_at hl 1 rfl) ?_
  refine lv_istore_n (lv' := [(2, .int x1), (0, .ref (q 32)), (1, .int x1)]) hx hb dX11_ascending_1 rfl hl (by decide) rfl (fun ls hl => ?_)
  refine lv_iconst (v := 0) hx hb dX11_ascending_2 (by decide) ?_
  refine lv_istore_n (lv' := [(3, .int 0), (2, .int x1), (0, .ref (q 32)), (1, .int x1)]) hx hb dX11_ascending_3 rfl hl (by decide) rfl (fun ls hl => ?_)
  exact bM_X11_ascending_4 C hE   1000 x1 0 S H locs ls hH (lv_sub hl [2, 1, 0] rfl) h
set_option maxHeartbeats 4000000 in
set_option maxRecDepth 100000 in
theorem cM_X11_ascending (l : Launch) (D : va_G) (cI : ClassId) (q : Nat → Nat) (sz : Nat) (x1 : Int32) (S : zSt) {res : Int32} (h : fM_X11_ascending x1 S = some res) : zMi l yX11_ascending vsX11_ascending rmM_X11_ascending [.ref (q 32), .int x1] D (zwM cI q) [(cI, .int)] [] sz S res S := by
  refine Met.ofW (cc := cX11_ascending) (maxL := 4) (ret := (some .int)) (by decide) rfl ?_
  intro p e s m args below meth c s₁ B hml hv
  obtain ⟨rfl, rfl, hP, hK, hD0, hN⟩ := hv
  have hl := lv_entry ([.ref (q 32), .int x1]) (n := 4) (Nat.le_of_ble_eq_true rfl)
  rw [lg_entry_eq]
  generalize (lg_sl ([.ref (q 32), .int x1]) ++ List.replicate (4 - (lg_sl ([.ref (q 32), .int x1])).length) Slot.unset).toArray = ls at hl ⊢
  exact bM_X11_ascending ⟨B.exec, B.bytes, hml, findClass_of_methodNamed B.named, fun w h => atoms_spec (ws := vsX11_ascending) B.pre w (List.mem_cons_of_mem _ h), B.returns, B.notSynchronized⟩ ⟨hK, fun q h => Or.inr h, hN⟩ x1 S s.heap [] ls ⟨hP, hD0.self, va_S.rf⟩ hl  h
def rmM_X11_chained : Room := { frames := 1, cells := 0, slots := 0, locals := 26 }
set_option maxHeartbeats 4000000 in
set_option maxRecDepth 100000 in
theorem bM_X11_chained_4 {p : Program} {l : Launch} {e : Env} {s : State} {m : MethodId} {args : Array Value} {below : List Frame} {meth : Method} {c : Code} {D : va_G} {cI : ClassId} {q : Nat → Nat} {A : Nat → Prop} {res : Int32} (C : zCX p s m args meth c cX11_chained 4 (some .int) zU RX11) (hE : zE D [(cI, .int)] [] A s) : ∀ (n : Nat) (x2 x3 : Int32) (S : zSt) (H : Heap) (locs : List Loc) (ls : Array Slot), zH D (zwM cI q) A s S H locs → lv_has ls 4 [(0, .ref (q 32)), (2, .int x2), (3, .int x3)] → fM_X11_chained_4  n x2 x3 S = some res → W p l e rmM_X11_chained s m args below meth c H locs 0 0 (zQi below D (zwM cI q) [(cI, .int)] A args s res S) (F0 m 4 ls []) := by
  have hx := C.1
  have hb := C.2.1
  intro n
  induction n with
  | zero =>
    intro x2 x3 S H locs ls hH hl  h
    cases h
  | succ n hK4 =>
    intro x2 x3 S H locs ls hH hl  h
    rw [fM_X11_chained_4] at h
    refine lv_iload_n hx hb dX11_chained_4 rfl (lv_at hl 1 rfl) ?_
    refine lv_aload_n hx hb dX11_chained_5 rfl (lv_at hl 0 rfl) ?_
    refine lv_iload_n hx hb dX11_chained_6 rfl (lv_at hl 2 rfl) ?_
    obtain ⟨u1, e2, h⟩ := zbd_s h
    refine z_calli (va_runV (As := [.int x3]) (rest := [.int x2]) (z_fix C) (cM_X11_lengthOf l D cI q H.size x3 S e2) (cwV 1 C.2.2.2.2.1 (zGV zk24_4 zk24_5 zk24_6 zk1_5 zk24_7) rfl rfl rfl yd_X11_lengthOf ⟨Nat.le_of_ble_eq_true rfl, Nat.le_of_ble_eq_true rfl⟩) (z_preV zNm0 hE hH zM_o rfl) rfl rfl hl.1 rfl (lv_room (Nat.le_of_ble_eq_true rfl)) dX11_chained_7 ⟨Nat.le_refl 0, Nat.le_refl 0⟩) hE hH (fun H locs hH => ?_)
    refine lv_icmp_lt (tgt := 27) hx hb dX11_chained_10 (by decide) (fun c3 => ?_) (fun c3 => ?_)
    · replace h := zif_t c3 h
      refine lv_aload_n hx hb dX11_chained_27 rfl (lv_at hl 0 rfl) ?_
      refine z_get C hE hH zM_o rfl zh_X11 19 (by decide) zk6_2 (fun _ h9 => h9) (v := .ref (q 19)) rfl dX11_chained_28 ?_
      refine lv_aload_n hx hb dX11_chained_31 rfl (lv_at hl 0 rfl) ?_
      refine lv_iload_n hx hb dX11_chained_32 rfl (lv_at hl 2 rfl) ?_
      refine lv_iload_n hx hb dX11_chained_33 rfl (lv_at hl 1 rfl) ?_
      refine lv_aload_n hx hb dX11_chained_34 rfl (lv_at hl 0 rfl) ?_
      refine z_get C hE hH zM_o rfl zh_X11 18 (by decide) zk22_1 (fun _ h9 => h9) (v := .int (S.1 18)) rfl dX11_chained_35 ?_
      obtain ⟨u4, e5, h⟩ := zbd_s h
      refine z_calli (va_runV (As := [.int x3, .int x2, .int (S.1 18)]) (rest := [.ref (q 19)]) (z_fix C) (cM_X11_thingAt l D cI q H.size x3 x2 (S.1 18) S e5) (cwV 3 C.2.2.2.2.1 (zGV zk24_12 zk24_13 zk24_14 zk1_5 zk24_15) rfl rfl rfl yd_X11_thingAt ⟨Nat.le_of_ble_eq_true rfl, Nat.le_of_ble_eq_true rfl⟩) (z_preV zNm0 hE hH zM_o rfl) rfl rfl hl.1 rfl (lv_room (Nat.le_of_ble_eq_true rfl)) dX11_chained_38 ⟨Nat.le_refl 0, Nat.le_refl 0⟩) hE hH (fun H locs hH => ?_)
      obtain ⟨g6, h⟩ := zgd_s h
      refine z_iald C hE hH zM_a19 (t0 := 0) rfl g6 dX11_chained_41 ?_
      cases h
      exact z_iret C hE hH dX11_chained_42
    · replace h := zif_f c3 h
      refine lv_iload_n hx hb dX11_chained_13 rfl (lv_at hl 1 rfl) ?_
      refine lv_aload_n hx hb dX11_chained_14 rfl (lv_at hl 0 rfl) ?_
      refine lv_iload_n hx hb dX11_chained_15 rfl (lv_at hl 2 rfl) ?_
      obtain ⟨u7, e8, h⟩ := zbd_s h
      refine z_calli (va_runV (As := [.int x3]) (rest := [.int x2]) (z_fix C) (cM_X11_lengthOf l D cI q H.size x3 S e8) (cwV 1 C.2.2.2.2.1 (zGV zk24_4 zk24_5 zk24_6 zk1_5 zk24_7) rfl rfl rfl yd_X11_lengthOf ⟨Nat.le_of_ble_eq_true rfl, Nat.le_of_ble_eq_true rfl⟩) (z_preV zNm0 hE hH zM_o rfl) rfl rfl hl.1 rfl (lv_room (Nat.le_of_ble_eq_true rfl)) dX11_chained_16 ⟨Nat.le_refl 0, Nat.le_refl 0⟩) hE hH (fun H locs hH => ?_)
      refine lv_isub hx hb dX11_chained_19 ?_
      refine lv_istore_n (lv' := [(2, .int (x2 - u7)), (0, .ref (q 32)), (3, .int x3)]) hx hb dX11_chained_20 rfl hl (by decide) rfl (fun ls hl => ?_)
      refine lv_iinc (v := (x3 + 1)) (lv' := [(3, .int (x3 + 1)), (2, .int (x2 - u7)), (0, .ref (q 32))]) hx hb dX11_chained_21 hl (k := 2) rfl rfl (by decide) rfl (fun ls hl => ?_)
      refine lv_goto (tgt := 4) hx hb dX11_chained_24 (by decide) ?_
      exact hK4 (x2 - u7) (x3 + 1) S H locs ls hH (lv_sub hl [2, 1, 0] rfl) h
set_option maxHeartbeats 4000000 in
set_option maxRecDepth 100000 in
theorem bM_X11_chained {p : Program} {l : Launch} {e : Env} {s : State} {m : MethodId} {args : Array Value} {below : List Frame} {meth : Method} {c : Code} {D : va_G} {cI : ClassId} {q : Nat → Nat} {A : Nat → Prop} {res : Int32} (C : zCX p s m args meth c cX11_chained 4 (some .int) zU RX11) (hE : zE D [(cI, .int)] [] A s) (x1 : Int32) (S : zSt) (H : Heap) (locs : List Loc) (ls : Array Slot) (hH : zH D (zwM cI q) A s S H locs) (hl : lv_has ls 4 [(0, .ref (q 32)), (1, .int x1)]) (h : fM_X11_chained  x1 S = some res) : W p l e rmM_X11_chained s m args below meth c H locs 0 0 (zQi below D (zwM cI q) [(cI, .int)] A args s res S) (F0 m 0 ls []) := by
  have hx := C.1
  have hb := C.2.1
  unfold fM_X11_chained at h
  refine lv_iload_n hx hb dX11_chained_0 rfl (lv_at hl 1 rfl) ?_
  refine lv_istore_n (lv' := [(2, .int x1), (0, .ref (q 32)), (1, .int x1)]) hx hb dX11_chained_1 rfl hl (by decide) rfl (fun ls hl => ?_)
  refine lv_iconst (v := 0) hx hb dX11_chained_2 (by decide) ?_
  refine lv_istore_n (lv' := [(3, .int 0), (2, .int x1), (0, .ref (q 32)), (1, .int x1)]) hx hb dX11_chained_3 rfl hl (by decide) rfl (fun ls hl => ?_)
  exact bM_X11_chained_4 C hE   1000 x1 0 S H locs ls hH (lv_sub hl [2, 1, 0] rfl) h
set_option maxHeartbeats 4000000 in
set_option maxRecDepth 100000 in
theorem cM_X11_chained (l : Launch) (D : va_G) (cI : ClassId) (q : Nat → Nat) (sz : Nat) (x1 : Int32) (S : zSt) {res : Int32} (h : fM_X11_chained x1 S = some res) : zMi l yX11_chained vsX11_chained rmM_X11_chained [.ref (q 32), .int x1] D (zwM cI q) [(cI, .int)] [] sz S res S := by
  refine Met.ofW (cc := cX11_chained) (maxL := 4) (ret := (some .int)) (by decide) rfl ?_
  intro p e s m args below meth c s₁ B hml hv
  obtain ⟨rfl, rfl, hP, hK, hD0, hN⟩ := hv
  have hl := lv_entry ([.ref (q 32), .int x1]) (n := 4) (Nat.le_of_ble_eq_true rfl)
  rw [lg_entry_eq]
  generalize (lg_sl ([.ref (q 32), .int x1]) ++ List.replicate (4 - (lg_sl ([.ref (q 32), .int x1])).length) Slot.unset).toArray = ls at hl ⊢
  exact bM_X11_chained ⟨B.exec, B.bytes, hml, findClass_of_methodNamed B.named, fun w h => atoms_spec (ws := vsX11_chained) B.pre w (List.mem_cons_of_mem _ h), B.returns, B.notSynchronized⟩ ⟨hK, fun q h => Or.inr h, hN⟩ x1 S s.heap [] ls ⟨hP, hD0.self, va_S.rf⟩ hl  h
def rmM_X11_key : Room := { frames := 5, cells := 0, slots := 0, locals := 123 }
set_option maxHeartbeats 4000000 in
set_option maxRecDepth 100000 in
theorem bM_X11_key {p : Program} {l : Launch} {e : Env} {s : State} {m : MethodId} {args : Array Value} {below : List Frame} {meth : Method} {c : Code} {D : va_G} {cI : ClassId} {q : Nat → Nat} {A : Nat → Prop} {res : Int32 × zSt} (C : zCX p s m args meth c cX11_key 3 (some .int) zU RX11) (hE : zE D [(cI, .int)] [] A s) (x1 x2 : Int32) (S : zSt) (H : Heap) (locs : List Loc) (ls : Array Slot) (hH : zH D (zwM cI q) A s S H locs) (hl : lv_has ls 3 [(0, .ref (q 32)), (1, .int x1), (2, .int x2)]) (h : fM_X11_key  x1 x2 S = some res) : W p l e rmM_X11_key s m args below meth c H locs 0 0 (zQi below D (zwM cI q) [(cI, .int)] A args s res.1 res.2) (F0 m 0 ls []) := by
  have hx := C.1
  have hb := C.2.1
  unfold fM_X11_key at h
  refine lv_aload_n hx hb dX11_key_0 rfl (lv_at hl 0 rfl) ?_
  refine lv_iconst (v := 0) hx hb dX11_key_1 (by decide) ?_
  refine z_put C hE hH zM_o rfl zh_X11 tyX11_ok nmX11 7 (by decide) zk17_17 (fun _ h9 => h9) rfl (ty := .int) rfl rfl rfl (Nat.le_of_ble_eq_true rfl) zM_i7 dX11_key_2 (fun H locs hH => ?_)
  refine lv_iload_n hx hb dX11_key_5 rfl (lv_at hl 1 rfl) ?_
  obtain ⟨u1, e2, h⟩ := zbd_s h
  refine z_calli (va_runS (As := [.int x1]) (rest := []) (z_fix C) (cM_X11_isShelf l D cI q H.size x1 (zsI S 7 0) e2) (va_cwS 1 C.2.2.2.2.1 (zGS zk27_17 zk27_18 zk1_5 zk27_19) rfl rfl rfl yd_X11_isShelf ⟨Nat.le_of_ble_eq_true rfl, Nat.le_of_ble_eq_true rfl⟩) (z_preS zNm0 hE hH) rfl rfl hl.1 rfl (lv_room (Nat.le_of_ble_eq_true rfl)) dX11_key_6 ⟨Nat.le_refl 0, Nat.le_refl 0⟩) hE hH (fun H locs hH => ?_)
  refine lv_if_ne (tgt := 14) hx hb dX11_key_9 (by decide) (fun c3 => ?_) (fun c3 => ?_)
  · replace h := zif_f c3 h
    refine lv_aload_n hx hb dX11_key_14 rfl (lv_at hl 0 rfl) ?_
    obtain ⟨u4, e5, h⟩ := zbd_s h
    refine z_callv (va_runV (As := []) (rest := []) (z_fix C) (cM_X11_doAll l D cI q H.size  (zsI S 7 0) e5) (cwV 0 C.2.2.2.2.1 (zGV zk21_21 zk21_22 zk21_23 zk1_5 zk22_0) rfl rfl rfl yd_X11_doAll ⟨Nat.le_of_ble_eq_true rfl, Nat.le_of_ble_eq_true rfl⟩) (z_preV zNm0 hE hH zM_o rfl) rfl rfl hl.1 rfl (lv_room (Nat.le_of_ble_eq_true rfl)) dX11_key_15 ⟨Nat.le_refl 0, Nat.le_refl 0⟩) hE hH (fun H locs hH => ?_)
    refine lv_iload_n hx hb dX11_key_18 rfl (lv_at hl 2 rfl) ?_
    refine lv_iconst (v := 0) hx hb dX11_key_19 (by decide) ?_
    refine lv_aload_n hx hb dX11_key_20 rfl (lv_at hl 0 rfl) ?_
    refine z_get C hE hH zM_o rfl zh_X11 18 (by decide) zk22_1 (fun _ h9 => h9) (v := .int (u4.1 18)) rfl dX11_key_21 ?_
    refine lv_iconst (v := 1) hx hb dX11_key_24 (by decide) ?_
    refine lv_isub hx hb dX11_key_25 ?_
    obtain ⟨u6, e7, h⟩ := zbd_s h
    refine z_calli (va_runS (As := [.int x2, .int 0, .int ((u4.1 18) - 1)]) (rest := []) (z_fix C) (cM_X11_in l D cI q H.size x2 0 ((u4.1 18) - 1) u4 e7) (va_cwS 3 C.2.2.2.2.1 (zGS zk17_19 zk17_20 zk1_5 zk17_21) rfl rfl rfl yd_X11_in ⟨Nat.le_of_ble_eq_true rfl, Nat.le_of_ble_eq_true rfl⟩) (z_preS zNm0 hE hH) rfl rfl hl.1 rfl (lv_room (Nat.le_of_ble_eq_true rfl)) dX11_key_26 ⟨Nat.le_refl 0, Nat.le_refl 0⟩) hE hH (fun H locs hH => ?_)
    refine lv_if_ne (tgt := 34) hx hb dX11_key_29 (by decide) (fun c8 => ?_) (fun c8 => ?_)
    · replace h := zif_f c8 h
      refine lv_iload_n hx hb dX11_key_34 rfl (lv_at hl 1 rfl) ?_
      by_cases c9_0 : x1 = 0
      · replace h := zif_t c9_0 h
        refine lv_tableIn (tgt := 68) hx hb dX11_key_35 (by rw [c9_0]; decide) (by rw [c9_0]; decide) (by rw [c9_0]; rfl) (by decide) ?_
        refine lv_aload_n hx hb dX11_key_68 rfl (lv_at hl 0 rfl) ?_
        refine z_get C hE hH zM_o rfl zh_X11 14 (by decide) zk5_22 (fun _ h9 => h9) (v := .ref (q 14)) rfl dX11_key_69 ?_
        refine lv_iload_n hx hb dX11_key_72 rfl (lv_at hl 2 rfl) ?_
        obtain ⟨g10, h⟩ := zgd_s h
        refine z_iald C hE hH zM_a14 (t0 := 0) rfl g10 dX11_key_73 ?_
        cases h
        exact z_iret C hE hH dX11_key_74
      · replace h := zif_f c9_0 h
        by_cases c9_1 : x1 = 1
        · replace h := zif_t c9_1 h
          refine lv_tableIn (tgt := 75) hx hb dX11_key_35 (by rw [c9_1]; decide) (by rw [c9_1]; decide) (by rw [c9_1]; rfl) (by decide) ?_
          refine lv_aload_n hx hb dX11_key_75 rfl (lv_at hl 0 rfl) ?_
          refine z_get C hE hH zM_o rfl zh_X11 15 (by decide) zk5_23 (fun _ h9 => h9) (v := .ref (q 15)) rfl dX11_key_76 ?_
          refine lv_iload_n hx hb dX11_key_79 rfl (lv_at hl 2 rfl) ?_
          obtain ⟨g11, h⟩ := zgd_s h
          refine z_iald C hE hH zM_a15 (t0 := 0) rfl g11 dX11_key_80 ?_
          cases h
          exact z_iret C hE hH dX11_key_81
        · replace h := zif_f c9_1 h
          by_cases c9_2 : x1 = 2
          · replace h := zif_t c9_2 h
            refine lv_tableIn (tgt := 82) hx hb dX11_key_35 (by rw [c9_2]; decide) (by rw [c9_2]; decide) (by rw [c9_2]; rfl) (by decide) ?_
            refine lv_aload_n hx hb dX11_key_82 rfl (lv_at hl 0 rfl) ?_
            refine lv_iload_n hx hb dX11_key_83 rfl (lv_at hl 2 rfl) ?_
            obtain ⟨u12, e13, h⟩ := zbd_s h
            refine z_calli (va_runV (As := [.int x2]) (rest := []) (z_fix C) (cM_X11_chained l D cI q H.size x2 u4 e13) (cwV 1 C.2.2.2.2.1 (zGV zk28_14 zk28_15 zk28_16 zk1_5 zk28_17) rfl rfl rfl yd_X11_chained ⟨Nat.le_of_ble_eq_true rfl, Nat.le_of_ble_eq_true rfl⟩) (z_preV zNm0 hE hH zM_o rfl) rfl rfl hl.1 rfl (lv_room (Nat.le_of_ble_eq_true rfl)) dX11_key_84 ⟨Nat.le_refl 0, Nat.le_refl 0⟩) hE hH (fun H locs hH => ?_)
            cases h
            exact z_iret C hE hH dX11_key_87
          · replace h := zif_f c9_2 h
            by_cases c9_3 : x1 = 3
            · replace h := zif_t c9_3 h
              refine lv_tableIn (tgt := 95) hx hb dX11_key_35 (by rw [c9_3]; decide) (by rw [c9_3]; decide) (by rw [c9_3]; rfl) (by decide) ?_
              refine lv_aload_n hx hb dX11_key_95 rfl (lv_at hl 0 rfl) ?_
              refine lv_iload_n hx hb dX11_key_96 rfl (lv_at hl 2 rfl) ?_
              obtain ⟨u14, e15, h⟩ := zbd_s h
              refine z_calli (va_runV (As := [.int x2]) (rest := []) (z_fix C) (cM_X11_ascending l D cI q H.size x2 u4 e15) (cwV 1 C.2.2.2.2.1 (zGV zk28_18 zk28_19 zk28_20 zk1_5 zk28_21) rfl rfl rfl yd_X11_ascending ⟨Nat.le_of_ble_eq_true rfl, Nat.le_of_ble_eq_true rfl⟩) (z_preV zNm0 hE hH zM_o rfl) rfl rfl hl.1 rfl (lv_room (Nat.le_of_ble_eq_true rfl)) dX11_key_97 ⟨Nat.le_refl 0, Nat.le_refl 0⟩) hE hH (fun H locs hH => ?_)
              cases h
              exact z_iret C hE hH dX11_key_100
            · replace h := zif_f c9_3 h
              by_cases c9_4 : x1 = 4
              · replace h := zif_t c9_4 h
                refine lv_tableIn (tgt := 88) hx hb dX11_key_35 (by rw [c9_4]; decide) (by rw [c9_4]; decide) (by rw [c9_4]; rfl) (by decide) ?_
                refine lv_aload_n hx hb dX11_key_88 rfl (lv_at hl 0 rfl) ?_
                refine z_get C hE hH zM_o rfl zh_X11 16 (by decide) zk6_0 (fun _ h9 => h9) (v := .ref (q 16)) rfl dX11_key_89 ?_
                refine lv_iload_n hx hb dX11_key_92 rfl (lv_at hl 2 rfl) ?_
                obtain ⟨g16, h⟩ := zgd_s h
                refine z_iald C hE hH zM_a16 (t0 := 0) rfl g16 dX11_key_93 ?_
                cases h
                exact z_iret C hE hH dX11_key_94
              · replace h := zif_f c9_4 h
                have ec9_0 : ¬ (x1).toInt = 0 := zsw_ne c9_0
                have ec9_1 : ¬ (x1).toInt = 1 := zsw_ne c9_1
                have ec9_2 : ¬ (x1).toInt = 2 := zsw_ne c9_2
                have ec9_3 : ¬ (x1).toInt = 3 := zsw_ne c9_3
                have ec9_4 : ¬ (x1).toInt = 4 := zsw_ne c9_4
                refine lv_tableOut (tgt := 95) hx hb dX11_key_35 (by omega) (by decide) ?_
                refine lv_aload_n hx hb dX11_key_95 rfl (lv_at hl 0 rfl) ?_
                refine lv_iload_n hx hb dX11_key_96 rfl (lv_at hl 2 rfl) ?_
                obtain ⟨u17, e18, h⟩ := zbd_s h
                refine z_calli (va_runV (As := [.int x2]) (rest := []) (z_fix C) (cM_X11_ascending l D cI q H.size x2 u4 e18) (cwV 1 C.2.2.2.2.1 (zGV zk28_18 zk28_19 zk28_20 zk1_5 zk28_21) rfl rfl rfl yd_X11_ascending ⟨Nat.le_of_ble_eq_true rfl, Nat.le_of_ble_eq_true rfl⟩) (z_preV zNm0 hE hH zM_o rfl) rfl rfl hl.1 rfl (lv_room (Nat.le_of_ble_eq_true rfl)) dX11_key_97 ⟨Nat.le_refl 0, Nat.le_refl 0⟩) hE hH (fun H locs hH => ?_)
                cases h
                exact z_iret C hE hH dX11_key_100
    · replace h := zif_t c8 h
      refine lv_iconst (v := (-1)) hx hb dX11_key_32 (by decide) ?_
      cases h
      exact z_iret C hE hH dX11_key_33
  · replace h := zif_t c3 h
    refine lv_iconst (v := (-1)) hx hb dX11_key_12 (by decide) ?_
    cases h
    exact z_iret C hE hH dX11_key_13
set_option maxHeartbeats 4000000 in
set_option maxRecDepth 100000 in
theorem cM_X11_key (l : Launch) (D : va_G) (cI : ClassId) (q : Nat → Nat) (sz : Nat) (x1 : Int32) (x2 : Int32) (S : zSt) {res : Int32 × zSt} (h : fM_X11_key x1 x2 S = some res) : zMi l yX11_key vsX11_key rmM_X11_key [.ref (q 32), .int x1, .int x2] D (zwM cI q) [(cI, .int)] [] sz S res.1 res.2 := by
  refine Met.ofW (cc := cX11_key) (maxL := 3) (ret := (some .int)) (by decide) rfl ?_
  intro p e s m args below meth c s₁ B hml hv
  obtain ⟨rfl, rfl, hP, hK, hD0, hN⟩ := hv
  have hl := lv_entry ([.ref (q 32), .int x1, .int x2]) (n := 3) (Nat.le_of_ble_eq_true rfl)
  rw [lg_entry_eq]
  generalize (lg_sl ([.ref (q 32), .int x1, .int x2]) ++ List.replicate (3 - (lg_sl ([.ref (q 32), .int x1, .int x2])).length) Slot.unset).toArray = ls at hl ⊢
  exact bM_X11_key ⟨B.exec, B.bytes, hml, findClass_of_methodNamed B.named, fun w h => atoms_spec (ws := vsX11_key) B.pre w (List.mem_cons_of_mem _ h), B.returns, B.notSynchronized⟩ ⟨hK, fun q h => Or.inr h, hN⟩ x1 x2 S s.heap [] ls ⟨hP, hD0.self, va_S.rf⟩ hl  h
def rmM_X11_hasFirst : Room := { frames := 0, cells := 0, slots := 0, locals := 0 }
set_option maxHeartbeats 4000000 in
set_option maxRecDepth 100000 in
theorem bM_X11_hasFirst_2 {p : Program} {l : Launch} {e : Env} {s : State} {m : MethodId} {args : Array Value} {below : List Frame} {meth : Method} {c : Code} {D : va_G} {cI : ClassId} {q : Nat → Nat} {A : Nat → Prop} {res : Int32} (C : zCX p s m args meth c cX11_hasFirst 2 (some .boolean) zU RX11) (hE : zE D [(cI, .int)] [] A s) : ∀ (n : Nat) (x1 : Int32) (S : zSt) (H : Heap) (locs : List Loc) (ls : Array Slot), zH D (zwM cI q) A s S H locs → lv_has ls 2 [(0, .ref (q 32)), (1, .int x1)] → fM_X11_hasFirst_2  n x1 S = some res → W p l e rmM_X11_hasFirst s m args below meth c H locs 0 0 (zQi below D (zwM cI q) [(cI, .int)] A args s res S) (F0 m 2 ls []) := by
  have hx := C.1
  have hb := C.2.1
  intro n
  induction n with
  | zero =>
    intro x1 S H locs ls hH hl  h
    cases h
  | succ n hK2 =>
    intro x1 S H locs ls hH hl  h
    rw [fM_X11_hasFirst_2] at h
    refine lv_iload_n hx hb dX11_hasFirst_2 rfl (lv_at hl 1 rfl) ?_
    refine lv_aload_n hx hb dX11_hasFirst_3 rfl (lv_at hl 0 rfl) ?_
    refine z_get C hE hH zM_o rfl zh_X11 2 (by decide) zk17_18 (fun _ h9 => h9) (v := .int (S.1 2)) rfl dX11_hasFirst_4 ?_
    refine lv_icmp_ge (tgt := 29) hx hb dX11_hasFirst_7 (by decide) (fun c1 => ?_) (fun c1 => ?_)
    · replace h := zif_t c1 h
      refine lv_iconst (v := 0) hx hb dX11_hasFirst_29 (by decide) ?_
      cases h
      exact z_zret (v := 0) C hE hH zb_0 dX11_hasFirst_30
    · replace h := zif_f c1 h
      refine lv_aload_n hx hb dX11_hasFirst_10 rfl (lv_at hl 0 rfl) ?_
      refine z_get C hE hH zM_o rfl zh_X11 0 (by decide) zk5_13 (fun _ h9 => h9) (v := .ref (q 0)) rfl dX11_hasFirst_11 ?_
      refine lv_iload_n hx hb dX11_hasFirst_14 rfl (lv_at hl 1 rfl) ?_
      obtain ⟨g2, h⟩ := zgd_s h
      refine z_iald C hE hH zM_a0 (t0 := 0) rfl g2 dX11_hasFirst_15 ?_
      refine lv_bipush (v := 6) hx hb dX11_hasFirst_16 (by decide) ?_
      refine lv_icmp_ne (tgt := 23) hx hb dX11_hasFirst_18 (by decide) (fun c3 => ?_) (fun c3 => ?_)
      · replace h := zif_f c3 h
        refine lv_iinc (v := (x1 + 1)) (lv' := [(1, .int (x1 + 1)), (0, .ref (q 32))]) hx hb dX11_hasFirst_23 hl (k := 1) rfl rfl (by decide) rfl (fun ls hl => ?_)
        refine lv_goto (tgt := 2) hx hb dX11_hasFirst_26 (by decide) ?_
        exact hK2 (x1 + 1) S H locs ls hH (lv_sub hl [1, 0] rfl) h
      · replace h := zif_t c3 h
        refine lv_iconst (v := 1) hx hb dX11_hasFirst_21 (by decide) ?_
        cases h
        exact z_zret (v := 1) C hE hH zb_1 dX11_hasFirst_22
set_option maxHeartbeats 4000000 in
set_option maxRecDepth 100000 in
theorem bM_X11_hasFirst {p : Program} {l : Launch} {e : Env} {s : State} {m : MethodId} {args : Array Value} {below : List Frame} {meth : Method} {c : Code} {D : va_G} {cI : ClassId} {q : Nat → Nat} {A : Nat → Prop} {res : Int32} (C : zCX p s m args meth c cX11_hasFirst 2 (some .boolean) zU RX11) (hE : zE D [(cI, .int)] [] A s) (S : zSt) (H : Heap) (locs : List Loc) (ls : Array Slot) (hH : zH D (zwM cI q) A s S H locs) (hl : lv_has ls 2 [(0, .ref (q 32))]) (h : fM_X11_hasFirst   S = some res) : W p l e rmM_X11_hasFirst s m args below meth c H locs 0 0 (zQi below D (zwM cI q) [(cI, .int)] A args s res S) (F0 m 0 ls []) := by
  have hx := C.1
  have hb := C.2.1
  unfold fM_X11_hasFirst at h
  refine lv_iconst (v := 0) hx hb dX11_hasFirst_0 (by decide) ?_
  refine lv_istore_n (lv' := [(1, .int 0), (0, .ref (q 32))]) hx hb dX11_hasFirst_1 rfl hl (by decide) rfl (fun ls hl => ?_)
  exact bM_X11_hasFirst_2 C hE   1000 0 S H locs ls hH (lv_sub hl [1, 0] rfl) h
set_option maxHeartbeats 4000000 in
set_option maxRecDepth 100000 in
theorem cM_X11_hasFirst (l : Launch) (D : va_G) (cI : ClassId) (q : Nat → Nat) (sz : Nat) (S : zSt) {res : Int32} (h : fM_X11_hasFirst  S = some res) : zMi l yX11_hasFirst vsX11_hasFirst rmM_X11_hasFirst [.ref (q 32)] D (zwM cI q) [(cI, .int)] [] sz S res S := by
  refine Met.ofW (cc := cX11_hasFirst) (maxL := 2) (ret := (some .boolean)) (by decide) rfl ?_
  intro p e s m args below meth c s₁ B hml hv
  obtain ⟨rfl, rfl, hP, hK, hD0, hN⟩ := hv
  have hl := lv_entry ([.ref (q 32)]) (n := 2) (Nat.le_of_ble_eq_true rfl)
  rw [lg_entry_eq]
  generalize (lg_sl ([.ref (q 32)]) ++ List.replicate (2 - (lg_sl ([.ref (q 32)])).length) Slot.unset).toArray = ls at hl ⊢
  exact bM_X11_hasFirst ⟨B.exec, B.bytes, hml, findClass_of_methodNamed B.named, fun w h => atoms_spec (ws := vsX11_hasFirst) B.pre w (List.mem_cons_of_mem _ h), B.returns, B.notSynchronized⟩ ⟨hK, fun q h => Or.inr h, hN⟩  S s.heap [] ls ⟨hP, hD0.self, va_S.rf⟩ hl  h
def rmM_X11_isOffered : Room := { frames := 1, cells := 0, slots := 0, locals := 21 }
set_option maxHeartbeats 4000000 in
set_option maxRecDepth 100000 in
theorem bM_X11_isOffered_33 {p : Program} {l : Launch} {e : Env} {s : State} {m : MethodId} {args : Array Value} {below : List Frame} {meth : Method} {c : Code} {D : va_G} {cI : ClassId} {q : Nat → Nat} {A : Nat → Prop} {res : Int32} (C : zCX p s m args meth c cX11_isOffered 2 (some .boolean) zU RX11) (hE : zE D [(cI, .int)] [] A s) (S : zSt) (H : Heap) (locs : List Loc) (ls : Array Slot) (hH : zH D (zwM cI q) A s S H locs) (hl : lv_has ls 2 []) (h : fM_X11_isOffered_33   S = some res) : W p l e rmM_X11_isOffered s m args below meth c H locs 0 0 (zQi below D (zwM cI q) [(cI, .int)] A args s res S) (F0 m 33 ls []) := by
  have hx := C.1
  have hb := C.2.1
  unfold fM_X11_isOffered_33 at h
  refine lv_iconst (v := 1) hx hb dX11_isOffered_33 (by decide) ?_
  refine lv_goto (tgt := 38) hx hb dX11_isOffered_34 (by decide) ?_
  cases h
  exact z_zret (v := 1) C hE hH zb_1 dX11_isOffered_38
set_option maxHeartbeats 4000000 in
set_option maxRecDepth 100000 in
theorem bM_X11_isOffered_15 {p : Program} {l : Launch} {e : Env} {s : State} {m : MethodId} {args : Array Value} {below : List Frame} {meth : Method} {c : Code} {D : va_G} {cI : ClassId} {q : Nat → Nat} {A : Nat → Prop} {res : Int32} (C : zCX p s m args meth c cX11_isOffered 2 (some .boolean) zU RX11) (hE : zE D [(cI, .int)] [] A s) (x1 : Int32) (S : zSt) (H : Heap) (locs : List Loc) (ls : Array Slot) (hH : zH D (zwM cI q) A s S H locs) (hl : lv_has ls 2 [(0, .ref (q 32)), (1, .int x1)]) (h : fM_X11_isOffered_15  x1 S = some res) : W p l e rmM_X11_isOffered s m args below meth c H locs 0 0 (zQi below D (zwM cI q) [(cI, .int)] A args s res S) (F0 m 15 ls []) := by
  have hx := C.1
  have hb := C.2.1
  unfold fM_X11_isOffered_15 at h
  refine lv_iload_n hx hb dX11_isOffered_15 rfl (lv_at hl 1 rfl) ?_
  refine lv_if_eq (tgt := 33) hx hb dX11_isOffered_16 (by decide) (fun c1 => ?_) (fun c1 => ?_)
  · replace h := zif_t c1 h
    exact bM_X11_isOffered_33 C hE   S H locs ls hH (lv_sub hl [] rfl) h
  · replace h := zif_f c1 h
    refine lv_aload_n hx hb dX11_isOffered_19 rfl (lv_at hl 0 rfl) ?_
    refine z_get C hE hH zM_o rfl zh_X11 4 (by decide) zk20_20 (fun _ h9 => h9) (v := .int (S.1 4)) rfl dX11_isOffered_20 ?_
    refine lv_if_ne (tgt := 37) hx hb dX11_isOffered_23 (by decide) (fun c2 => ?_) (fun c2 => ?_)
    · replace h := zif_f c2 h
      refine lv_iconst (v := 0) hx hb dX11_isOffered_37 (by decide) ?_
      cases h
      exact z_zret (v := 0) C hE hH zb_0 dX11_isOffered_38
    · replace h := zif_t c2 h
      refine lv_aload_n hx hb dX11_isOffered_26 rfl (lv_at hl 0 rfl) ?_
      obtain ⟨u3, e4, h⟩ := zbd_s h
      refine z_calli (va_runV (As := []) (rest := []) (z_fix C) (cM_X11_hasFirst l D cI q H.size  S e4) (cwV 0 C.2.2.2.2.1 (zGV zk32_0 zk32_1 zk32_2 zk1_5 zk32_3) rfl rfl rfl yd_X11_hasFirst ⟨Nat.le_of_ble_eq_true rfl, Nat.le_of_ble_eq_true rfl⟩) (z_preV zNm0 hE hH zM_o rfl) rfl rfl hl.1 rfl (lv_room (Nat.le_of_ble_eq_true rfl)) dX11_isOffered_27 ⟨Nat.le_refl 0, Nat.le_refl 0⟩) hE hH (fun H locs hH => ?_)
      refine lv_if_ne (tgt := 37) hx hb dX11_isOffered_30 (by decide) (fun c5 => ?_) (fun c5 => ?_)
      · replace h := zif_f c5 h
        refine lv_iconst (v := 0) hx hb dX11_isOffered_37 (by decide) ?_
        cases h
        exact z_zret (v := 0) C hE hH zb_0 dX11_isOffered_38
      · replace h := zif_t c5 h
        exact bM_X11_isOffered_33 C hE   S H locs ls hH (lv_sub hl [] rfl) h
set_option maxHeartbeats 4000000 in
set_option maxRecDepth 100000 in
theorem bM_X11_isOffered {p : Program} {l : Launch} {e : Env} {s : State} {m : MethodId} {args : Array Value} {below : List Frame} {meth : Method} {c : Code} {D : va_G} {cI : ClassId} {q : Nat → Nat} {A : Nat → Prop} {res : Int32} (C : zCX p s m args meth c cX11_isOffered 2 (some .boolean) zU RX11) (hE : zE D [(cI, .int)] [] A s) (x1 : Int32) (S : zSt) (H : Heap) (locs : List Loc) (ls : Array Slot) (hH : zH D (zwM cI q) A s S H locs) (hl : lv_has ls 2 [(0, .ref (q 32)), (1, .int x1)]) (h : fM_X11_isOffered  x1 S = some res) : W p l e rmM_X11_isOffered s m args below meth c H locs 0 0 (zQi below D (zwM cI q) [(cI, .int)] A args s res S) (F0 m 0 ls []) := by
  have hx := C.1
  have hb := C.2.1
  unfold fM_X11_isOffered at h
  refine lv_aload_n hx hb dX11_isOffered_0 rfl (lv_at hl 0 rfl) ?_
  refine z_get C hE hH zM_o rfl zh_X11 3 (by decide) zk20_19 (fun _ h9 => h9) (v := .int (S.1 3)) rfl dX11_isOffered_1 ?_
  refine lv_if_eq (tgt := 15) hx hb dX11_isOffered_4 (by decide) (fun c1 => ?_) (fun c1 => ?_)
  · replace h := zif_t c1 h
    exact bM_X11_isOffered_15 C hE   x1 S H locs ls hH (lv_sub hl [0, 1] rfl) h
  · replace h := zif_f c1 h
    refine lv_iload_n hx hb dX11_isOffered_7 rfl (lv_at hl 1 rfl) ?_
    refine lv_iconst (v := 2) hx hb dX11_isOffered_8 (by decide) ?_
    refine lv_irem hx hb dX11_isOffered_9 (by decide) ?_
    refine lv_if_ne (tgt := 15) hx hb dX11_isOffered_10 (by decide) (fun c2 => ?_) (fun c2 => ?_)
    · replace h := zif_f c2 h
      exact bM_X11_isOffered_15 C hE   x1 S H locs ls hH (lv_sub hl [0, 1] rfl) h
    · replace h := zif_t c2 h
      refine lv_iconst (v := 0) hx hb dX11_isOffered_13 (by decide) ?_
      cases h
      exact z_zret (v := 0) C hE hH zb_0 dX11_isOffered_14
set_option maxHeartbeats 4000000 in
set_option maxRecDepth 100000 in
theorem cM_X11_isOffered (l : Launch) (D : va_G) (cI : ClassId) (q : Nat → Nat) (sz : Nat) (x1 : Int32) (S : zSt) {res : Int32} (h : fM_X11_isOffered x1 S = some res) : zMi l yX11_isOffered vsX11_isOffered rmM_X11_isOffered [.ref (q 32), .int x1] D (zwM cI q) [(cI, .int)] [] sz S res S := by
  refine Met.ofW (cc := cX11_isOffered) (maxL := 2) (ret := (some .boolean)) (by decide) rfl ?_
  intro p e s m args below meth c s₁ B hml hv
  obtain ⟨rfl, rfl, hP, hK, hD0, hN⟩ := hv
  have hl := lv_entry ([.ref (q 32), .int x1]) (n := 2) (Nat.le_of_ble_eq_true rfl)
  rw [lg_entry_eq]
  generalize (lg_sl ([.ref (q 32), .int x1]) ++ List.replicate (2 - (lg_sl ([.ref (q 32), .int x1])).length) Slot.unset).toArray = ls at hl ⊢
  exact bM_X11_isOffered ⟨B.exec, B.bytes, hml, findClass_of_methodNamed B.named, fun w h => atoms_spec (ws := vsX11_isOffered) B.pre w (List.mem_cons_of_mem _ h), B.returns, B.notSynchronized⟩ ⟨hK, fun q h => Or.inr h, hN⟩ x1 S s.heap [] ls ⟨hP, hD0.self, va_S.rf⟩ hl  h
def rmM_X11_stepsOf : Room := { frames := 0, cells := 0, slots := 0, locals := 0 }
set_option maxHeartbeats 4000000 in
set_option maxRecDepth 100000 in
theorem bM_X11_stepsOf_5 {p : Program} {l : Launch} {e : Env} {s : State} {m : MethodId} {args : Array Value} {below : List Frame} {meth : Method} {c : Code} {D : va_G} {cI : ClassId} {q : Nat → Nat} {A : Nat → Prop} {res : Int32} (C : zCX p s m args meth c cX11_stepsOf 5 (some .int) zU RX11) (hE : zE D [(cI, .int)] [] A s) : ∀ (n : Nat) (x1 x3 x4 : Int32) (S : zSt) (H : Heap) (locs : List Loc) (ls : Array Slot), zH D (zwM cI q) A s S H locs → lv_has ls 5 [(0, .ref (q 32)), (1, .int x1), (3, .int x3), (4, .int x4)] → fM_X11_stepsOf_5  n x1 x3 x4 S = some res → W p l e rmM_X11_stepsOf s m args below meth c H locs 0 0 (zQi below D (zwM cI q) [(cI, .int)] A args s res S) (F0 m 5 ls []) := by
  have hx := C.1
  have hb := C.2.1
  intro n
  induction n with
  | zero =>
    intro x1 x3 x4 S H locs ls hH hl  h
    cases h
  | succ n hK5 =>
    intro x1 x3 x4 S H locs ls hH hl  h
    rw [fM_X11_stepsOf_5] at h
    refine lv_iload hx hb dX11_stepsOf_5 (lv_at hl 3 rfl) ?_
    refine lv_aload_n hx hb dX11_stepsOf_7 rfl (lv_at hl 0 rfl) ?_
    refine z_get C hE hH zM_o rfl zh_X11 2 (by decide) zk17_18 (fun _ h9 => h9) (v := .int (S.1 2)) rfl dX11_stepsOf_8 ?_
    refine lv_icmp_ge (tgt := 35) hx hb dX11_stepsOf_11 (by decide) (fun c1 => ?_) (fun c1 => ?_)
    · replace h := zif_t c1 h
      refine lv_iload_n hx hb dX11_stepsOf_35 rfl (lv_at hl 2 rfl) ?_
      cases h
      exact z_iret C hE hH dX11_stepsOf_36
    · replace h := zif_f c1 h
      refine lv_iload_n hx hb dX11_stepsOf_14 rfl (lv_at hl 2 rfl) ?_
      refine lv_aload_n hx hb dX11_stepsOf_15 rfl (lv_at hl 0 rfl) ?_
      refine z_get C hE hH zM_o rfl zh_X11 11 (by decide) zk5_19 (fun _ h9 => h9) (v := .ref (q 11)) rfl dX11_stepsOf_16 ?_
      refine lv_bipush (v := 6) hx hb dX11_stepsOf_19 (by decide) ?_
      refine lv_iload hx hb dX11_stepsOf_21 (lv_at hl 3 rfl) ?_
      refine lv_imul hx hb dX11_stepsOf_23 ?_
      refine lv_iload_n hx hb dX11_stepsOf_24 rfl (lv_at hl 1 rfl) ?_
      refine lv_iadd hx hb dX11_stepsOf_25 ?_
      obtain ⟨g2, h⟩ := zgd_s h
      refine z_iald C hE hH zM_a11 (t0 := 0) rfl g2 dX11_stepsOf_26 ?_
      refine lv_iadd hx hb dX11_stepsOf_27 ?_
      refine lv_istore_n (lv' := [(3, .int (x3 + (S.2 11 ((6 * x4) + x1).toNatClampNeg))), (0, .ref (q 32)), (1, .int x1), (4, .int x4)]) hx hb dX11_stepsOf_28 rfl hl (by decide) rfl (fun ls hl => ?_)
      refine lv_iinc (v := (x4 + 1)) (lv' := [(4, .int (x4 + 1)), (3, .int (x3 + (S.2 11 ((6 * x4) + x1).toNatClampNeg))), (0, .ref (q 32)), (1, .int x1)]) hx hb dX11_stepsOf_29 hl (k := 3) rfl rfl (by decide) rfl (fun ls hl => ?_)
      refine lv_goto (tgt := 5) hx hb dX11_stepsOf_32 (by decide) ?_
      exact hK5 x1 (x3 + (S.2 11 ((6 * x4) + x1).toNatClampNeg)) (x4 + 1) S H locs ls hH (lv_sub hl [2, 3, 1, 0] rfl) h
set_option maxHeartbeats 4000000 in
set_option maxRecDepth 100000 in
theorem bM_X11_stepsOf {p : Program} {l : Launch} {e : Env} {s : State} {m : MethodId} {args : Array Value} {below : List Frame} {meth : Method} {c : Code} {D : va_G} {cI : ClassId} {q : Nat → Nat} {A : Nat → Prop} {res : Int32} (C : zCX p s m args meth c cX11_stepsOf 5 (some .int) zU RX11) (hE : zE D [(cI, .int)] [] A s) (x1 x2 : Int32) (S : zSt) (H : Heap) (locs : List Loc) (ls : Array Slot) (hH : zH D (zwM cI q) A s S H locs) (hl : lv_has ls 5 [(0, .ref (q 32)), (1, .int x1), (2, .int x2)]) (h : fM_X11_stepsOf  x1 x2 S = some res) : W p l e rmM_X11_stepsOf s m args below meth c H locs 0 0 (zQi below D (zwM cI q) [(cI, .int)] A args s res S) (F0 m 0 ls []) := by
  have hx := C.1
  have hb := C.2.1
  unfold fM_X11_stepsOf at h
  refine lv_iconst (v := 0) hx hb dX11_stepsOf_0 (by decide) ?_
  refine lv_istore_n (lv' := [(3, .int 0), (0, .ref (q 32)), (1, .int x1), (2, .int x2)]) hx hb dX11_stepsOf_1 rfl hl (by decide) rfl (fun ls hl => ?_)
  refine lv_iload_n hx hb dX11_stepsOf_2 rfl (lv_at hl 3 rfl) ?_
  refine lv_istore (lv' := [(4, .int x2), (3, .int 0), (0, .ref (q 32)), (1, .int x1), (2, .int x2)]) hx hb dX11_stepsOf_3 hl (by decide) rfl (fun ls hl => ?_)
  exact bM_X11_stepsOf_5 C hE   1000 x1 0 x2 S H locs ls hH (lv_sub hl [2, 3, 1, 0] rfl) h
set_option maxHeartbeats 4000000 in
set_option maxRecDepth 100000 in
theorem cM_X11_stepsOf (l : Launch) (D : va_G) (cI : ClassId) (q : Nat → Nat) (sz : Nat) (x1 : Int32) (x2 : Int32) (S : zSt) {res : Int32} (h : fM_X11_stepsOf x1 x2 S = some res) : zMi l yX11_stepsOf vsX11_stepsOf rmM_X11_stepsOf [.ref (q 32), .int x1, .int x2] D (zwM cI q) [(cI, .int)] [] sz S res S := by
  refine Met.ofW (cc := cX11_stepsOf) (maxL := 5) (ret := (some .int)) (by decide) rfl ?_
  intro p e s m args below meth c s₁ B hml hv
  obtain ⟨rfl, rfl, hP, hK, hD0, hN⟩ := hv
  have hl := lv_entry ([.ref (q 32), .int x1, .int x2]) (n := 5) (Nat.le_of_ble_eq_true rfl)
  rw [lg_entry_eq]
  generalize (lg_sl ([.ref (q 32), .int x1, .int x2]) ++ List.replicate (5 - (lg_sl ([.ref (q 32), .int x1, .int x2])).length) Slot.unset).toArray = ls at hl ⊢
  exact bM_X11_stepsOf ⟨B.exec, B.bytes, hml, findClass_of_methodNamed B.named, fun w h => atoms_spec (ws := vsX11_stepsOf) B.pre w (List.mem_cons_of_mem _ h), B.returns, B.notSynchronized⟩ ⟨hK, fun q h => Or.inr h, hN⟩ x1 x2 S s.heap [] ls ⟨hP, hD0.self, va_S.rf⟩ hl  h
def rmM_X11_worstOf : Room := { frames := 0, cells := 0, slots := 0, locals := 0 }
set_option maxHeartbeats 4000000 in
set_option maxRecDepth 100000 in
theorem bM_X11_worstOf_42 {p : Program} {l : Launch} {e : Env} {s : State} {m : MethodId} {args : Array Value} {below : List Frame} {meth : Method} {c : Code} {D : va_G} {cI : ClassId} {q : Nat → Nat} {A : Nat → Prop} {res : Int32} (C : zCX p s m args meth c cX11_worstOf 4 (some .int) zU RX11) (hE : zE D [(cI, .int)] [] A s) (K4 : (Int32 → Int32 → Int32 → zSt → Option (Int32))) (hK4 : ∀ (x1 x2 x3 : Int32) (S : zSt) (H : Heap) (locs : List Loc) (ls : Array Slot), zH D (zwM cI q) A s S H locs → lv_has ls 4 [(0, .ref (q 32)), (1, .int x1), (2, .int x2), (3, .int x3)] → K4 x1 x2 x3 S = some res → W p l e rmM_X11_worstOf s m args below meth c H locs 0 0 (zQi below D (zwM cI q) [(cI, .int)] A args s res S) (F0 m 4 ls [])) (x1 x3 : Int32) (S : zSt) (H : Heap) (locs : List Loc) (ls : Array Slot) (hH : zH D (zwM cI q) A s S H locs) (hl : lv_has ls 4 [(0, .ref (q 32)), (1, .int x1), (3, .int x3)]) (h : fM_X11_worstOf_42 K4 x1 x3 S = some res) : W p l e rmM_X11_worstOf s m args below meth c H locs 0 0 (zQi below D (zwM cI q) [(cI, .int)] A args s res S) (F0 m 42 ls []) := by
  have hx := C.1
  have hb := C.2.1
  unfold fM_X11_worstOf_42 at h
  refine lv_iload_n hx hb dX11_worstOf_42 rfl (lv_at hl 2 rfl) ?_
  refine lv_istore_n (lv' := [(2, .int x3), (0, .ref (q 32)), (1, .int x1), (3, .int x3)]) hx hb dX11_worstOf_43 rfl hl (by decide) rfl (fun ls hl => ?_)
  refine lv_iinc (v := (x3 + 1)) (lv' := [(3, .int (x3 + 1)), (2, .int x3), (0, .ref (q 32)), (1, .int x1)]) hx hb dX11_worstOf_44 hl (k := 3) rfl rfl (by decide) rfl (fun ls hl => ?_)
  refine lv_goto (tgt := 4) hx hb dX11_worstOf_47 (by decide) ?_
  exact hK4 x1 x3 (x3 + 1) S H locs ls hH (lv_sub hl [2, 3, 1, 0] rfl) h
set_option maxHeartbeats 4000000 in
set_option maxRecDepth 100000 in
theorem bM_X11_worstOf_4 {p : Program} {l : Launch} {e : Env} {s : State} {m : MethodId} {args : Array Value} {below : List Frame} {meth : Method} {c : Code} {D : va_G} {cI : ClassId} {q : Nat → Nat} {A : Nat → Prop} {res : Int32} (C : zCX p s m args meth c cX11_worstOf 4 (some .int) zU RX11) (hE : zE D [(cI, .int)] [] A s) : ∀ (n : Nat) (x1 x2 x3 : Int32) (S : zSt) (H : Heap) (locs : List Loc) (ls : Array Slot), zH D (zwM cI q) A s S H locs → lv_has ls 4 [(0, .ref (q 32)), (1, .int x1), (2, .int x2), (3, .int x3)] → fM_X11_worstOf_4  n x1 x2 x3 S = some res → W p l e rmM_X11_worstOf s m args below meth c H locs 0 0 (zQi below D (zwM cI q) [(cI, .int)] A args s res S) (F0 m 4 ls []) := by
  have hx := C.1
  have hb := C.2.1
  intro n
  induction n with
  | zero =>
    intro x1 x2 x3 S H locs ls hH hl  h
    cases h
  | succ n hK4 =>
    intro x1 x2 x3 S H locs ls hH hl  h
    rw [fM_X11_worstOf_4] at h
    refine lv_iload_n hx hb dX11_worstOf_4 rfl (lv_at hl 3 rfl) ?_
    refine lv_aload_n hx hb dX11_worstOf_5 rfl (lv_at hl 0 rfl) ?_
    refine z_get C hE hH zM_o rfl zh_X11 2 (by decide) zk17_18 (fun _ h9 => h9) (v := .int (S.1 2)) rfl dX11_worstOf_6 ?_
    refine lv_icmp_ge (tgt := 50) hx hb dX11_worstOf_9 (by decide) (fun c1 => ?_) (fun c1 => ?_)
    · replace h := zif_t c1 h
      refine lv_iload_n hx hb dX11_worstOf_50 rfl (lv_at hl 2 rfl) ?_
      cases h
      exact z_iret C hE hH dX11_worstOf_51
    · replace h := zif_f c1 h
      refine lv_iload_n hx hb dX11_worstOf_12 rfl (lv_at hl 2 rfl) ?_
      refine lv_iconst (v := (-1)) hx hb dX11_worstOf_13 (by decide) ?_
      refine lv_icmp_eq (tgt := 42) hx hb dX11_worstOf_14 (by decide) (fun c2 => ?_) (fun c2 => ?_)
      · replace h := zif_t c2 h
        exact bM_X11_worstOf_42 C hE (fM_X11_worstOf_4  n) hK4 x1 x3 S H locs ls hH (lv_sub hl [0, 1, 3] rfl) h
      · replace h := zif_f c2 h
        refine lv_aload_n hx hb dX11_worstOf_17 rfl (lv_at hl 0 rfl) ?_
        refine z_get C hE hH zM_o rfl zh_X11 11 (by decide) zk5_19 (fun _ h9 => h9) (v := .ref (q 11)) rfl dX11_worstOf_18 ?_
        refine lv_bipush (v := 6) hx hb dX11_worstOf_21 (by decide) ?_
        refine lv_iload_n hx hb dX11_worstOf_23 rfl (lv_at hl 3 rfl) ?_
        refine lv_imul hx hb dX11_worstOf_24 ?_
        refine lv_iload_n hx hb dX11_worstOf_25 rfl (lv_at hl 1 rfl) ?_
        refine lv_iadd hx hb dX11_worstOf_26 ?_
        obtain ⟨g3, h⟩ := zgd_s h
        refine z_iald C hE hH zM_a11 (t0 := 0) rfl g3 dX11_worstOf_27 ?_
        refine lv_aload_n hx hb dX11_worstOf_28 rfl (lv_at hl 0 rfl) ?_
        refine z_get C hE hH zM_o rfl zh_X11 11 (by decide) zk5_19 (fun _ h9 => h9) (v := .ref (q 11)) rfl dX11_worstOf_29 ?_
        refine lv_bipush (v := 6) hx hb dX11_worstOf_32 (by decide) ?_
        refine lv_iload_n hx hb dX11_worstOf_34 rfl (lv_at hl 2 rfl) ?_
        refine lv_imul hx hb dX11_worstOf_35 ?_
        refine lv_iload_n hx hb dX11_worstOf_36 rfl (lv_at hl 1 rfl) ?_
        refine lv_iadd hx hb dX11_worstOf_37 ?_
        obtain ⟨g4, h⟩ := zgd_s h
        refine z_iald C hE hH zM_a11 (t0 := 0) rfl g4 dX11_worstOf_38 ?_
        refine lv_icmp_le (tgt := 44) hx hb dX11_worstOf_39 (by decide) (fun c5 => ?_) (fun c5 => ?_)
        · replace h := zif_t c5 h
          refine lv_iinc (v := (x3 + 1)) (lv' := [(3, .int (x3 + 1)), (0, .ref (q 32)), (1, .int x1), (2, .int x2)]) hx hb dX11_worstOf_44 hl (k := 3) rfl rfl (by decide) rfl (fun ls hl => ?_)
          refine lv_goto (tgt := 4) hx hb dX11_worstOf_47 (by decide) ?_
          exact hK4 x1 x2 (x3 + 1) S H locs ls hH (lv_sub hl [1, 2, 3, 0] rfl) h
        · replace h := zif_f c5 h
          exact bM_X11_worstOf_42 C hE (fM_X11_worstOf_4  n) hK4 x1 x3 S H locs ls hH (lv_sub hl [0, 1, 3] rfl) h
set_option maxHeartbeats 4000000 in
set_option maxRecDepth 100000 in
theorem bM_X11_worstOf {p : Program} {l : Launch} {e : Env} {s : State} {m : MethodId} {args : Array Value} {below : List Frame} {meth : Method} {c : Code} {D : va_G} {cI : ClassId} {q : Nat → Nat} {A : Nat → Prop} {res : Int32} (C : zCX p s m args meth c cX11_worstOf 4 (some .int) zU RX11) (hE : zE D [(cI, .int)] [] A s) (x1 : Int32) (S : zSt) (H : Heap) (locs : List Loc) (ls : Array Slot) (hH : zH D (zwM cI q) A s S H locs) (hl : lv_has ls 4 [(0, .ref (q 32)), (1, .int x1)]) (h : fM_X11_worstOf  x1 S = some res) : W p l e rmM_X11_worstOf s m args below meth c H locs 0 0 (zQi below D (zwM cI q) [(cI, .int)] A args s res S) (F0 m 0 ls []) := by
  have hx := C.1
  have hb := C.2.1
  unfold fM_X11_worstOf at h
  refine lv_iconst (v := (-1)) hx hb dX11_worstOf_0 (by decide) ?_
  refine lv_istore_n (lv' := [(2, .int (-1)), (0, .ref (q 32)), (1, .int x1)]) hx hb dX11_worstOf_1 rfl hl (by decide) rfl (fun ls hl => ?_)
  refine lv_iconst (v := 0) hx hb dX11_worstOf_2 (by decide) ?_
  refine lv_istore_n (lv' := [(3, .int 0), (2, .int (-1)), (0, .ref (q 32)), (1, .int x1)]) hx hb dX11_worstOf_3 rfl hl (by decide) rfl (fun ls hl => ?_)
  exact bM_X11_worstOf_4 C hE   1000 x1 (-1) 0 S H locs ls hH (lv_sub hl [2, 3, 1, 0] rfl) h
set_option maxHeartbeats 4000000 in
set_option maxRecDepth 100000 in
theorem cM_X11_worstOf (l : Launch) (D : va_G) (cI : ClassId) (q : Nat → Nat) (sz : Nat) (x1 : Int32) (S : zSt) {res : Int32} (h : fM_X11_worstOf x1 S = some res) : zMi l yX11_worstOf vsX11_worstOf rmM_X11_worstOf [.ref (q 32), .int x1] D (zwM cI q) [(cI, .int)] [] sz S res S := by
  refine Met.ofW (cc := cX11_worstOf) (maxL := 4) (ret := (some .int)) (by decide) rfl ?_
  intro p e s m args below meth c s₁ B hml hv
  obtain ⟨rfl, rfl, hP, hK, hD0, hN⟩ := hv
  have hl := lv_entry ([.ref (q 32), .int x1]) (n := 4) (Nat.le_of_ble_eq_true rfl)
  rw [lg_entry_eq]
  generalize (lg_sl ([.ref (q 32), .int x1]) ++ List.replicate (4 - (lg_sl ([.ref (q 32), .int x1])).length) Slot.unset).toArray = ls at hl ⊢
  exact bM_X11_worstOf ⟨B.exec, B.bytes, hml, findClass_of_methodNamed B.named, fun w h => atoms_spec (ws := vsX11_worstOf) B.pre w (List.mem_cons_of_mem _ h), B.returns, B.notSynchronized⟩ ⟨hK, fun q h => Or.inr h, hN⟩ x1 S s.heap [] ls ⟨hP, hD0.self, va_S.rf⟩ hl  h
def rmM_X11_sum : Room := { frames := 5, cells := 0, slots := 0, locals := 123 }
set_option maxHeartbeats 4000000 in
set_option maxRecDepth 100000 in
theorem bM_X11_sum {p : Program} {l : Launch} {e : Env} {s : State} {m : MethodId} {args : Array Value} {below : List Frame} {meth : Method} {c : Code} {D : va_G} {cI : ClassId} {q : Nat → Nat} {A : Nat → Prop} {res : Int32 × zSt} (C : zCX p s m args meth c cX11_sum 4 (some .int) zU RX11) (hE : zE D [(cI, .int)] [] A s) (x1 x2 : Int32) (S : zSt) (H : Heap) (locs : List Loc) (ls : Array Slot) (hH : zH D (zwM cI q) A s S H locs) (hl : lv_has ls 4 [(0, .ref (q 32)), (1, .int x1), (2, .int x2)]) (h : fM_X11_sum  x1 x2 S = some res) : W p l e rmM_X11_sum s m args below meth c H locs 0 0 (zQi below D (zwM cI q) [(cI, .int)] A args s res.1 res.2) (F0 m 0 ls []) := by
  have hx := C.1
  have hb := C.2.1
  unfold fM_X11_sum at h
  refine lv_aload_n hx hb dX11_sum_0 rfl (lv_at hl 0 rfl) ?_
  refine lv_iconst (v := 0) hx hb dX11_sum_1 (by decide) ?_
  refine z_put C hE hH zM_o rfl zh_X11 tyX11_ok nmX11 7 (by decide) zk17_17 (fun _ h9 => h9) rfl (ty := .int) rfl rfl rfl (Nat.le_of_ble_eq_true rfl) zM_i7 dX11_sum_2 (fun H locs hH => ?_)
  refine lv_iload_n hx hb dX11_sum_5 rfl (lv_at hl 1 rfl) ?_
  obtain ⟨u1, e2, h⟩ := zbd_s h
  refine z_calli (va_runS (As := [.int x1]) (rest := []) (z_fix C) (cM_X11_isShelf l D cI q H.size x1 (zsI S 7 0) e2) (va_cwS 1 C.2.2.2.2.1 (zGS zk27_17 zk27_18 zk1_5 zk27_19) rfl rfl rfl yd_X11_isShelf ⟨Nat.le_of_ble_eq_true rfl, Nat.le_of_ble_eq_true rfl⟩) (z_preS zNm0 hE hH) rfl rfl hl.1 rfl (lv_room (Nat.le_of_ble_eq_true rfl)) dX11_sum_6 ⟨Nat.le_refl 0, Nat.le_refl 0⟩) hE hH (fun H locs hH => ?_)
  refine lv_if_eq (tgt := 21) hx hb dX11_sum_9 (by decide) (fun c3 => ?_) (fun c3 => ?_)
  · replace h := zif_t c3 h
    refine lv_iconst (v := (-1)) hx hb dX11_sum_21 (by decide) ?_
    cases h
    exact z_iret C hE hH dX11_sum_22
  · replace h := zif_f c3 h
    refine lv_iload_n hx hb dX11_sum_12 rfl (lv_at hl 2 rfl) ?_
    refine lv_iconst (v := 0) hx hb dX11_sum_13 (by decide) ?_
    refine lv_iconst (v := 5) hx hb dX11_sum_14 (by decide) ?_
    obtain ⟨u4, e5, h⟩ := zbd_s h
    refine z_calli (va_runS (As := [.int x2, .int 0, .int 5]) (rest := []) (z_fix C) (cM_X11_in l D cI q H.size x2 0 5 (zsI S 7 0) e5) (va_cwS 3 C.2.2.2.2.1 (zGS zk17_19 zk17_20 zk1_5 zk17_21) rfl rfl rfl yd_X11_in ⟨Nat.le_of_ble_eq_true rfl, Nat.le_of_ble_eq_true rfl⟩) (z_preS zNm0 hE hH) rfl rfl hl.1 rfl (lv_room (Nat.le_of_ble_eq_true rfl)) dX11_sum_15 ⟨Nat.le_refl 0, Nat.le_refl 0⟩) hE hH (fun H locs hH => ?_)
    refine lv_if_ne (tgt := 23) hx hb dX11_sum_18 (by decide) (fun c6 => ?_) (fun c6 => ?_)
    · replace h := zif_f c6 h
      refine lv_aload_n hx hb dX11_sum_23 rfl (lv_at hl 0 rfl) ?_
      obtain ⟨u7, e8, h⟩ := zbd_s h
      refine z_callv (va_runV (As := []) (rest := []) (z_fix C) (cM_X11_doAll l D cI q H.size  (zsI S 7 0) e8) (cwV 0 C.2.2.2.2.1 (zGV zk21_21 zk21_22 zk21_23 zk1_5 zk22_0) rfl rfl rfl yd_X11_doAll ⟨Nat.le_of_ble_eq_true rfl, Nat.le_of_ble_eq_true rfl⟩) (z_preV zNm0 hE hH zM_o rfl) rfl rfl hl.1 rfl (lv_room (Nat.le_of_ble_eq_true rfl)) dX11_sum_24 ⟨Nat.le_refl 0, Nat.le_refl 0⟩) hE hH (fun H locs hH => ?_)
      refine lv_aload_n hx hb dX11_sum_27 rfl (lv_at hl 0 rfl) ?_
      refine lv_iload_n hx hb dX11_sum_28 rfl (lv_at hl 1 rfl) ?_
      obtain ⟨u9, e10, h⟩ := zbd_s h
      refine z_calli (va_runV (As := [.int x1]) (rest := []) (z_fix C) (cM_X11_worstOf l D cI q H.size x1 u7 e10) (cwV 1 C.2.2.2.2.1 (zGV zk31_12 zk31_13 zk31_14 zk1_5 zk31_15) rfl rfl rfl yd_X11_worstOf ⟨Nat.le_of_ble_eq_true rfl, Nat.le_of_ble_eq_true rfl⟩) (z_preV zNm0 hE hH zM_o rfl) rfl rfl hl.1 rfl (lv_room (Nat.le_of_ble_eq_true rfl)) dX11_sum_29 ⟨Nat.le_refl 0, Nat.le_refl 0⟩) hE hH (fun H locs hH => ?_)
      refine lv_istore_n (lv' := [(3, .int u9), (0, .ref (q 32)), (1, .int x1), (2, .int x2)]) hx hb dX11_sum_32 rfl hl (by decide) rfl (fun ls hl => ?_)
      refine lv_iload_n hx hb dX11_sum_33 rfl (lv_at hl 3 rfl) ?_
      by_cases c11_0 : x2 = 0
      · replace h := zif_t c11_0 h
        refine lv_tableIn (tgt := 68) hx hb dX11_sum_34 (by rw [c11_0]; decide) (by rw [c11_0]; decide) (by rw [c11_0]; rfl) (by decide) ?_
        refine lv_aload_n hx hb dX11_sum_68 rfl (lv_at hl 1 rfl) ?_
        refine lv_iload_n hx hb dX11_sum_69 rfl (lv_at hl 2 rfl) ?_
        refine lv_iconst (v := 0) hx hb dX11_sum_70 (by decide) ?_
        obtain ⟨u12, e13, h⟩ := zbd_s h
        refine z_calli (va_runV (As := [.int x1, .int 0]) (rest := []) (z_fix C) (cM_X11_stepsOf l D cI q H.size x1 0 u7 e13) (cwV 2 C.2.2.2.2.1 (zGV zk31_16 zk31_17 zk31_18 zk1_5 zk31_19) rfl rfl rfl yd_X11_stepsOf ⟨Nat.le_of_ble_eq_true rfl, Nat.le_of_ble_eq_true rfl⟩) (z_preV zNm0 hE hH zM_o rfl) rfl rfl hl.1 rfl (lv_room (Nat.le_of_ble_eq_true rfl)) dX11_sum_71 ⟨Nat.le_refl 0, Nat.le_refl 0⟩) hE hH (fun H locs hH => ?_)
        cases h
        exact z_iret C hE hH dX11_sum_74
      · replace h := zif_f c11_0 h
        by_cases c11_1 : x2 = 1
        · replace h := zif_t c11_1 h
          refine lv_tableIn (tgt := 75) hx hb dX11_sum_34 (by rw [c11_1]; decide) (by rw [c11_1]; decide) (by rw [c11_1]; rfl) (by decide) ?_
          refine lv_iload_n hx hb dX11_sum_75 rfl (lv_at hl 0 rfl) ?_
          refine lv_iconst (v := (-1)) hx hb dX11_sum_76 (by decide) ?_
          refine lv_icmp_ne (tgt := 84) hx hb dX11_sum_77 (by decide) (fun c14 => ?_) (fun c14 => ?_)
          · replace h := zif_f c14 h
            refine lv_aload_n hx hb dX11_sum_84 rfl (lv_at hl 1 rfl) ?_
            refine z_get C hE hH zM_o rfl zh_X11 11 (by decide) zk5_19 (fun _ h9 => h9) (v := .ref (q 11)) rfl dX11_sum_85 ?_
            refine lv_bipush (v := 6) hx hb dX11_sum_88 (by decide) ?_
            refine lv_iload_n hx hb dX11_sum_90 rfl (lv_at hl 0 rfl) ?_
            refine lv_imul hx hb dX11_sum_91 ?_
            refine lv_iload_n hx hb dX11_sum_92 rfl (lv_at hl 2 rfl) ?_
            refine lv_iadd hx hb dX11_sum_93 ?_
            obtain ⟨g15, h⟩ := zgd_s h
            refine z_iald C hE hH zM_a11 (t0 := 0) rfl g15 dX11_sum_94 ?_
            cases h
            exact z_iret C hE hH dX11_sum_95
          · replace h := zif_t c14 h
            refine lv_iconst (v := 0) hx hb dX11_sum_80 (by decide) ?_
            refine lv_goto (tgt := 95) hx hb dX11_sum_81 (by decide) ?_
            cases h
            exact z_iret C hE hH dX11_sum_95
        · replace h := zif_f c11_1 h
          by_cases c11_2 : x2 = 2
          · replace h := zif_t c11_2 h
            refine lv_tableIn (tgt := 96) hx hb dX11_sum_34 (by rw [c11_2]; decide) (by rw [c11_2]; decide) (by rw [c11_2]; rfl) (by decide) ?_
            refine lv_iload_n hx hb dX11_sum_96 rfl (lv_at hl 0 rfl) ?_
            cases h
            exact z_iret C hE hH dX11_sum_97
          · replace h := zif_f c11_2 h
            by_cases c11_3 : x2 = 3
            · replace h := zif_t c11_3 h
              refine lv_tableIn (tgt := 98) hx hb dX11_sum_34 (by rw [c11_3]; decide) (by rw [c11_3]; decide) (by rw [c11_3]; rfl) (by decide) ?_
              refine lv_aload_n hx hb dX11_sum_98 rfl (lv_at hl 1 rfl) ?_
              refine z_get C hE hH zM_o rfl zh_X11 13 (by decide) zk5_21 (fun _ h9 => h9) (v := .ref (q 13)) rfl dX11_sum_99 ?_
              refine lv_iload_n hx hb dX11_sum_102 rfl (lv_at hl 2 rfl) ?_
              obtain ⟨g16, h⟩ := zgd_s h
              refine z_iald C hE hH zM_a13 (t0 := 0) rfl g16 dX11_sum_103 ?_
              cases h
              exact z_iret C hE hH dX11_sum_104
            · replace h := zif_f c11_3 h
              by_cases c11_4 : x2 = 4
              · replace h := zif_t c11_4 h
                refine lv_tableIn (tgt := 105) hx hb dX11_sum_34 (by rw [c11_4]; decide) (by rw [c11_4]; decide) (by rw [c11_4]; rfl) (by decide) ?_
                refine lv_aload_n hx hb dX11_sum_105 rfl (lv_at hl 1 rfl) ?_
                refine lv_iload_n hx hb dX11_sum_106 rfl (lv_at hl 2 rfl) ?_
                obtain ⟨u17, e18, h⟩ := zbd_s h
                refine z_calli (va_runV (As := [.int x1]) (rest := []) (z_fix C) (cM_X11_isOffered l D cI q H.size x1 u7 e18) (cwV 1 C.2.2.2.2.1 (zGV zk31_20 zk31_21 zk31_22 zk1_5 zk31_23) rfl rfl rfl yd_X11_isOffered ⟨Nat.le_of_ble_eq_true rfl, Nat.le_of_ble_eq_true rfl⟩) (z_preV zNm0 hE hH zM_o rfl) rfl rfl hl.1 rfl (lv_room (Nat.le_of_ble_eq_true rfl)) dX11_sum_107 ⟨Nat.le_refl 0, Nat.le_refl 0⟩) hE hH (fun H locs hH => ?_)
                refine lv_if_eq (tgt := 117) hx hb dX11_sum_110 (by decide) (fun c19 => ?_) (fun c19 => ?_)
                · replace h := zif_t c19 h
                  refine lv_iconst (v := 0) hx hb dX11_sum_117 (by decide) ?_
                  cases h
                  exact z_iret C hE hH dX11_sum_118
                · replace h := zif_f c19 h
                  refine lv_iconst (v := 1) hx hb dX11_sum_113 (by decide) ?_
                  refine lv_goto (tgt := 118) hx hb dX11_sum_114 (by decide) ?_
                  cases h
                  exact z_iret C hE hH dX11_sum_118
              · replace h := zif_f c11_4 h
                have ec11_0 : ¬ (x2).toInt = 0 := zsw_ne c11_0
                have ec11_1 : ¬ (x2).toInt = 1 := zsw_ne c11_1
                have ec11_2 : ¬ (x2).toInt = 2 := zsw_ne c11_2
                have ec11_3 : ¬ (x2).toInt = 3 := zsw_ne c11_3
                have ec11_4 : ¬ (x2).toInt = 4 := zsw_ne c11_4
                refine lv_tableOut (tgt := 119) hx hb dX11_sum_34 (by omega) (by decide) ?_
                refine lv_aload_n hx hb dX11_sum_119 rfl (lv_at hl 1 rfl) ?_
                refine z_get C hE hH zM_o rfl zh_X11 12 (by decide) zk5_20 (fun _ h9 => h9) (v := .ref (q 12)) rfl dX11_sum_120 ?_
                refine lv_iload_n hx hb dX11_sum_123 rfl (lv_at hl 2 rfl) ?_
                obtain ⟨g20, h⟩ := zgd_s h
                refine z_iald C hE hH zM_a12 (t0 := 0) rfl g20 dX11_sum_124 ?_
                cases h
                exact z_iret C hE hH dX11_sum_125
    · replace h := zif_t c6 h
      refine lv_iconst (v := (-1)) hx hb dX11_sum_21 (by decide) ?_
      cases h
      exact z_iret C hE hH dX11_sum_22
set_option maxHeartbeats 4000000 in
set_option maxRecDepth 100000 in
theorem cM_X11_sum (l : Launch) (D : va_G) (cI : ClassId) (q : Nat → Nat) (sz : Nat) (x1 : Int32) (x2 : Int32) (S : zSt) {res : Int32 × zSt} (h : fM_X11_sum x1 x2 S = some res) : zMi l yX11_sum vsX11_sum rmM_X11_sum [.ref (q 32), .int x1, .int x2] D (zwM cI q) [(cI, .int)] [] sz S res.1 res.2 := by
  refine Met.ofW (cc := cX11_sum) (maxL := 4) (ret := (some .int)) (by decide) rfl ?_
  intro p e s m args below meth c s₁ B hml hv
  obtain ⟨rfl, rfl, hP, hK, hD0, hN⟩ := hv
  have hl := lv_entry ([.ref (q 32), .int x1, .int x2]) (n := 4) (Nat.le_of_ble_eq_true rfl)
  rw [lg_entry_eq]
  generalize (lg_sl ([.ref (q 32), .int x1, .int x2]) ++ List.replicate (4 - (lg_sl ([.ref (q 32), .int x1, .int x2])).length) Slot.unset).toArray = ls at hl ⊢
  exact bM_X11_sum ⟨B.exec, B.bytes, hml, findClass_of_methodNamed B.named, fun w h => atoms_spec (ws := vsX11_sum) B.pre w (List.mem_cons_of_mem _ h), B.returns, B.notSynchronized⟩ ⟨hK, fun q h => Or.inr h, hN⟩ x1 x2 S s.heap [] ls ⟨hP, hD0.self, va_S.rf⟩ hl  h
def rmM_X11_best : Room := { frames := 5, cells := 0, slots := 0, locals := 123 }
set_option maxHeartbeats 4000000 in
set_option maxRecDepth 100000 in
theorem bM_X11_best_96 {p : Program} {l : Launch} {e : Env} {s : State} {m : MethodId} {args : Array Value} {below : List Frame} {meth : Method} {c : Code} {D : va_G} {cI : ClassId} {q : Nat → Nat} {A : Nat → Prop} {res : Int32 × zSt} (C : zCX p s m args meth c cX11_best 6 (some .int) zU RX11) (hE : zE D [(cI, .int)] [] A s) (K14 : (Int32 → Int32 → Int32 → Int32 → zSt → Option (Int32 × zSt))) (hK14 : ∀ (x1 x2 x3 x4 : Int32) (S : zSt) (H : Heap) (locs : List Loc) (ls : Array Slot), zH D (zwM cI q) A s S H locs → lv_has ls 6 [(0, .ref (q 32)), (1, .int x1), (2, .int x2), (3, .int x3), (4, .int x4)] → K14 x1 x2 x3 x4 S = some res → W p l e rmM_X11_best s m args below meth c H locs 0 0 (zQi below D (zwM cI q) [(cI, .int)] A args s res.1 res.2) (F0 m 14 ls [])) (x1 x2 x4 : Int32) (S : zSt) (H : Heap) (locs : List Loc) (ls : Array Slot) (hH : zH D (zwM cI q) A s S H locs) (hl : lv_has ls 6 [(0, .ref (q 32)), (1, .int x1), (2, .int x2), (4, .int x4)]) (h : fM_X11_best_96 K14 x1 x2 x4 S = some res) : W p l e rmM_X11_best s m args below meth c H locs 0 0 (zQi below D (zwM cI q) [(cI, .int)] A args s res.1 res.2) (F0 m 96 ls []) := by
  have hx := C.1
  have hb := C.2.1
  unfold fM_X11_best_96 at h
  refine lv_iload hx hb dX11_best_96 (lv_at hl 3 rfl) ?_
  refine lv_istore_n (lv' := [(3, .int x4), (0, .ref (q 32)), (1, .int x1), (2, .int x2), (4, .int x4)]) hx hb dX11_best_98 rfl hl (by decide) rfl (fun ls hl => ?_)
  refine lv_iinc (v := (x4 + 1)) (lv' := [(4, .int (x4 + 1)), (3, .int x4), (0, .ref (q 32)), (1, .int x1), (2, .int x2)]) hx hb dX11_best_99 hl (k := 4) rfl rfl (by decide) rfl (fun ls hl => ?_)
  refine lv_goto (tgt := 14) hx hb dX11_best_102 (by decide) ?_
  exact hK14 x1 x2 x4 (x4 + 1) S H locs ls hH (lv_sub hl [2, 3, 4, 1, 0] rfl) h
set_option maxHeartbeats 4000000 in
set_option maxRecDepth 100000 in
theorem bM_X11_best_75 {p : Program} {l : Launch} {e : Env} {s : State} {m : MethodId} {args : Array Value} {below : List Frame} {meth : Method} {c : Code} {D : va_G} {cI : ClassId} {q : Nat → Nat} {A : Nat → Prop} {res : Int32 × zSt} (C : zCX p s m args meth c cX11_best 6 (some .int) zU RX11) (hE : zE D [(cI, .int)] [] A s) (K14 : (Int32 → Int32 → Int32 → Int32 → zSt → Option (Int32 × zSt))) (hK14 : ∀ (x1 x2 x3 x4 : Int32) (S : zSt) (H : Heap) (locs : List Loc) (ls : Array Slot), zH D (zwM cI q) A s S H locs → lv_has ls 6 [(0, .ref (q 32)), (1, .int x1), (2, .int x2), (3, .int x3), (4, .int x4)] → K14 x1 x2 x3 x4 S = some res → W p l e rmM_X11_best s m args below meth c H locs 0 0 (zQi below D (zwM cI q) [(cI, .int)] A args s res.1 res.2) (F0 m 14 ls [])) (x1 x2 x3 x4 : Int32) (S : zSt) (H : Heap) (locs : List Loc) (ls : Array Slot) (hH : zH D (zwM cI q) A s S H locs) (hl : lv_has ls 6 [(0, .ref (q 32)), (1, .int x1), (2, .int x2), (3, .int x3), (4, .int x4)]) (h : fM_X11_best_75 K14 x1 x2 x3 x4 S = some res) : W p l e rmM_X11_best s m args below meth c H locs 0 0 (zQi below D (zwM cI q) [(cI, .int)] A args s res.1 res.2) (F0 m 75 ls []) := by
  have hx := C.1
  have hb := C.2.1
  unfold fM_X11_best_75 at h
  refine lv_iload_n hx hb dX11_best_75 rfl (lv_at hl 3 rfl) ?_
  refine lv_iconst (v := (-1)) hx hb dX11_best_76 (by decide) ?_
  refine lv_icmp_eq (tgt := 96) hx hb dX11_best_77 (by decide) (fun c1 => ?_) (fun c1 => ?_)
  · replace h := zif_t c1 h
    exact bM_X11_best_96 C hE K14 hK14 x1 x2 x4 S H locs ls hH (lv_sub hl [0, 1, 2, 4] rfl) h
  · replace h := zif_f c1 h
    refine lv_aload_n hx hb dX11_best_80 rfl (lv_at hl 0 rfl) ?_
    refine lv_iload hx hb dX11_best_81 (lv_at hl 4 rfl) ?_
    refine lv_iconst (v := 0) hx hb dX11_best_83 (by decide) ?_
    obtain ⟨u2, e3, h⟩ := zbd_s h
    refine z_calli (va_runV (As := [.int x4, .int 0]) (rest := []) (z_fix C) (cM_X11_stepsOf l D cI q H.size x4 0 S e3) (cwV 2 C.2.2.2.2.1 (zGV zk31_16 zk31_17 zk31_18 zk1_5 zk31_19) rfl rfl rfl yd_X11_stepsOf ⟨Nat.le_of_ble_eq_true rfl, Nat.le_of_ble_eq_true rfl⟩) (z_preV zNm0 hE hH zM_o rfl) rfl rfl hl.1 rfl (lv_room (Nat.le_of_ble_eq_true rfl)) dX11_best_84 ⟨Nat.le_refl 0, Nat.le_refl 0⟩) hE hH (fun H locs hH => ?_)
    refine lv_aload_n hx hb dX11_best_87 rfl (lv_at hl 0 rfl) ?_
    refine lv_iload_n hx hb dX11_best_88 rfl (lv_at hl 3 rfl) ?_
    refine lv_iconst (v := 0) hx hb dX11_best_89 (by decide) ?_
    obtain ⟨u4, e5, h⟩ := zbd_s h
    refine z_calli (va_runV (As := [.int x3, .int 0]) (rest := [.int u2]) (z_fix C) (cM_X11_stepsOf l D cI q H.size x3 0 S e5) (cwV 2 C.2.2.2.2.1 (zGV zk31_16 zk31_17 zk31_18 zk1_5 zk31_19) rfl rfl rfl yd_X11_stepsOf ⟨Nat.le_of_ble_eq_true rfl, Nat.le_of_ble_eq_true rfl⟩) (z_preV zNm0 hE hH zM_o rfl) rfl rfl hl.1 rfl (lv_room (Nat.le_of_ble_eq_true rfl)) dX11_best_90 ⟨Nat.le_refl 0, Nat.le_refl 0⟩) hE hH (fun H locs hH => ?_)
    refine lv_icmp_ge (tgt := 99) hx hb dX11_best_93 (by decide) (fun c6 => ?_) (fun c6 => ?_)
    · replace h := zif_t c6 h
      refine lv_iinc (v := (x4 + 1)) (lv' := [(4, .int (x4 + 1)), (0, .ref (q 32)), (1, .int x1), (2, .int x2), (3, .int x3)]) hx hb dX11_best_99 hl (k := 4) rfl rfl (by decide) rfl (fun ls hl => ?_)
      refine lv_goto (tgt := 14) hx hb dX11_best_102 (by decide) ?_
      exact hK14 x1 x2 x3 (x4 + 1) S H locs ls hH (lv_sub hl [1, 2, 3, 4, 0] rfl) h
    · replace h := zif_f c6 h
      exact bM_X11_best_96 C hE K14 hK14 x1 x2 x4 S H locs ls hH (lv_sub hl [0, 1, 2, 4] rfl) h
set_option maxHeartbeats 4000000 in
set_option maxRecDepth 100000 in
theorem bM_X11_best_14 {p : Program} {l : Launch} {e : Env} {s : State} {m : MethodId} {args : Array Value} {below : List Frame} {meth : Method} {c : Code} {D : va_G} {cI : ClassId} {q : Nat → Nat} {A : Nat → Prop} {res : Int32 × zSt} (C : zCX p s m args meth c cX11_best 6 (some .int) zU RX11) (hE : zE D [(cI, .int)] [] A s) : ∀ (n : Nat) (x1 x2 x3 x4 : Int32) (S : zSt) (H : Heap) (locs : List Loc) (ls : Array Slot), zH D (zwM cI q) A s S H locs → lv_has ls 6 [(0, .ref (q 32)), (1, .int x1), (2, .int x2), (3, .int x3), (4, .int x4)] → fM_X11_best_14  n x1 x2 x3 x4 S = some res → W p l e rmM_X11_best s m args below meth c H locs 0 0 (zQi below D (zwM cI q) [(cI, .int)] A args s res.1 res.2) (F0 m 14 ls []) := by
  have hx := C.1
  have hb := C.2.1
  intro n
  induction n with
  | zero =>
    intro x1 x2 x3 x4 S H locs ls hH hl  h
    cases h
  | succ n hK14 =>
    intro x1 x2 x3 x4 S H locs ls hH hl  h
    rw [fM_X11_best_14] at h
    refine lv_iload hx hb dX11_best_14 (lv_at hl 4 rfl) ?_
    refine lv_bipush (v := 6) hx hb dX11_best_16 (by decide) ?_
    refine lv_icmp_ge (tgt := 105) hx hb dX11_best_18 (by decide) (fun c1 => ?_) (fun c1 => ?_)
    · replace h := zif_t c1 h
      refine lv_iload_n hx hb dX11_best_105 rfl (lv_at hl 3 rfl) ?_
      cases h
      exact z_iret C hE hH dX11_best_106
    · replace h := zif_f c1 h
      refine lv_aload_n hx hb dX11_best_21 rfl (lv_at hl 0 rfl) ?_
      refine lv_iload hx hb dX11_best_22 (lv_at hl 4 rfl) ?_
      obtain ⟨u2, e3, h⟩ := zbd_s h
      refine z_calli (va_runV (As := [.int x4]) (rest := []) (z_fix C) (cM_X11_worstOf l D cI q H.size x4 S e3) (cwV 1 C.2.2.2.2.1 (zGV zk31_12 zk31_13 zk31_14 zk1_5 zk31_15) rfl rfl rfl yd_X11_worstOf ⟨Nat.le_of_ble_eq_true rfl, Nat.le_of_ble_eq_true rfl⟩) (z_preV zNm0 hE hH zM_o rfl) rfl rfl hl.1 rfl (lv_room (Nat.le_of_ble_eq_true rfl)) dX11_best_24 ⟨Nat.le_refl 0, Nat.le_refl 0⟩) hE hH (fun H locs hH => ?_)
      refine lv_istore (lv' := [(5, .int u2), (0, .ref (q 32)), (1, .int x1), (2, .int x2), (3, .int x3), (4, .int x4)]) hx hb dX11_best_27 hl (by decide) rfl (fun ls hl => ?_)
      refine lv_aload_n hx hb dX11_best_29 rfl (lv_at hl 1 rfl) ?_
      refine lv_iload hx hb dX11_best_30 (lv_at hl 5 rfl) ?_
      obtain ⟨u4, e5, h⟩ := zbd_s h
      refine z_calli (va_runV (As := [.int x4]) (rest := []) (z_fix C) (cM_X11_isOffered l D cI q H.size x4 S e5) (cwV 1 C.2.2.2.2.1 (zGV zk31_20 zk31_21 zk31_22 zk1_5 zk31_23) rfl rfl rfl yd_X11_isOffered ⟨Nat.le_of_ble_eq_true rfl, Nat.le_of_ble_eq_true rfl⟩) (z_preV zNm0 hE hH zM_o rfl) rfl rfl hl.1 rfl (lv_room (Nat.le_of_ble_eq_true rfl)) dX11_best_32 ⟨Nat.le_refl 0, Nat.le_refl 0⟩) hE hH (fun H locs hH => ?_)
      refine lv_if_eq (tgt := 99) hx hb dX11_best_35 (by decide) (fun c6 => ?_) (fun c6 => ?_)
      · replace h := zif_t c6 h
        refine lv_iinc (v := (x4 + 1)) (lv' := [(4, .int (x4 + 1)), (5, .int u2), (0, .ref (q 32)), (1, .int x1), (2, .int x2), (3, .int x3)]) hx hb dX11_best_99 hl (k := 5) rfl rfl (by decide) rfl (fun ls hl => ?_)
        refine lv_goto (tgt := 14) hx hb dX11_best_102 (by decide) ?_
        exact hK14 x1 x2 x3 (x4 + 1) S H locs ls hH (lv_sub hl [2, 3, 4, 5, 0] rfl) h
      · replace h := zif_f c6 h
        refine lv_aload_n hx hb dX11_best_38 rfl (lv_at hl 1 rfl) ?_
        refine z_get C hE hH zM_o rfl zh_X11 13 (by decide) zk5_21 (fun _ h9 => h9) (v := .ref (q 13)) rfl dX11_best_39 ?_
        refine lv_iload hx hb dX11_best_42 (lv_at hl 5 rfl) ?_
        obtain ⟨g7, h⟩ := zgd_s h
        refine z_iald C hE hH zM_a13 (t0 := 0) rfl g7 dX11_best_44 ?_
        refine lv_iload_n hx hb dX11_best_45 rfl (lv_at hl 3 rfl) ?_
        refine lv_icmp_gt (tgt := 99) hx hb dX11_best_46 (by decide) (fun c8 => ?_) (fun c8 => ?_)
        · replace h := zif_t c8 h
          refine lv_iinc (v := (x4 + 1)) (lv' := [(4, .int (x4 + 1)), (5, .int u2), (0, .ref (q 32)), (1, .int x1), (2, .int x2), (3, .int x3)]) hx hb dX11_best_99 hl (k := 5) rfl rfl (by decide) rfl (fun ls hl => ?_)
          refine lv_goto (tgt := 14) hx hb dX11_best_102 (by decide) ?_
          exact hK14 x1 x2 x3 (x4 + 1) S H locs ls hH (lv_sub hl [2, 3, 4, 5, 0] rfl) h
        · replace h := zif_f c8 h
          refine lv_iload hx hb dX11_best_49 (lv_at hl 0 rfl) ?_
          refine lv_iconst (v := (-1)) hx hb dX11_best_51 (by decide) ?_
          refine lv_icmp_eq (tgt := 75) hx hb dX11_best_52 (by decide) (fun c9 => ?_) (fun c9 => ?_)
          · replace h := zif_t c9 h
            exact bM_X11_best_75 C hE (fM_X11_best_14  n) hK14 x1 x2 x3 x4 S H locs ls hH (lv_sub hl [1, 2, 3, 4, 5] rfl) h
          · replace h := zif_f c9 h
            refine lv_aload_n hx hb dX11_best_55 rfl (lv_at hl 1 rfl) ?_
            refine z_get C hE hH zM_o rfl zh_X11 11 (by decide) zk5_19 (fun _ h9 => h9) (v := .ref (q 11)) rfl dX11_best_56 ?_
            refine lv_bipush (v := 6) hx hb dX11_best_59 (by decide) ?_
            refine lv_iload hx hb dX11_best_61 (lv_at hl 0 rfl) ?_
            refine lv_imul hx hb dX11_best_63 ?_
            refine lv_iload hx hb dX11_best_64 (lv_at hl 5 rfl) ?_
            refine lv_iadd hx hb dX11_best_66 ?_
            obtain ⟨g10, h⟩ := zgd_s h
            refine z_iald C hE hH zM_a11 (t0 := 0) rfl g10 dX11_best_67 ?_
            refine lv_iload_n hx hb dX11_best_68 rfl (lv_at hl 2 rfl) ?_
            refine lv_icmp_le (tgt := 75) hx hb dX11_best_69 (by decide) (fun c11 => ?_) (fun c11 => ?_)
            · replace h := zif_t c11 h
              exact bM_X11_best_75 C hE (fM_X11_best_14  n) hK14 x1 x2 x3 x4 S H locs ls hH (lv_sub hl [1, 2, 3, 4, 5] rfl) h
            · replace h := zif_f c11 h
              refine lv_goto (tgt := 99) hx hb dX11_best_72 (by decide) ?_
              refine lv_iinc (v := (x4 + 1)) (lv' := [(4, .int (x4 + 1)), (5, .int u2), (0, .ref (q 32)), (1, .int x1), (2, .int x2), (3, .int x3)]) hx hb dX11_best_99 hl (k := 5) rfl rfl (by decide) rfl (fun ls hl => ?_)
              refine lv_goto (tgt := 14) hx hb dX11_best_102 (by decide) ?_
              exact hK14 x1 x2 x3 (x4 + 1) S H locs ls hH (lv_sub hl [2, 3, 4, 5, 0] rfl) h
set_option maxHeartbeats 4000000 in
set_option maxRecDepth 100000 in
theorem bM_X11_best {p : Program} {l : Launch} {e : Env} {s : State} {m : MethodId} {args : Array Value} {below : List Frame} {meth : Method} {c : Code} {D : va_G} {cI : ClassId} {q : Nat → Nat} {A : Nat → Prop} {res : Int32 × zSt} (C : zCX p s m args meth c cX11_best 6 (some .int) zU RX11) (hE : zE D [(cI, .int)] [] A s) (x1 x2 : Int32) (S : zSt) (H : Heap) (locs : List Loc) (ls : Array Slot) (hH : zH D (zwM cI q) A s S H locs) (hl : lv_has ls 6 [(0, .ref (q 32)), (1, .int x1), (2, .int x2)]) (h : fM_X11_best  x1 x2 S = some res) : W p l e rmM_X11_best s m args below meth c H locs 0 0 (zQi below D (zwM cI q) [(cI, .int)] A args s res.1 res.2) (F0 m 0 ls []) := by
  have hx := C.1
  have hb := C.2.1
  unfold fM_X11_best at h
  refine lv_aload_n hx hb dX11_best_0 rfl (lv_at hl 0 rfl) ?_
  refine lv_iconst (v := 0) hx hb dX11_best_1 (by decide) ?_
  refine z_put C hE hH zM_o rfl zh_X11 tyX11_ok nmX11 7 (by decide) zk17_17 (fun _ h9 => h9) rfl (ty := .int) rfl rfl rfl (Nat.le_of_ble_eq_true rfl) zM_i7 dX11_best_2 (fun H locs hH => ?_)
  refine lv_aload_n hx hb dX11_best_5 rfl (lv_at hl 0 rfl) ?_
  obtain ⟨u1, e2, h⟩ := zbd_s h
  refine z_callv (va_runV (As := []) (rest := []) (z_fix C) (cM_X11_doAll l D cI q H.size  (zsI S 7 0) e2) (cwV 0 C.2.2.2.2.1 (zGV zk21_21 zk21_22 zk21_23 zk1_5 zk22_0) rfl rfl rfl yd_X11_doAll ⟨Nat.le_of_ble_eq_true rfl, Nat.le_of_ble_eq_true rfl⟩) (z_preV zNm0 hE hH zM_o rfl) rfl rfl hl.1 rfl (lv_room (Nat.le_of_ble_eq_true rfl)) dX11_best_6 ⟨Nat.le_refl 0, Nat.le_refl 0⟩) hE hH (fun H locs hH => ?_)
  refine lv_iconst (v := (-1)) hx hb dX11_best_9 (by decide) ?_
  refine lv_istore_n (lv' := [(3, .int (-1)), (0, .ref (q 32)), (1, .int x1), (2, .int x2)]) hx hb dX11_best_10 rfl hl (by decide) rfl (fun ls hl => ?_)
  refine lv_iconst (v := 0) hx hb dX11_best_11 (by decide) ?_
  refine lv_istore (lv' := [(4, .int 0), (3, .int (-1)), (0, .ref (q 32)), (1, .int x1), (2, .int x2)]) hx hb dX11_best_12 hl (by decide) rfl (fun ls hl => ?_)
  exact bM_X11_best_14 C hE   1000 x1 x2 (-1) 0 u1 H locs ls hH (lv_sub hl [2, 3, 4, 1, 0] rfl) h
set_option maxHeartbeats 4000000 in
set_option maxRecDepth 100000 in
theorem cM_X11_best (l : Launch) (D : va_G) (cI : ClassId) (q : Nat → Nat) (sz : Nat) (x1 : Int32) (x2 : Int32) (S : zSt) {res : Int32 × zSt} (h : fM_X11_best x1 x2 S = some res) : zMi l yX11_best vsX11_best rmM_X11_best [.ref (q 32), .int x1, .int x2] D (zwM cI q) [(cI, .int)] [] sz S res.1 res.2 := by
  refine Met.ofW (cc := cX11_best) (maxL := 6) (ret := (some .int)) (by decide) rfl ?_
  intro p e s m args below meth c s₁ B hml hv
  obtain ⟨rfl, rfl, hP, hK, hD0, hN⟩ := hv
  have hl := lv_entry ([.ref (q 32), .int x1, .int x2]) (n := 6) (Nat.le_of_ble_eq_true rfl)
  rw [lg_entry_eq]
  generalize (lg_sl ([.ref (q 32), .int x1, .int x2]) ++ List.replicate (6 - (lg_sl ([.ref (q 32), .int x1, .int x2])).length) Slot.unset).toArray = ls at hl ⊢
  exact bM_X11_best ⟨B.exec, B.bytes, hml, findClass_of_methodNamed B.named, fun w h => atoms_spec (ws := vsX11_best) B.pre w (List.mem_cons_of_mem _ h), B.returns, B.notSynchronized⟩ ⟨hK, fun q h => Or.inr h, hN⟩ x1 x2 S s.heap [] ls ⟨hP, hD0.self, va_S.rf⟩ hl  h
def rmM_X11_drift : Room := { frames := 5, cells := 0, slots := 0, locals := 123 }
set_option maxHeartbeats 4000000 in
set_option maxRecDepth 100000 in
theorem bM_X11_drift_94 {p : Program} {l : Launch} {e : Env} {s : State} {m : MethodId} {args : Array Value} {below : List Frame} {meth : Method} {c : Code} {D : va_G} {cI : ClassId} {q : Nat → Nat} {A : Nat → Prop} {res : Int32 × zSt} (C : zCX p s m args meth c cX11_drift 6 (some .int) zU RX11) (hE : zE D [(cI, .int)] [] A s) (K45 : (Int32 → Int32 → Int32 → Int32 → Int32 → zSt → Option (Int32 × zSt))) (hK45 : ∀ (x1 x2 x3 x4 x5 : Int32) (S : zSt) (H : Heap) (locs : List Loc) (ls : Array Slot), zH D (zwM cI q) A s S H locs → lv_has ls 6 [(0, .ref (q 32)), (1, .int x1), (2, .int x2), (3, .int x3), (4, .int x4), (5, .int x5)] → K45 x1 x2 x3 x4 x5 S = some res → W p l e rmM_X11_drift s m args below meth c H locs 0 0 (zQi below D (zwM cI q) [(cI, .int)] A args s res.1 res.2) (F0 m 45 ls [])) (x1 x2 x3 x5 : Int32) (S : zSt) (H : Heap) (locs : List Loc) (ls : Array Slot) (hH : zH D (zwM cI q) A s S H locs) (hl : lv_has ls 6 [(0, .ref (q 32)), (1, .int x1), (2, .int x2), (3, .int x3), (5, .int x5)]) (h : fM_X11_drift_94 K45 x1 x2 x3 x5 S = some res) : W p l e rmM_X11_drift s m args below meth c H locs 0 0 (zQi below D (zwM cI q) [(cI, .int)] A args s res.1 res.2) (F0 m 94 ls []) := by
  have hx := C.1
  have hb := C.2.1
  unfold fM_X11_drift_94 at h
  refine lv_iload hx hb dX11_drift_94 (lv_at hl 4 rfl) ?_
  refine lv_istore (lv' := [(4, .int x5), (0, .ref (q 32)), (1, .int x1), (2, .int x2), (3, .int x3), (5, .int x5)]) hx hb dX11_drift_96 hl (by decide) rfl (fun ls hl => ?_)
  refine lv_iinc (v := (x5 + 1)) (lv' := [(5, .int (x5 + 1)), (4, .int x5), (0, .ref (q 32)), (1, .int x1), (2, .int x2), (3, .int x3)]) hx hb dX11_drift_98 hl (k := 5) rfl rfl (by decide) rfl (fun ls hl => ?_)
  refine lv_goto (tgt := 45) hx hb dX11_drift_101 (by decide) ?_
  exact hK45 x1 x2 x3 x5 (x5 + 1) S H locs ls hH (lv_sub hl [2, 3, 4, 5, 1, 0] rfl) h
set_option maxHeartbeats 4000000 in
set_option maxRecDepth 100000 in
theorem bM_X11_drift_45 {p : Program} {l : Launch} {e : Env} {s : State} {m : MethodId} {args : Array Value} {below : List Frame} {meth : Method} {c : Code} {D : va_G} {cI : ClassId} {q : Nat → Nat} {A : Nat → Prop} {res : Int32 × zSt} (C : zCX p s m args meth c cX11_drift 6 (some .int) zU RX11) (hE : zE D [(cI, .int)] [] A s) : ∀ (n : Nat) (x1 x2 x3 x4 x5 : Int32) (S : zSt) (H : Heap) (locs : List Loc) (ls : Array Slot), zH D (zwM cI q) A s S H locs → lv_has ls 6 [(0, .ref (q 32)), (1, .int x1), (2, .int x2), (3, .int x3), (4, .int x4), (5, .int x5)] → fM_X11_drift_45  n x1 x2 x3 x4 x5 S = some res → W p l e rmM_X11_drift s m args below meth c H locs 0 0 (zQi below D (zwM cI q) [(cI, .int)] A args s res.1 res.2) (F0 m 45 ls []) := by
  have hx := C.1
  have hb := C.2.1
  intro n
  induction n with
  | zero =>
    intro x1 x2 x3 x4 x5 S H locs ls hH hl  h
    cases h
  | succ n hK45 =>
    intro x1 x2 x3 x4 x5 S H locs ls hH hl  h
    rw [fM_X11_drift_45] at h
    refine lv_iload hx hb dX11_drift_45 (lv_at hl 5 rfl) ?_
    refine lv_bipush (v := 6) hx hb dX11_drift_47 (by decide) ?_
    refine lv_icmp_ge (tgt := 104) hx hb dX11_drift_49 (by decide) (fun c1 => ?_) (fun c1 => ?_)
    · replace h := zif_t c1 h
      refine lv_iload hx hb dX11_drift_104 (lv_at hl 4 rfl) ?_
      refine lv_iconst (v := (-1)) hx hb dX11_drift_106 (by decide) ?_
      refine lv_icmp_eq (tgt := 114) hx hb dX11_drift_107 (by decide) (fun c2 => ?_) (fun c2 => ?_)
      · replace h := zif_t c2 h
        refine lv_iload hx hb dX11_drift_114 (lv_at hl 4 rfl) ?_
        cases h
        exact z_iret C hE hH dX11_drift_116
      · replace h := zif_f c2 h
        refine lv_iload_n hx hb dX11_drift_110 rfl (lv_at hl 3 rfl) ?_
        refine lv_if_ne (tgt := 117) hx hb dX11_drift_111 (by decide) (fun c3 => ?_) (fun c3 => ?_)
        · replace h := zif_f c3 h
          refine lv_aload_n hx hb dX11_drift_117 rfl (lv_at hl 0 rfl) ?_
          refine lv_iload_n hx hb dX11_drift_118 rfl (lv_at hl 1 rfl) ?_
          refine lv_aload_n hx hb dX11_drift_119 rfl (lv_at hl 0 rfl) ?_
          refine z_get C hE hH zM_o rfl zh_X11 2 (by decide) zk17_18 (fun _ h9 => h9) (v := .int (S.1 2)) rfl dX11_drift_120 ?_
          refine lv_iload_n hx hb dX11_drift_123 rfl (lv_at hl 2 rfl) ?_
          refine lv_isub hx hb dX11_drift_124 ?_
          obtain ⟨u4, e5, h⟩ := zbd_s h
          refine z_calli (va_runV (As := [.int x1, .int ((S.1 2) - x2)]) (rest := []) (z_fix C) (cM_X11_stepsOf l D cI q H.size x1 ((S.1 2) - x2) S e5) (cwV 2 C.2.2.2.2.1 (zGV zk31_16 zk31_17 zk31_18 zk1_5 zk31_19) rfl rfl rfl yd_X11_stepsOf ⟨Nat.le_of_ble_eq_true rfl, Nat.le_of_ble_eq_true rfl⟩) (z_preV zNm0 hE hH zM_o rfl) rfl rfl hl.1 rfl (lv_room (Nat.le_of_ble_eq_true rfl)) dX11_drift_125 ⟨Nat.le_refl 0, Nat.le_refl 0⟩) hE hH (fun H locs hH => ?_)
          refine lv_istore (lv' := [(5, .int u4), (0, .ref (q 32)), (1, .int x1), (2, .int x2), (3, .int x3), (4, .int x4)]) hx hb dX11_drift_128 hl (by decide) rfl (fun ls hl => ?_)
          refine lv_iload hx hb dX11_drift_130 (lv_at hl 0 rfl) ?_
          refine lv_if_ne (tgt := 139) hx hb dX11_drift_132 (by decide) (fun c6 => ?_) (fun c6 => ?_)
          · replace h := zif_f c6 h
            refine lv_iload hx hb dX11_drift_139 (lv_at hl 0 rfl) ?_
            refine lv_aload_n hx hb dX11_drift_141 rfl (lv_at hl 1 rfl) ?_
            refine lv_iload hx hb dX11_drift_142 (lv_at hl 5 rfl) ?_
            refine lv_aload_n hx hb dX11_drift_144 rfl (lv_at hl 1 rfl) ?_
            refine z_get C hE hH zM_o rfl zh_X11 2 (by decide) zk17_18 (fun _ h9 => h9) (v := .int (S.1 2)) rfl dX11_drift_145 ?_
            refine lv_iload_n hx hb dX11_drift_148 rfl (lv_at hl 3 rfl) ?_
            refine lv_isub hx hb dX11_drift_149 ?_
            obtain ⟨u7, e8, h⟩ := zbd_s h
            refine z_calli (va_runV (As := [.int x4, .int ((S.1 2) - x2)]) (rest := [.int u4]) (z_fix C) (cM_X11_stepsOf l D cI q H.size x4 ((S.1 2) - x2) S e8) (cwV 2 C.2.2.2.2.1 (zGV zk31_16 zk31_17 zk31_18 zk1_5 zk31_19) rfl rfl rfl yd_X11_stepsOf ⟨Nat.le_of_ble_eq_true rfl, Nat.le_of_ble_eq_true rfl⟩) (z_preV zNm0 hE hH zM_o rfl) rfl rfl hl.1 rfl (lv_room (Nat.le_of_ble_eq_true rfl)) dX11_drift_150 ⟨Nat.le_refl 0, Nat.le_refl 0⟩) hE hH (fun H locs hH => ?_)
            refine lv_isub hx hb dX11_drift_153 ?_
            refine lv_bipush (v := 100) hx hb dX11_drift_154 (by decide) ?_
            refine lv_imul hx hb dX11_drift_156 ?_
            refine lv_iload hx hb dX11_drift_157 (lv_at hl 0 rfl) ?_
            obtain ⟨g9, h⟩ := zgd_s h
            refine lv_idiv hx hb dX11_drift_159 (znz_v g9) ?_
            cases h
            exact z_iret C hE hH dX11_drift_160
          · replace h := zif_t c6 h
            refine lv_iconst (v := 0) hx hb dX11_drift_135 (by decide) ?_
            refine lv_goto (tgt := 160) hx hb dX11_drift_136 (by decide) ?_
            cases h
            exact z_iret C hE hH dX11_drift_160
        · replace h := zif_t c3 h
          refine lv_iload hx hb dX11_drift_114 (lv_at hl 4 rfl) ?_
          cases h
          exact z_iret C hE hH dX11_drift_116
    · replace h := zif_f c1 h
      refine lv_aload_n hx hb dX11_drift_52 rfl (lv_at hl 0 rfl) ?_
      refine lv_iload hx hb dX11_drift_53 (lv_at hl 5 rfl) ?_
      obtain ⟨u10, e11, h⟩ := zbd_s h
      refine z_calli (va_runV (As := [.int x5]) (rest := []) (z_fix C) (cM_X11_isOffered l D cI q H.size x5 S e11) (cwV 1 C.2.2.2.2.1 (zGV zk31_20 zk31_21 zk31_22 zk1_5 zk31_23) rfl rfl rfl yd_X11_isOffered ⟨Nat.le_of_ble_eq_true rfl, Nat.le_of_ble_eq_true rfl⟩) (z_preV zNm0 hE hH zM_o rfl) rfl rfl hl.1 rfl (lv_room (Nat.le_of_ble_eq_true rfl)) dX11_drift_55 ⟨Nat.le_refl 0, Nat.le_refl 0⟩) hE hH (fun H locs hH => ?_)
      refine lv_if_eq (tgt := 98) hx hb dX11_drift_58 (by decide) (fun c12 => ?_) (fun c12 => ?_)
      · replace h := zif_t c12 h
        refine lv_iinc (v := (x5 + 1)) (lv' := [(5, .int (x5 + 1)), (0, .ref (q 32)), (1, .int x1), (2, .int x2), (3, .int x3), (4, .int x4)]) hx hb dX11_drift_98 hl (k := 5) rfl rfl (by decide) rfl (fun ls hl => ?_)
        refine lv_goto (tgt := 45) hx hb dX11_drift_101 (by decide) ?_
        exact hK45 x1 x2 x3 x4 (x5 + 1) S H locs ls hH (lv_sub hl [1, 2, 3, 4, 5, 0] rfl) h
      · replace h := zif_f c12 h
        refine lv_iload hx hb dX11_drift_61 (lv_at hl 4 rfl) ?_
        refine lv_iconst (v := (-1)) hx hb dX11_drift_63 (by decide) ?_
        refine lv_icmp_eq (tgt := 94) hx hb dX11_drift_64 (by decide) (fun c13 => ?_) (fun c13 => ?_)
        · replace h := zif_t c13 h
          exact bM_X11_drift_94 C hE (fM_X11_drift_45  n) hK45 x1 x2 x3 x5 S H locs ls hH (lv_sub hl [0, 1, 2, 3, 5] rfl) h
        · replace h := zif_f c13 h
          refine lv_aload_n hx hb dX11_drift_67 rfl (lv_at hl 0 rfl) ?_
          refine lv_iload hx hb dX11_drift_68 (lv_at hl 5 rfl) ?_
          refine lv_aload_n hx hb dX11_drift_70 rfl (lv_at hl 0 rfl) ?_
          refine z_get C hE hH zM_o rfl zh_X11 2 (by decide) zk17_18 (fun _ h9 => h9) (v := .int (S.1 2)) rfl dX11_drift_71 ?_
          refine lv_iload_n hx hb dX11_drift_74 rfl (lv_at hl 2 rfl) ?_
          refine lv_isub hx hb dX11_drift_75 ?_
          obtain ⟨u14, e15, h⟩ := zbd_s h
          refine z_calli (va_runV (As := [.int x5, .int ((S.1 2) - x2)]) (rest := []) (z_fix C) (cM_X11_stepsOf l D cI q H.size x5 ((S.1 2) - x2) S e15) (cwV 2 C.2.2.2.2.1 (zGV zk31_16 zk31_17 zk31_18 zk1_5 zk31_19) rfl rfl rfl yd_X11_stepsOf ⟨Nat.le_of_ble_eq_true rfl, Nat.le_of_ble_eq_true rfl⟩) (z_preV zNm0 hE hH zM_o rfl) rfl rfl hl.1 rfl (lv_room (Nat.le_of_ble_eq_true rfl)) dX11_drift_76 ⟨Nat.le_refl 0, Nat.le_refl 0⟩) hE hH (fun H locs hH => ?_)
          refine lv_aload_n hx hb dX11_drift_79 rfl (lv_at hl 0 rfl) ?_
          refine lv_iload hx hb dX11_drift_80 (lv_at hl 4 rfl) ?_
          refine lv_aload_n hx hb dX11_drift_82 rfl (lv_at hl 0 rfl) ?_
          refine z_get C hE hH zM_o rfl zh_X11 2 (by decide) zk17_18 (fun _ h9 => h9) (v := .int (S.1 2)) rfl dX11_drift_83 ?_
          refine lv_iload_n hx hb dX11_drift_86 rfl (lv_at hl 2 rfl) ?_
          refine lv_isub hx hb dX11_drift_87 ?_
          obtain ⟨u16, e17, h⟩ := zbd_s h
          refine z_calli (va_runV (As := [.int x4, .int ((S.1 2) - x2)]) (rest := [.int u14]) (z_fix C) (cM_X11_stepsOf l D cI q H.size x4 ((S.1 2) - x2) S e17) (cwV 2 C.2.2.2.2.1 (zGV zk31_16 zk31_17 zk31_18 zk1_5 zk31_19) rfl rfl rfl yd_X11_stepsOf ⟨Nat.le_of_ble_eq_true rfl, Nat.le_of_ble_eq_true rfl⟩) (z_preV zNm0 hE hH zM_o rfl) rfl rfl hl.1 rfl (lv_room (Nat.le_of_ble_eq_true rfl)) dX11_drift_88 ⟨Nat.le_refl 0, Nat.le_refl 0⟩) hE hH (fun H locs hH => ?_)
          refine lv_icmp_ge (tgt := 98) hx hb dX11_drift_91 (by decide) (fun c18 => ?_) (fun c18 => ?_)
          · replace h := zif_t c18 h
            refine lv_iinc (v := (x5 + 1)) (lv' := [(5, .int (x5 + 1)), (0, .ref (q 32)), (1, .int x1), (2, .int x2), (3, .int x3), (4, .int x4)]) hx hb dX11_drift_98 hl (k := 5) rfl rfl (by decide) rfl (fun ls hl => ?_)
            refine lv_goto (tgt := 45) hx hb dX11_drift_101 (by decide) ?_
            exact hK45 x1 x2 x3 x4 (x5 + 1) S H locs ls hH (lv_sub hl [1, 2, 3, 4, 5, 0] rfl) h
          · replace h := zif_f c18 h
            exact bM_X11_drift_94 C hE (fM_X11_drift_45  n) hK45 x1 x2 x3 x5 S H locs ls hH (lv_sub hl [0, 1, 2, 3, 5] rfl) h
set_option maxHeartbeats 4000000 in
set_option maxRecDepth 100000 in
theorem bM_X11_drift {p : Program} {l : Launch} {e : Env} {s : State} {m : MethodId} {args : Array Value} {below : List Frame} {meth : Method} {c : Code} {D : va_G} {cI : ClassId} {q : Nat → Nat} {A : Nat → Prop} {res : Int32 × zSt} (C : zCX p s m args meth c cX11_drift 6 (some .int) zU RX11) (hE : zE D [(cI, .int)] [] A s) (x1 x2 x3 : Int32) (S : zSt) (H : Heap) (locs : List Loc) (ls : Array Slot) (hH : zH D (zwM cI q) A s S H locs) (hl : lv_has ls 6 [(0, .ref (q 32)), (1, .int x1), (2, .int x2), (3, .int x3)]) (h : fM_X11_drift  x1 x2 x3 S = some res) : W p l e rmM_X11_drift s m args below meth c H locs 0 0 (zQi below D (zwM cI q) [(cI, .int)] A args s res.1 res.2) (F0 m 0 ls []) := by
  have hx := C.1
  have hb := C.2.1
  unfold fM_X11_drift at h
  refine lv_aload_n hx hb dX11_drift_0 rfl (lv_at hl 0 rfl) ?_
  refine lv_iconst (v := 0) hx hb dX11_drift_1 (by decide) ?_
  refine z_put C hE hH zM_o rfl zh_X11 tyX11_ok nmX11 7 (by decide) zk17_17 (fun _ h9 => h9) rfl (ty := .int) rfl rfl rfl (Nat.le_of_ble_eq_true rfl) zM_i7 dX11_drift_2 (fun H locs hH => ?_)
  refine lv_iload_n hx hb dX11_drift_5 rfl (lv_at hl 1 rfl) ?_
  obtain ⟨u1, e2, h⟩ := zbd_s h
  refine z_calli (va_runS (As := [.int x1]) (rest := []) (z_fix C) (cM_X11_isShelf l D cI q H.size x1 (zsI S 7 0) e2) (va_cwS 1 C.2.2.2.2.1 (zGS zk27_17 zk27_18 zk1_5 zk27_19) rfl rfl rfl yd_X11_isShelf ⟨Nat.le_of_ble_eq_true rfl, Nat.le_of_ble_eq_true rfl⟩) (z_preS zNm0 hE hH) rfl rfl hl.1 rfl (lv_room (Nat.le_of_ble_eq_true rfl)) dX11_drift_6 ⟨Nat.le_refl 0, Nat.le_refl 0⟩) hE hH (fun H locs hH => ?_)
  refine lv_if_eq (tgt := 33) hx hb dX11_drift_9 (by decide) (fun c3 => ?_) (fun c3 => ?_)
  · replace h := zif_t c3 h
    refine lv_iconst (v := (-1)) hx hb dX11_drift_33 (by decide) ?_
    cases h
    exact z_iret C hE hH dX11_drift_34
  · replace h := zif_f c3 h
    refine lv_iload_n hx hb dX11_drift_12 rfl (lv_at hl 2 rfl) ?_
    refine lv_iconst (v := 1) hx hb dX11_drift_13 (by decide) ?_
    refine lv_aload_n hx hb dX11_drift_14 rfl (lv_at hl 0 rfl) ?_
    refine z_get C hE hH zM_o rfl zh_X11 2 (by decide) zk17_18 (fun _ h9 => h9) (v := .int (S.1 2)) rfl dX11_drift_15 ?_
    obtain ⟨u4, e5, h⟩ := zbd_s h
    refine z_calli (va_runS (As := [.int x2, .int 1, .int (S.1 2)]) (rest := []) (z_fix C) (cM_X11_in l D cI q H.size x2 1 (S.1 2) (zsI S 7 0) e5) (va_cwS 3 C.2.2.2.2.1 (zGS zk17_19 zk17_20 zk1_5 zk17_21) rfl rfl rfl yd_X11_in ⟨Nat.le_of_ble_eq_true rfl, Nat.le_of_ble_eq_true rfl⟩) (z_preS zNm0 hE hH) rfl rfl hl.1 rfl (lv_room (Nat.le_of_ble_eq_true rfl)) dX11_drift_18 ⟨Nat.le_refl 0, Nat.le_refl 0⟩) hE hH (fun H locs hH => ?_)
    refine lv_if_eq (tgt := 33) hx hb dX11_drift_21 (by decide) (fun c6 => ?_) (fun c6 => ?_)
    · replace h := zif_t c6 h
      refine lv_iconst (v := (-1)) hx hb dX11_drift_33 (by decide) ?_
      cases h
      exact z_iret C hE hH dX11_drift_34
    · replace h := zif_f c6 h
      refine lv_iload_n hx hb dX11_drift_24 rfl (lv_at hl 3 rfl) ?_
      refine lv_iconst (v := 0) hx hb dX11_drift_25 (by decide) ?_
      refine lv_iconst (v := 1) hx hb dX11_drift_26 (by decide) ?_
      obtain ⟨u7, e8, h⟩ := zbd_s h
      refine z_calli (va_runS (As := [.int x3, .int 0, .int 1]) (rest := []) (z_fix C) (cM_X11_in l D cI q H.size x3 0 1 (zsI S 7 0) e8) (va_cwS 3 C.2.2.2.2.1 (zGS zk17_19 zk17_20 zk1_5 zk17_21) rfl rfl rfl yd_X11_in ⟨Nat.le_of_ble_eq_true rfl, Nat.le_of_ble_eq_true rfl⟩) (z_preS zNm0 hE hH) rfl rfl hl.1 rfl (lv_room (Nat.le_of_ble_eq_true rfl)) dX11_drift_27 ⟨Nat.le_refl 0, Nat.le_refl 0⟩) hE hH (fun H locs hH => ?_)
      refine lv_if_ne (tgt := 35) hx hb dX11_drift_30 (by decide) (fun c9 => ?_) (fun c9 => ?_)
      · replace h := zif_f c9 h
        refine lv_aload_n hx hb dX11_drift_35 rfl (lv_at hl 0 rfl) ?_
        obtain ⟨u10, e11, h⟩ := zbd_s h
        refine z_callv (va_runV (As := []) (rest := []) (z_fix C) (cM_X11_doAll l D cI q H.size  (zsI S 7 0) e11) (cwV 0 C.2.2.2.2.1 (zGV zk21_21 zk21_22 zk21_23 zk1_5 zk22_0) rfl rfl rfl yd_X11_doAll ⟨Nat.le_of_ble_eq_true rfl, Nat.le_of_ble_eq_true rfl⟩) (z_preV zNm0 hE hH zM_o rfl) rfl rfl hl.1 rfl (lv_room (Nat.le_of_ble_eq_true rfl)) dX11_drift_36 ⟨Nat.le_refl 0, Nat.le_refl 0⟩) hE hH (fun H locs hH => ?_)
        refine lv_iconst (v := (-1)) hx hb dX11_drift_39 (by decide) ?_
        refine lv_istore (lv' := [(4, .int (-1)), (0, .ref (q 32)), (1, .int x1), (2, .int x2), (3, .int x3)]) hx hb dX11_drift_40 hl (by decide) rfl (fun ls hl => ?_)
        refine lv_iconst (v := 0) hx hb dX11_drift_42 (by decide) ?_
        refine lv_istore (lv' := [(5, .int 0), (4, .int (-1)), (0, .ref (q 32)), (1, .int x1), (2, .int x2), (3, .int x3)]) hx hb dX11_drift_43 hl (by decide) rfl (fun ls hl => ?_)
        exact bM_X11_drift_45 C hE   1000 x1 x2 x3 (-1) 0 u10 H locs ls hH (lv_sub hl [2, 3, 4, 5, 1, 0] rfl) h
      · replace h := zif_t c9 h
        refine lv_iconst (v := (-1)) hx hb dX11_drift_33 (by decide) ?_
        cases h
        exact z_iret C hE hH dX11_drift_34
set_option maxHeartbeats 4000000 in
set_option maxRecDepth 100000 in
theorem cM_X11_drift (l : Launch) (D : va_G) (cI : ClassId) (q : Nat → Nat) (sz : Nat) (x1 : Int32) (x2 : Int32) (x3 : Int32) (S : zSt) {res : Int32 × zSt} (h : fM_X11_drift x1 x2 x3 S = some res) : zMi l yX11_drift vsX11_drift rmM_X11_drift [.ref (q 32), .int x1, .int x2, .int x3] D (zwM cI q) [(cI, .int)] [] sz S res.1 res.2 := by
  refine Met.ofW (cc := cX11_drift) (maxL := 6) (ret := (some .int)) (by decide) rfl ?_
  intro p e s m args below meth c s₁ B hml hv
  obtain ⟨rfl, rfl, hP, hK, hD0, hN⟩ := hv
  have hl := lv_entry ([.ref (q 32), .int x1, .int x2, .int x3]) (n := 6) (Nat.le_of_ble_eq_true rfl)
  rw [lg_entry_eq]
  generalize (lg_sl ([.ref (q 32), .int x1, .int x2, .int x3]) ++ List.replicate (6 - (lg_sl ([.ref (q 32), .int x1, .int x2, .int x3])).length) Slot.unset).toArray = ls at hl ⊢
  exact bM_X11_drift ⟨B.exec, B.bytes, hml, findClass_of_methodNamed B.named, fun w h => atoms_spec (ws := vsX11_drift) B.pre w (List.mem_cons_of_mem _ h), B.returns, B.notSynchronized⟩ ⟨hK, fun q h => Or.inr h, hN⟩ x1 x2 x3 S s.heap [] ls ⟨hP, hD0.self, va_S.rf⟩ hl  h
def rmM_X11_moving : Room := { frames := 0, cells := 0, slots := 0, locals := 0 }
set_option maxHeartbeats 4000000 in
set_option maxRecDepth 100000 in
theorem bM_X11_moving {p : Program} {l : Launch} {e : Env} {s : State} {m : MethodId} {args : Array Value} {below : List Frame} {meth : Method} {c : Code} {D : va_G} {cI : ClassId} {q : Nat → Nat} {A : Nat → Prop} {res : Int32} (C : zCX p s m args meth c cX11_moving 2 (some .int) zU RX11) (hE : zE D [(cI, .int)] [] A s) (x1 : Int32) (S : zSt) (H : Heap) (locs : List Loc) (ls : Array Slot) (hH : zH D (zwM cI q) A s S H locs) (hl : lv_has ls 2 [(0, .ref (q 32)), (1, .int x1)]) (h : fM_X11_moving  x1 S = some res) : W p l e rmM_X11_moving s m args below meth c H locs 0 0 (zQi below D (zwM cI q) [(cI, .int)] A args s res S) (F0 m 0 ls []) := by
  have hx := C.1
  have hb := C.2.1
  unfold fM_X11_moving at h
  refine lv_aload_n hx hb dX11_moving_0 rfl (lv_at hl 0 rfl) ?_
  refine z_get C hE hH zM_o rfl zh_X11 5 (by decide) zk5_15 (fun _ h9 => h9) (v := .int (S.1 5)) rfl dX11_moving_1 ?_
  refine lv_aload_n hx hb dX11_moving_4 rfl (lv_at hl 0 rfl) ?_
  refine z_get C hE hH zM_o rfl zh_X11 6 (by decide) zk5_16 (fun _ h9 => h9) (v := .int (S.1 6)) rfl dX11_moving_5 ?_
  refine lv_aload_n hx hb dX11_moving_8 rfl (lv_at hl 0 rfl) ?_
  refine z_get C hE hH zM_o rfl zh_X11 10 (by decide) zk5_18 (fun _ h9 => h9) (v := .ref (q 10)) rfl dX11_moving_9 ?_
  refine lv_iload_n hx hb dX11_moving_12 rfl (lv_at hl 1 rfl) ?_
  obtain ⟨g1, h⟩ := zgd_s h
  refine z_iald C hE hH zM_a10 (t0 := 0) rfl g1 dX11_moving_13 ?_
  refine lv_imul hx hb dX11_moving_14 ?_
  refine lv_iadd hx hb dX11_moving_15 ?_
  cases h
  exact z_iret C hE hH dX11_moving_16
set_option maxHeartbeats 4000000 in
set_option maxRecDepth 100000 in
theorem cM_X11_moving (l : Launch) (D : va_G) (cI : ClassId) (q : Nat → Nat) (sz : Nat) (x1 : Int32) (S : zSt) {res : Int32} (h : fM_X11_moving x1 S = some res) : zMi l yX11_moving vsX11_moving rmM_X11_moving [.ref (q 32), .int x1] D (zwM cI q) [(cI, .int)] [] sz S res S := by
  refine Met.ofW (cc := cX11_moving) (maxL := 2) (ret := (some .int)) (by decide) rfl ?_
  intro p e s m args below meth c s₁ B hml hv
  obtain ⟨rfl, rfl, hP, hK, hD0, hN⟩ := hv
  have hl := lv_entry ([.ref (q 32), .int x1]) (n := 2) (Nat.le_of_ble_eq_true rfl)
  rw [lg_entry_eq]
  generalize (lg_sl ([.ref (q 32), .int x1]) ++ List.replicate (2 - (lg_sl ([.ref (q 32), .int x1])).length) Slot.unset).toArray = ls at hl ⊢
  exact bM_X11_moving ⟨B.exec, B.bytes, hml, findClass_of_methodNamed B.named, fun w h => atoms_spec (ws := vsX11_moving) B.pre w (List.mem_cons_of_mem _ h), B.returns, B.notSynchronized⟩ ⟨hK, fun q h => Or.inr h, hN⟩ x1 S s.heap [] ls ⟨hP, hD0.self, va_S.rf⟩ hl  h
def rmM_X11_nextShelf : Room := { frames := 2, cells := 0, slots := 0, locals := 42 }
set_option maxHeartbeats 4000000 in
set_option maxRecDepth 100000 in
theorem bM_X11_nextShelf_128 {p : Program} {l : Launch} {e : Env} {s : State} {m : MethodId} {args : Array Value} {below : List Frame} {meth : Method} {c : Code} {D : va_G} {cI : ClassId} {q : Nat → Nat} {A : Nat → Prop} {res : Int32} (C : zCX p s m args meth c cX11_nextShelf 10 (some .int) zU RX11) (hE : zE D [(cI, .int)] [] A s) (K23 : (Int32 → Int32 → Int32 → Int32 → Int32 → Int32 → zSt → Option (Int32))) (hK23 : ∀ (x1 x2 x3 x4 x5 x6 : Int32) (S : zSt) (H : Heap) (locs : List Loc) (ls : Array Slot), zH D (zwM cI q) A s S H locs → lv_has ls 10 [(0, .ref (q 32)), (1, .int x1), (2, .int x2), (3, .int x3), (4, .int x4), (5, .int x5), (6, .int x6)] → K23 x1 x2 x3 x4 x5 x6 S = some res → W p l e rmM_X11_nextShelf s m args below meth c H locs 0 0 (zQi below D (zwM cI q) [(cI, .int)] A args s res S) (F0 m 23 ls [])) (x1 x2 x6 x8 x9 : Int32) (S : zSt) (H : Heap) (locs : List Loc) (ls : Array Slot) (hH : zH D (zwM cI q) A s S H locs) (hl : lv_has ls 10 [(0, .ref (q 32)), (1, .int x1), (2, .int x2), (6, .int x6), (8, .int x8), (9, .int x9)]) (h : fM_X11_nextShelf_128 K23 x1 x2 x6 x8 x9 S = some res) : W p l e rmM_X11_nextShelf s m args below meth c H locs 0 0 (zQi below D (zwM cI q) [(cI, .int)] A args s res S) (F0 m 128 ls []) := by
  have hx := C.1
  have hb := C.2.1
  unfold fM_X11_nextShelf_128 at h
  refine lv_iload hx hb dX11_nextShelf_128 (lv_at hl 3 rfl) ?_
  refine lv_istore_n (lv' := [(3, .int x6), (0, .ref (q 32)), (1, .int x1), (2, .int x2), (6, .int x6), (8, .int x8), (9, .int x9)]) hx hb dX11_nextShelf_130 rfl hl (by decide) rfl (fun ls hl => ?_)
  refine lv_iload hx hb dX11_nextShelf_131 (lv_at hl 5 rfl) ?_
  refine lv_istore (lv' := [(4, .int x8), (3, .int x6), (0, .ref (q 32)), (1, .int x1), (2, .int x2), (6, .int x6), (8, .int x8), (9, .int x9)]) hx hb dX11_nextShelf_133 hl (by decide) rfl (fun ls hl => ?_)
  refine lv_iload hx hb dX11_nextShelf_135 (lv_at hl 7 rfl) ?_
  refine lv_istore (lv' := [(5, .int x9), (4, .int x8), (3, .int x6), (0, .ref (q 32)), (1, .int x1), (2, .int x2), (6, .int x6), (8, .int x8), (9, .int x9)]) hx hb dX11_nextShelf_137 hl (by decide) rfl (fun ls hl => ?_)
  refine lv_iinc (v := (x6 + 1)) (lv' := [(6, .int (x6 + 1)), (5, .int x9), (4, .int x8), (3, .int x6), (0, .ref (q 32)), (1, .int x1), (2, .int x2), (8, .int x8), (9, .int x9)]) hx hb dX11_nextShelf_139 hl (k := 6) rfl rfl (by decide) rfl (fun ls hl => ?_)
  refine lv_goto (tgt := 23) hx hb dX11_nextShelf_142 (by decide) ?_
  exact hK23 x1 x2 x6 x8 x9 (x6 + 1) S H locs ls hH (lv_sub hl [4, 5, 6, 3, 2, 1, 0] rfl) h
set_option maxHeartbeats 4000000 in
set_option maxRecDepth 100000 in
theorem bM_X11_nextShelf_96 {p : Program} {l : Launch} {e : Env} {s : State} {m : MethodId} {args : Array Value} {below : List Frame} {meth : Method} {c : Code} {D : va_G} {cI : ClassId} {q : Nat → Nat} {A : Nat → Prop} {res : Int32} (C : zCX p s m args meth c cX11_nextShelf 10 (some .int) zU RX11) (hE : zE D [(cI, .int)] [] A s) (K23 : (Int32 → Int32 → Int32 → Int32 → Int32 → Int32 → zSt → Option (Int32))) (hK23 : ∀ (x1 x2 x3 x4 x5 x6 : Int32) (S : zSt) (H : Heap) (locs : List Loc) (ls : Array Slot), zH D (zwM cI q) A s S H locs → lv_has ls 10 [(0, .ref (q 32)), (1, .int x1), (2, .int x2), (3, .int x3), (4, .int x4), (5, .int x5), (6, .int x6)] → K23 x1 x2 x3 x4 x5 x6 S = some res → W p l e rmM_X11_nextShelf s m args below meth c H locs 0 0 (zQi below D (zwM cI q) [(cI, .int)] A args s res S) (F0 m 23 ls [])) (x1 x2 x3 x4 x5 x6 x8 t0 t1 : Int32) (S : zSt) (H : Heap) (locs : List Loc) (ls : Array Slot) (hH : zH D (zwM cI q) A s S H locs) (hl : lv_has ls 10 [(0, .ref (q 32)), (1, .int x1), (2, .int x2), (3, .int x3), (4, .int x4), (5, .int x5), (6, .int x6), (8, .int x8)]) (h : fM_X11_nextShelf_96 K23 x1 x2 x3 x4 x5 x6 x8 t0 t1 S = some res) : W p l e rmM_X11_nextShelf s m args below meth c H locs 0 0 (zQi below D (zwM cI q) [(cI, .int)] A args s res S) (F0 m 96 ls [.int t1, .int t0]) := by
  have hx := C.1
  have hb := C.2.1
  unfold fM_X11_nextShelf_96 at h
  refine lv_iadd hx hb dX11_nextShelf_96 ?_
  refine lv_istore (lv' := [(9, .int (t0 + t1)), (0, .ref (q 32)), (1, .int x1), (2, .int x2), (3, .int x3), (4, .int x4), (5, .int x5), (6, .int x6), (8, .int x8)]) hx hb dX11_nextShelf_97 hl (by decide) rfl (fun ls hl => ?_)
  refine lv_iload_n hx hb dX11_nextShelf_99 rfl (lv_at hl 4 rfl) ?_
  refine lv_iconst (v := (-1)) hx hb dX11_nextShelf_100 (by decide) ?_
  refine lv_icmp_eq (tgt := 128) hx hb dX11_nextShelf_101 (by decide) (fun c1 => ?_) (fun c1 => ?_)
  · replace h := zif_t c1 h
    exact bM_X11_nextShelf_128 C hE K23 hK23 x1 x2 x6 x8 (t0 + t1) S H locs ls hH (lv_sub hl [1, 2, 3, 7, 8, 0] rfl) h
  · replace h := zif_f c1 h
    refine lv_iload hx hb dX11_nextShelf_104 (lv_at hl 8 rfl) ?_
    refine lv_iload hx hb dX11_nextShelf_106 (lv_at hl 5 rfl) ?_
    refine lv_icmp_gt (tgt := 139) hx hb dX11_nextShelf_108 (by decide) (fun c2 => ?_) (fun c2 => ?_)
    · replace h := zif_t c2 h
      refine lv_iinc (v := (x6 + 1)) (lv' := [(6, .int (x6 + 1)), (9, .int (t0 + t1)), (0, .ref (q 32)), (1, .int x1), (2, .int x2), (3, .int x3), (4, .int x4), (5, .int x5), (8, .int x8)]) hx hb dX11_nextShelf_139 hl (k := 7) rfl rfl (by decide) rfl (fun ls hl => ?_)
      refine lv_goto (tgt := 23) hx hb dX11_nextShelf_142 (by decide) ?_
      exact hK23 x1 x2 x3 x4 x5 (x6 + 1) S H locs ls hH (lv_sub hl [2, 3, 4, 5, 6, 7, 0] rfl) h
    · replace h := zif_f c2 h
      refine lv_iload hx hb dX11_nextShelf_111 (lv_at hl 8 rfl) ?_
      refine lv_iload hx hb dX11_nextShelf_113 (lv_at hl 5 rfl) ?_
      refine lv_icmp_ne (tgt := 128) hx hb dX11_nextShelf_115 (by decide) (fun c3 => ?_) (fun c3 => ?_)
      · replace h := zif_f c3 h
        exact bM_X11_nextShelf_128 C hE K23 hK23 x1 x2 x6 x8 (t0 + t1) S H locs ls hH (lv_sub hl [1, 2, 3, 7, 8, 0] rfl) h
      · replace h := zif_t c3 h
        refine lv_iload hx hb dX11_nextShelf_118 (lv_at hl 0 rfl) ?_
        refine lv_iload hx hb dX11_nextShelf_120 (lv_at hl 6 rfl) ?_
        refine lv_icmp_lt (tgt := 128) hx hb dX11_nextShelf_122 (by decide) (fun c4 => ?_) (fun c4 => ?_)
        · replace h := zif_t c4 h
          exact bM_X11_nextShelf_128 C hE K23 hK23 x1 x2 x6 x8 (t0 + t1) S H locs ls hH (lv_sub hl [1, 2, 3, 7, 8, 0] rfl) h
        · replace h := zif_f c4 h
          refine lv_goto (tgt := 139) hx hb dX11_nextShelf_125 (by decide) ?_
          refine lv_iinc (v := (x6 + 1)) (lv' := [(6, .int (x6 + 1)), (9, .int (t0 + t1)), (0, .ref (q 32)), (1, .int x1), (2, .int x2), (3, .int x3), (4, .int x4), (5, .int x5), (8, .int x8)]) hx hb dX11_nextShelf_139 hl (k := 7) rfl rfl (by decide) rfl (fun ls hl => ?_)
          refine lv_goto (tgt := 23) hx hb dX11_nextShelf_142 (by decide) ?_
          exact hK23 x1 x2 x3 x4 x5 (x6 + 1) S H locs ls hH (lv_sub hl [2, 3, 4, 5, 6, 7, 0] rfl) h
set_option maxHeartbeats 4000000 in
set_option maxRecDepth 100000 in
theorem bM_X11_nextShelf_75 {p : Program} {l : Launch} {e : Env} {s : State} {m : MethodId} {args : Array Value} {below : List Frame} {meth : Method} {c : Code} {D : va_G} {cI : ClassId} {q : Nat → Nat} {A : Nat → Prop} {res : Int32} (C : zCX p s m args meth c cX11_nextShelf 10 (some .int) zU RX11) (hE : zE D [(cI, .int)] [] A s) (K23 : (Int32 → Int32 → Int32 → Int32 → Int32 → Int32 → zSt → Option (Int32))) (hK23 : ∀ (x1 x2 x3 x4 x5 x6 : Int32) (S : zSt) (H : Heap) (locs : List Loc) (ls : Array Slot), zH D (zwM cI q) A s S H locs → lv_has ls 10 [(0, .ref (q 32)), (1, .int x1), (2, .int x2), (3, .int x3), (4, .int x4), (5, .int x5), (6, .int x6)] → K23 x1 x2 x3 x4 x5 x6 S = some res → W p l e rmM_X11_nextShelf s m args below meth c H locs 0 0 (zQi below D (zwM cI q) [(cI, .int)] A args s res S) (F0 m 23 ls [])) (x1 x2 x3 x4 x5 x6 x7 t0 t1 : Int32) (S : zSt) (H : Heap) (locs : List Loc) (ls : Array Slot) (hH : zH D (zwM cI q) A s S H locs) (hl : lv_has ls 10 [(0, .ref (q 32)), (1, .int x1), (2, .int x2), (3, .int x3), (4, .int x4), (5, .int x5), (6, .int x6), (7, .int x7)]) (h : fM_X11_nextShelf_75 K23 x1 x2 x3 x4 x5 x6 x7 t0 t1 S = some res) : W p l e rmM_X11_nextShelf s m args below meth c H locs 0 0 (zQi below D (zwM cI q) [(cI, .int)] A args s res S) (F0 m 75 ls [.int t1, .int t0]) := by
  have hx := C.1
  have hb := C.2.1
  unfold fM_X11_nextShelf_75 at h
  refine lv_iadd hx hb dX11_nextShelf_75 ?_
  refine lv_istore (lv' := [(8, .int (t0 + t1)), (0, .ref (q 32)), (1, .int x1), (2, .int x2), (3, .int x3), (4, .int x4), (5, .int x5), (6, .int x6), (7, .int x7)]) hx hb dX11_nextShelf_76 hl (by decide) rfl (fun ls hl => ?_)
  refine lv_aload_n hx hb dX11_nextShelf_78 rfl (lv_at hl 1 rfl) ?_
  refine z_get C hE hH zM_o rfl zh_X11 27 (by decide) zk6_7 (fun _ h9 => h9) (v := .ref (q 27)) rfl dX11_nextShelf_79 ?_
  refine lv_iload hx hb dX11_nextShelf_82 (lv_at hl 8 rfl) ?_
  obtain ⟨g1, h⟩ := zgd_s h
  refine z_iald C hE hH zM_a27 (t0 := 0) rfl g1 dX11_nextShelf_84 ?_
  refine lv_iload hx hb dX11_nextShelf_85 (lv_at hl 7 rfl) ?_
  refine lv_iload_n hx hb dX11_nextShelf_87 rfl (lv_at hl 3 rfl) ?_
  refine lv_icmp_ne (tgt := 95) hx hb dX11_nextShelf_88 (by decide) (fun c2 => ?_) (fun c2 => ?_)
  · replace h := zif_f c2 h
    refine lv_iconst (v := 1) hx hb dX11_nextShelf_95 (by decide) ?_
    exact bM_X11_nextShelf_96 C hE K23 hK23 x1 x2 x3 x4 x5 x6 (t0 + t1) (S.2 27 x7.toNatClampNeg) 1 S H locs ls hH (lv_sub hl [1, 2, 3, 4, 5, 6, 7, 0] rfl) h
  · replace h := zif_t c2 h
    refine lv_iconst (v := 0) hx hb dX11_nextShelf_91 (by decide) ?_
    refine lv_goto (tgt := 96) hx hb dX11_nextShelf_92 (by decide) ?_
    exact bM_X11_nextShelf_96 C hE K23 hK23 x1 x2 x3 x4 x5 x6 (t0 + t1) (S.2 27 x7.toNatClampNeg) 0 S H locs ls hH (lv_sub hl [1, 2, 3, 4, 5, 6, 7, 0] rfl) h
set_option maxHeartbeats 4000000 in
set_option maxRecDepth 100000 in
theorem bM_X11_nextShelf_23 {p : Program} {l : Launch} {e : Env} {s : State} {m : MethodId} {args : Array Value} {below : List Frame} {meth : Method} {c : Code} {D : va_G} {cI : ClassId} {q : Nat → Nat} {A : Nat → Prop} {res : Int32} (C : zCX p s m args meth c cX11_nextShelf 10 (some .int) zU RX11) (hE : zE D [(cI, .int)] [] A s) : ∀ (n : Nat) (x1 x2 x3 x4 x5 x6 : Int32) (S : zSt) (H : Heap) (locs : List Loc) (ls : Array Slot), zH D (zwM cI q) A s S H locs → lv_has ls 10 [(0, .ref (q 32)), (1, .int x1), (2, .int x2), (3, .int x3), (4, .int x4), (5, .int x5), (6, .int x6)] → fM_X11_nextShelf_23  n x1 x2 x3 x4 x5 x6 S = some res → W p l e rmM_X11_nextShelf s m args below meth c H locs 0 0 (zQi below D (zwM cI q) [(cI, .int)] A args s res S) (F0 m 23 ls []) := by
  have hx := C.1
  have hb := C.2.1
  intro n
  induction n with
  | zero =>
    intro x1 x2 x3 x4 x5 x6 S H locs ls hH hl  h
    cases h
  | succ n hK23 =>
    intro x1 x2 x3 x4 x5 x6 S H locs ls hH hl  h
    rw [fM_X11_nextShelf_23] at h
    refine lv_iload hx hb dX11_nextShelf_23 (lv_at hl 6 rfl) ?_
    refine lv_bipush (v := 6) hx hb dX11_nextShelf_25 (by decide) ?_
    refine lv_icmp_ge (tgt := 145) hx hb dX11_nextShelf_27 (by decide) (fun c1 => ?_) (fun c1 => ?_)
    · replace h := zif_t c1 h
      refine lv_iload_n hx hb dX11_nextShelf_145 rfl (lv_at hl 3 rfl) ?_
      cases h
      exact z_iret C hE hH dX11_nextShelf_146
    · replace h := zif_f c1 h
      refine lv_aload_n hx hb dX11_nextShelf_30 rfl (lv_at hl 0 rfl) ?_
      refine lv_iload hx hb dX11_nextShelf_31 (lv_at hl 6 rfl) ?_
      obtain ⟨u2, e3, h⟩ := zbd_s h
      refine z_calli (va_runV (As := [.int x6]) (rest := []) (z_fix C) (cM_X11_isOffered l D cI q H.size x6 S e3) (cwV 1 C.2.2.2.2.1 (zGV zk31_20 zk31_21 zk31_22 zk1_5 zk31_23) rfl rfl rfl yd_X11_isOffered ⟨Nat.le_of_ble_eq_true rfl, Nat.le_of_ble_eq_true rfl⟩) (z_preV zNm0 hE hH zM_o rfl) rfl rfl hl.1 rfl (lv_room (Nat.le_of_ble_eq_true rfl)) dX11_nextShelf_33 ⟨Nat.le_refl 0, Nat.le_refl 0⟩) hE hH (fun H locs hH => ?_)
      refine lv_if_ne (tgt := 42) hx hb dX11_nextShelf_36 (by decide) (fun c4 => ?_) (fun c4 => ?_)
      · replace h := zif_f c4 h
        refine lv_bipush (v := 6) hx hb dX11_nextShelf_42 (by decide) ?_
        refine lv_iload_n hx hb dX11_nextShelf_44 rfl (lv_at hl 1 rfl) ?_
        refine lv_iconst (v := 1) hx hb dX11_nextShelf_45 (by decide) ?_
        refine lv_iadd hx hb dX11_nextShelf_46 ?_
        refine lv_imul hx hb dX11_nextShelf_47 ?_
        refine lv_iload hx hb dX11_nextShelf_48 (lv_at hl 6 rfl) ?_
        refine lv_iadd hx hb dX11_nextShelf_50 ?_
        refine lv_istore (lv' := [(7, .int ((6 * (x1 + 1)) + x6)), (0, .ref (q 32)), (1, .int x1), (2, .int x2), (3, .int x3), (4, .int x4), (5, .int x5), (6, .int x6)]) hx hb dX11_nextShelf_51 hl (by decide) rfl (fun ls hl => ?_)
        refine lv_aload_n hx hb dX11_nextShelf_53 rfl (lv_at hl 1 rfl) ?_
        refine z_get C hE hH zM_o rfl zh_X11 26 (by decide) zk6_6 (fun _ h9 => h9) (v := .ref (q 26)) rfl dX11_nextShelf_54 ?_
        refine lv_iload hx hb dX11_nextShelf_57 (lv_at hl 0 rfl) ?_
        obtain ⟨g5, h⟩ := zgd_s h
        refine z_iald C hE hH zM_a26 (t0 := 0) rfl g5 dX11_nextShelf_59 ?_
        refine lv_iload hx hb dX11_nextShelf_60 (lv_at hl 7 rfl) ?_
        refine lv_iload_n hx hb dX11_nextShelf_62 rfl (lv_at hl 3 rfl) ?_
        refine lv_icmp_ne (tgt := 70) hx hb dX11_nextShelf_63 (by decide) (fun c6 => ?_) (fun c6 => ?_)
        · replace h := zif_f c6 h
          refine lv_aload_n hx hb dX11_nextShelf_70 rfl (lv_at hl 1 rfl) ?_
          refine lv_iload_n hx hb dX11_nextShelf_71 rfl (lv_at hl 2 rfl) ?_
          obtain ⟨u7, e8, h⟩ := zbd_s h
          refine z_calli (va_runV (As := [.int x1]) (rest := [.int (S.2 26 ((6 * (x1 + 1)) + x6).toNatClampNeg)]) (z_fix C) (cM_X11_moving l D cI q H.size x1 S e8) (cwV 1 C.2.2.2.2.1 (zGV zk35_14 zk35_15 zk35_16 zk1_5 zk35_17) rfl rfl rfl yd_X11_moving ⟨Nat.le_of_ble_eq_true rfl, Nat.le_of_ble_eq_true rfl⟩) (z_preV zNm0 hE hH zM_o rfl) rfl rfl hl.1 rfl (lv_room (Nat.le_of_ble_eq_true rfl)) dX11_nextShelf_72 ⟨Nat.le_refl 0, Nat.le_refl 0⟩) hE hH (fun H locs hH => ?_)
          exact bM_X11_nextShelf_75 C hE (fM_X11_nextShelf_23  n) hK23 x1 x2 x3 x4 x5 x6 ((6 * (x1 + 1)) + x6) (S.2 26 ((6 * (x1 + 1)) + x6).toNatClampNeg) u7 S H locs ls hH (lv_sub hl [1, 2, 3, 4, 5, 6, 7, 0] rfl) h
        · replace h := zif_t c6 h
          refine lv_iconst (v := 0) hx hb dX11_nextShelf_66 (by decide) ?_
          refine lv_goto (tgt := 75) hx hb dX11_nextShelf_67 (by decide) ?_
          exact bM_X11_nextShelf_75 C hE (fM_X11_nextShelf_23  n) hK23 x1 x2 x3 x4 x5 x6 ((6 * (x1 + 1)) + x6) (S.2 26 ((6 * (x1 + 1)) + x6).toNatClampNeg) 0 S H locs ls hH (lv_sub hl [1, 2, 3, 4, 5, 6, 7, 0] rfl) h
      · replace h := zif_t c4 h
        refine lv_goto (tgt := 139) hx hb dX11_nextShelf_39 (by decide) ?_
        refine lv_iinc (v := (x6 + 1)) (lv' := [(6, .int (x6 + 1)), (0, .ref (q 32)), (1, .int x1), (2, .int x2), (3, .int x3), (4, .int x4), (5, .int x5)]) hx hb dX11_nextShelf_139 hl (k := 6) rfl rfl (by decide) rfl (fun ls hl => ?_)
        refine lv_goto (tgt := 23) hx hb dX11_nextShelf_142 (by decide) ?_
        exact hK23 x1 x2 x3 x4 x5 (x6 + 1) S H locs ls hH (lv_sub hl [1, 2, 3, 4, 5, 6, 0] rfl) h
set_option maxHeartbeats 4000000 in
set_option maxRecDepth 100000 in
theorem bM_X11_nextShelf {p : Program} {l : Launch} {e : Env} {s : State} {m : MethodId} {args : Array Value} {below : List Frame} {meth : Method} {c : Code} {D : va_G} {cI : ClassId} {q : Nat → Nat} {A : Nat → Prop} {res : Int32} (C : zCX p s m args meth c cX11_nextShelf 10 (some .int) zU RX11) (hE : zE D [(cI, .int)] [] A s) (x1 x2 : Int32) (S : zSt) (H : Heap) (locs : List Loc) (ls : Array Slot) (hH : zH D (zwM cI q) A s S H locs) (hl : lv_has ls 10 [(0, .ref (q 32)), (1, .int x1), (2, .int x2)]) (h : fM_X11_nextShelf  x1 x2 S = some res) : W p l e rmM_X11_nextShelf s m args below meth c H locs 0 0 (zQi below D (zwM cI q) [(cI, .int)] A args s res S) (F0 m 0 ls []) := by
  have hx := C.1
  have hb := C.2.1
  unfold fM_X11_nextShelf at h
  refine lv_iload_n hx hb dX11_nextShelf_0 rfl (lv_at hl 1 rfl) ?_
  refine lv_aload_n hx hb dX11_nextShelf_1 rfl (lv_at hl 0 rfl) ?_
  refine z_get C hE hH zM_o rfl zh_X11 2 (by decide) zk17_18 (fun _ h9 => h9) (v := .int (S.1 2)) rfl dX11_nextShelf_2 ?_
  refine lv_iconst (v := 1) hx hb dX11_nextShelf_5 (by decide) ?_
  refine lv_isub hx hb dX11_nextShelf_6 ?_
  refine lv_icmp_ne (tgt := 12) hx hb dX11_nextShelf_7 (by decide) (fun c1 => ?_) (fun c1 => ?_)
  · replace h := zif_f c1 h
    refine lv_iconst (v := (-1)) hx hb dX11_nextShelf_12 (by decide) ?_
    refine lv_istore_n (lv' := [(3, .int (-1)), (0, .ref (q 32)), (1, .int x1), (2, .int x2)]) hx hb dX11_nextShelf_13 rfl hl (by decide) rfl (fun ls hl => ?_)
    refine lv_iconst (v := 0) hx hb dX11_nextShelf_14 (by decide) ?_
    refine lv_istore (lv' := [(4, .int 0), (3, .int (-1)), (0, .ref (q 32)), (1, .int x1), (2, .int x2)]) hx hb dX11_nextShelf_15 hl (by decide) rfl (fun ls hl => ?_)
    refine lv_iconst (v := 0) hx hb dX11_nextShelf_17 (by decide) ?_
    refine lv_istore (lv' := [(5, .int 0), (4, .int 0), (3, .int (-1)), (0, .ref (q 32)), (1, .int x1), (2, .int x2)]) hx hb dX11_nextShelf_18 hl (by decide) rfl (fun ls hl => ?_)
    refine lv_iconst (v := 0) hx hb dX11_nextShelf_20 (by decide) ?_
    refine lv_istore (lv' := [(6, .int 0), (5, .int 0), (4, .int 0), (3, .int (-1)), (0, .ref (q 32)), (1, .int x1), (2, .int x2)]) hx hb dX11_nextShelf_21 hl (by decide) rfl (fun ls hl => ?_)
    exact bM_X11_nextShelf_23 C hE   1000 x1 x2 (-1) 0 0 0 S H locs ls hH (lv_sub hl [4, 5, 6, 3, 2, 1, 0] rfl) h
  · replace h := zif_t c1 h
    refine lv_iload_n hx hb dX11_nextShelf_10 rfl (lv_at hl 2 rfl) ?_
    cases h
    exact z_iret C hE hH dX11_nextShelf_11
set_option maxHeartbeats 4000000 in
set_option maxRecDepth 100000 in
theorem cM_X11_nextShelf (l : Launch) (D : va_G) (cI : ClassId) (q : Nat → Nat) (sz : Nat) (x1 : Int32) (x2 : Int32) (S : zSt) {res : Int32} (h : fM_X11_nextShelf x1 x2 S = some res) : zMi l yX11_nextShelf vsX11_nextShelf rmM_X11_nextShelf [.ref (q 32), .int x1, .int x2] D (zwM cI q) [(cI, .int)] [] sz S res S := by
  refine Met.ofW (cc := cX11_nextShelf) (maxL := 10) (ret := (some .int)) (by decide) rfl ?_
  intro p e s m args below meth c s₁ B hml hv
  obtain ⟨rfl, rfl, hP, hK, hD0, hN⟩ := hv
  have hl := lv_entry ([.ref (q 32), .int x1, .int x2]) (n := 10) (Nat.le_of_ble_eq_true rfl)
  rw [lg_entry_eq]
  generalize (lg_sl ([.ref (q 32), .int x1, .int x2]) ++ List.replicate (10 - (lg_sl ([.ref (q 32), .int x1, .int x2])).length) Slot.unset).toArray = ls at hl ⊢
  exact bM_X11_nextShelf ⟨B.exec, B.bytes, hml, findClass_of_methodNamed B.named, fun w h => atoms_spec (ws := vsX11_nextShelf) B.pre w (List.mem_cons_of_mem _ h), B.returns, B.notSynchronized⟩ ⟨hK, fun q h => Or.inr h, hN⟩ x1 x2 S s.heap [] ls ⟨hP, hD0.self, va_S.rf⟩ hl  h
def rmM_X11_findStages : Room := { frames := 5, cells := 0, slots := 0, locals := 123 }
set_option maxHeartbeats 4000000 in
set_option maxRecDepth 100000 in
theorem bM_X11_findStages_228 {p : Program} {l : Launch} {e : Env} {s : State} {m : MethodId} {args : Array Value} {below : List Frame} {meth : Method} {c : Code} {D : va_G} {cI : ClassId} {q : Nat → Nat} {A : Nat → Prop} {res : Int32 × zSt} (C : zCX p s m args meth c cX11_findStages 7 (some .boolean) zU RX11) (hE : zE D [(cI, .int)] [] A s) (K75 : (Int32 → Int32 → zSt → Option (Int32 × zSt))) (K81 : (Int32 → Int32 → Int32 → zSt → Option (Int32 × zSt))) (hK75 : ∀ (x1 x2 : Int32) (S : zSt) (H : Heap) (locs : List Loc) (ls : Array Slot), zH D (zwM cI q) A s S H locs → lv_has ls 7 [(0, .ref (q 32)), (1, .int x1), (2, .int x2)] → K75 x1 x2 S = some res → W p l e rmM_X11_findStages s m args below meth c H locs 0 0 (zQi below D (zwM cI q) [(cI, .int)] A args s res.1 res.2) (F0 m 75 ls [])) (hK81 : ∀ (x1 x2 x3 : Int32) (S : zSt) (H : Heap) (locs : List Loc) (ls : Array Slot), zH D (zwM cI q) A s S H locs → lv_has ls 7 [(0, .ref (q 32)), (1, .int x1), (2, .int x2), (3, .int x3)] → K81 x1 x2 x3 S = some res → W p l e rmM_X11_findStages s m args below meth c H locs 0 0 (zQi below D (zwM cI q) [(cI, .int)] A args s res.1 res.2) (F0 m 81 ls [])) (x1 x2 x3 t1 t2 t3 : Int32) (S : zSt) (H : Heap) (locs : List Loc) (ls : Array Slot) (hH : zH D (zwM cI q) A s S H locs) (hl : lv_has ls 7 [(0, .ref (q 32)), (1, .int x1), (2, .int x2), (3, .int x3)]) (h : fM_X11_findStages_228 K75 K81 x1 x2 x3 t1 t2 t3 S = some res) : W p l e rmM_X11_findStages s m args below meth c H locs 0 0 (zQi below D (zwM cI q) [(cI, .int)] A args s res.1 res.2) (F0 m 228 ls [.int t3, .int t2, .int t1, .ref (q 27)]) := by
  have hx := C.1
  have hb := C.2.1
  unfold fM_X11_findStages_228 at h
  refine lv_iadd hx hb dX11_findStages_228 ?_
  obtain ⟨g1, h⟩ := zgd_s h
  refine z_iast C hE hH zM_a27 (t0 := 0) rfl g1 zM_r27 dX11_findStages_229 (fun H locs hH => ?_)
  refine lv_iinc (v := (x3 + 1)) (lv' := [(3, .int (x3 + 1)), (0, .ref (q 32)), (1, .int x1), (2, .int x2)]) hx hb dX11_findStages_230 hl (k := 3) rfl rfl (by decide) rfl (fun ls hl => ?_)
  refine lv_goto (tgt := 81) hx hb dX11_findStages_233 (by decide) ?_
  exact hK81 x1 x2 (x3 + 1) (zsR S 27 t1.toNatClampNeg (t2 + t3)) H locs ls hH (lv_sub hl [1, 2, 3, 0] rfl) h
set_option maxHeartbeats 4000000 in
set_option maxRecDepth 100000 in
theorem bM_X11_findStages_196 {p : Program} {l : Launch} {e : Env} {s : State} {m : MethodId} {args : Array Value} {below : List Frame} {meth : Method} {c : Code} {D : va_G} {cI : ClassId} {q : Nat → Nat} {A : Nat → Prop} {res : Int32 × zSt} (C : zCX p s m args meth c cX11_findStages 7 (some .boolean) zU RX11) (hE : zE D [(cI, .int)] [] A s) (K75 : (Int32 → Int32 → zSt → Option (Int32 × zSt))) (K81 : (Int32 → Int32 → Int32 → zSt → Option (Int32 × zSt))) (hK75 : ∀ (x1 x2 : Int32) (S : zSt) (H : Heap) (locs : List Loc) (ls : Array Slot), zH D (zwM cI q) A s S H locs → lv_has ls 7 [(0, .ref (q 32)), (1, .int x1), (2, .int x2)] → K75 x1 x2 S = some res → W p l e rmM_X11_findStages s m args below meth c H locs 0 0 (zQi below D (zwM cI q) [(cI, .int)] A args s res.1 res.2) (F0 m 75 ls [])) (hK81 : ∀ (x1 x2 x3 : Int32) (S : zSt) (H : Heap) (locs : List Loc) (ls : Array Slot), zH D (zwM cI q) A s S H locs → lv_has ls 7 [(0, .ref (q 32)), (1, .int x1), (2, .int x2), (3, .int x3)] → K81 x1 x2 x3 S = some res → W p l e rmM_X11_findStages s m args below meth c H locs 0 0 (zQi below D (zwM cI q) [(cI, .int)] A args s res.1 res.2) (F0 m 81 ls [])) (x1 x2 x3 x4 x5 x6 t1 t2 t3 : Int32) (S : zSt) (H : Heap) (locs : List Loc) (ls : Array Slot) (hH : zH D (zwM cI q) A s S H locs) (hl : lv_has ls 7 [(0, .ref (q 32)), (1, .int x1), (2, .int x2), (3, .int x3), (4, .int x4), (5, .int x5), (6, .int x6)]) (h : fM_X11_findStages_196 K75 K81 x1 x2 x3 x4 x5 x6 t1 t2 t3 S = some res) : W p l e rmM_X11_findStages s m args below meth c H locs 0 0 (zQi below D (zwM cI q) [(cI, .int)] A args s res.1 res.2) (F0 m 196 ls [.int t3, .int t2, .int t1, .ref (q 26)]) := by
  have hx := C.1
  have hb := C.2.1
  unfold fM_X11_findStages_196 at h
  refine lv_iadd hx hb dX11_findStages_196 ?_
  obtain ⟨g1, h⟩ := zgd_s h
  refine z_iast C hE hH zM_a26 (t0 := 0) rfl g1 zM_r26 dX11_findStages_197 (fun H locs hH => ?_)
  refine lv_aload_n hx hb dX11_findStages_198 rfl (lv_at hl 0 rfl) ?_
  refine z_get C hE hH zM_o rfl zh_X11 27 (by decide) zk6_7 (fun _ h9 => h9) (v := .ref (q 27)) rfl dX11_findStages_199 ?_
  refine lv_iload hx hb dX11_findStages_202 (lv_at hl 4 rfl) ?_
  refine lv_aload_n hx hb dX11_findStages_204 rfl (lv_at hl 0 rfl) ?_
  refine z_get C hE hH zM_o rfl zh_X11 27 (by decide) zk6_7 (fun _ h9 => h9) (v := .ref (q 27)) rfl dX11_findStages_205 ?_
  refine lv_bipush (v := 6) hx hb dX11_findStages_208 (by decide) ?_
  refine lv_iload_n hx hb dX11_findStages_210 rfl (lv_at hl 2 rfl) ?_
  refine lv_iconst (v := 1) hx hb dX11_findStages_211 (by decide) ?_
  refine lv_iadd hx hb dX11_findStages_212 ?_
  refine lv_imul hx hb dX11_findStages_213 ?_
  refine lv_iload hx hb dX11_findStages_214 (lv_at hl 5 rfl) ?_
  refine lv_iadd hx hb dX11_findStages_216 ?_
  obtain ⟨g2, h⟩ := zgd_s h
  refine z_iald C hE hH zM_a27 (t0 := 0) rfl g2 dX11_findStages_217 ?_
  refine lv_iload hx hb dX11_findStages_218 (lv_at hl 6 rfl) ?_
  refine lv_if_eq (tgt := 227) hx hb dX11_findStages_220 (by decide) (fun c3 => ?_) (fun c3 => ?_)
  · replace h := zif_t c3 h
    refine lv_iconst (v := 0) hx hb dX11_findStages_227 (by decide) ?_
    exact bM_X11_findStages_228 C hE K75 K81 hK75 hK81 x1 x2 x3 x4 (S.2 27 ((6 * (x2 + 1)) + x5).toNatClampNeg) 0 (zsR S 26 t1.toNatClampNeg (t2 + t3)) H locs ls hH (lv_sub hl [0, 1, 2, 3] rfl) h
  · replace h := zif_f c3 h
    refine lv_iconst (v := 1) hx hb dX11_findStages_223 (by decide) ?_
    refine lv_goto (tgt := 228) hx hb dX11_findStages_224 (by decide) ?_
    exact bM_X11_findStages_228 C hE K75 K81 hK75 hK81 x1 x2 x3 x4 (S.2 27 ((6 * (x2 + 1)) + x5).toNatClampNeg) 1 (zsR S 26 t1.toNatClampNeg (t2 + t3)) H locs ls hH (lv_sub hl [0, 1, 2, 3] rfl) h
set_option maxHeartbeats 4000000 in
set_option maxRecDepth 100000 in
theorem bM_X11_findStages_152 {p : Program} {l : Launch} {e : Env} {s : State} {m : MethodId} {args : Array Value} {below : List Frame} {meth : Method} {c : Code} {D : va_G} {cI : ClassId} {q : Nat → Nat} {A : Nat → Prop} {res : Int32 × zSt} (C : zCX p s m args meth c cX11_findStages 7 (some .boolean) zU RX11) (hE : zE D [(cI, .int)] [] A s) (K75 : (Int32 → Int32 → zSt → Option (Int32 × zSt))) (K81 : (Int32 → Int32 → Int32 → zSt → Option (Int32 × zSt))) (hK75 : ∀ (x1 x2 : Int32) (S : zSt) (H : Heap) (locs : List Loc) (ls : Array Slot), zH D (zwM cI q) A s S H locs → lv_has ls 7 [(0, .ref (q 32)), (1, .int x1), (2, .int x2)] → K75 x1 x2 S = some res → W p l e rmM_X11_findStages s m args below meth c H locs 0 0 (zQi below D (zwM cI q) [(cI, .int)] A args s res.1 res.2) (F0 m 75 ls [])) (hK81 : ∀ (x1 x2 x3 : Int32) (S : zSt) (H : Heap) (locs : List Loc) (ls : Array Slot), zH D (zwM cI q) A s S H locs → lv_has ls 7 [(0, .ref (q 32)), (1, .int x1), (2, .int x2), (3, .int x3)] → K81 x1 x2 x3 S = some res → W p l e rmM_X11_findStages s m args below meth c H locs 0 0 (zQi below D (zwM cI q) [(cI, .int)] A args s res.1 res.2) (F0 m 81 ls [])) (x1 x2 x3 x4 x5 t0 : Int32) (S : zSt) (H : Heap) (locs : List Loc) (ls : Array Slot) (hH : zH D (zwM cI q) A s S H locs) (hl : lv_has ls 7 [(0, .ref (q 32)), (1, .int x1), (2, .int x2), (3, .int x3), (4, .int x4), (5, .int x5)]) (h : fM_X11_findStages_152 K75 K81 x1 x2 x3 x4 x5 t0 S = some res) : W p l e rmM_X11_findStages s m args below meth c H locs 0 0 (zQi below D (zwM cI q) [(cI, .int)] A args s res.1 res.2) (F0 m 152 ls [.int t0]) := by
  have hx := C.1
  have hb := C.2.1
  unfold fM_X11_findStages_152 at h
  refine lv_istore (lv' := [(6, .int t0), (0, .ref (q 32)), (1, .int x1), (2, .int x2), (3, .int x3), (4, .int x4), (5, .int x5)]) hx hb dX11_findStages_152 hl (by decide) rfl (fun ls hl => ?_)
  refine lv_aload_n hx hb dX11_findStages_154 rfl (lv_at hl 1 rfl) ?_
  refine z_get C hE hH zM_o rfl zh_X11 26 (by decide) zk6_6 (fun _ h9 => h9) (v := .ref (q 26)) rfl dX11_findStages_155 ?_
  refine lv_iload hx hb dX11_findStages_158 (lv_at hl 5 rfl) ?_
  refine lv_aload_n hx hb dX11_findStages_160 rfl (lv_at hl 1 rfl) ?_
  refine z_get C hE hH zM_o rfl zh_X11 11 (by decide) zk5_19 (fun _ h9 => h9) (v := .ref (q 11)) rfl dX11_findStages_161 ?_
  refine lv_iload hx hb dX11_findStages_164 (lv_at hl 5 rfl) ?_
  obtain ⟨g1, h⟩ := zgd_s h
  refine z_iald C hE hH zM_a11 (t0 := 0) rfl g1 dX11_findStages_166 ?_
  refine lv_aload_n hx hb dX11_findStages_167 rfl (lv_at hl 1 rfl) ?_
  refine z_get C hE hH zM_o rfl zh_X11 26 (by decide) zk6_6 (fun _ h9 => h9) (v := .ref (q 26)) rfl dX11_findStages_168 ?_
  refine lv_bipush (v := 6) hx hb dX11_findStages_171 (by decide) ?_
  refine lv_iload_n hx hb dX11_findStages_173 rfl (lv_at hl 3 rfl) ?_
  refine lv_iconst (v := 1) hx hb dX11_findStages_174 (by decide) ?_
  refine lv_iadd hx hb dX11_findStages_175 ?_
  refine lv_imul hx hb dX11_findStages_176 ?_
  refine lv_iload hx hb dX11_findStages_177 (lv_at hl 6 rfl) ?_
  refine lv_iadd hx hb dX11_findStages_179 ?_
  obtain ⟨g2, h⟩ := zgd_s h
  refine z_iald C hE hH zM_a26 (t0 := 0) rfl g2 dX11_findStages_180 ?_
  refine lv_iadd hx hb dX11_findStages_181 ?_
  refine lv_iload hx hb dX11_findStages_182 (lv_at hl 0 rfl) ?_
  refine lv_if_eq (tgt := 195) hx hb dX11_findStages_184 (by decide) (fun c3 => ?_) (fun c3 => ?_)
  · replace h := zif_t c3 h
    refine lv_iconst (v := 0) hx hb dX11_findStages_195 (by decide) ?_
    exact bM_X11_findStages_196 C hE K75 K81 hK75 hK81 x1 x2 x3 x4 x5 t0 x4 ((S.2 11 x4.toNatClampNeg) + (S.2 26 ((6 * (x2 + 1)) + x5).toNatClampNeg)) 0 S H locs ls hH (lv_sub hl [1, 2, 3, 4, 5, 6, 0] rfl) h
  · replace h := zif_f c3 h
    refine lv_aload_n hx hb dX11_findStages_187 rfl (lv_at hl 1 rfl) ?_
    refine lv_iload_n hx hb dX11_findStages_188 rfl (lv_at hl 3 rfl) ?_
    obtain ⟨u4, e5, h⟩ := zbd_s h
    refine z_calli (va_runV (As := [.int x2]) (rest := [.int ((S.2 11 x4.toNatClampNeg) + (S.2 26 ((6 * (x2 + 1)) + x5).toNatClampNeg)), .int x4, .ref (q 26)]) (z_fix C) (cM_X11_moving l D cI q H.size x2 S e5) (cwV 1 C.2.2.2.2.1 (zGV zk35_14 zk35_15 zk35_16 zk1_5 zk35_17) rfl rfl rfl yd_X11_moving ⟨Nat.le_of_ble_eq_true rfl, Nat.le_of_ble_eq_true rfl⟩) (z_preV zNm0 hE hH zM_o rfl) rfl rfl hl.1 rfl (lv_room (Nat.le_of_ble_eq_true rfl)) dX11_findStages_189 ⟨Nat.le_refl 0, Nat.le_refl 0⟩) hE hH (fun H locs hH => ?_)
    refine lv_goto (tgt := 196) hx hb dX11_findStages_192 (by decide) ?_
    exact bM_X11_findStages_196 C hE K75 K81 hK75 hK81 x1 x2 x3 x4 x5 t0 x4 ((S.2 11 x4.toNatClampNeg) + (S.2 26 ((6 * (x2 + 1)) + x5).toNatClampNeg)) u4 S H locs ls hH (lv_sub hl [1, 2, 3, 4, 5, 6, 0] rfl) h
set_option maxHeartbeats 4000000 in
set_option maxRecDepth 100000 in
theorem bM_X11_findStages_151 {p : Program} {l : Launch} {e : Env} {s : State} {m : MethodId} {args : Array Value} {below : List Frame} {meth : Method} {c : Code} {D : va_G} {cI : ClassId} {q : Nat → Nat} {A : Nat → Prop} {res : Int32 × zSt} (C : zCX p s m args meth c cX11_findStages 7 (some .boolean) zU RX11) (hE : zE D [(cI, .int)] [] A s) (K75 : (Int32 → Int32 → zSt → Option (Int32 × zSt))) (K81 : (Int32 → Int32 → Int32 → zSt → Option (Int32 × zSt))) (hK75 : ∀ (x1 x2 : Int32) (S : zSt) (H : Heap) (locs : List Loc) (ls : Array Slot), zH D (zwM cI q) A s S H locs → lv_has ls 7 [(0, .ref (q 32)), (1, .int x1), (2, .int x2)] → K75 x1 x2 S = some res → W p l e rmM_X11_findStages s m args below meth c H locs 0 0 (zQi below D (zwM cI q) [(cI, .int)] A args s res.1 res.2) (F0 m 75 ls [])) (hK81 : ∀ (x1 x2 x3 : Int32) (S : zSt) (H : Heap) (locs : List Loc) (ls : Array Slot), zH D (zwM cI q) A s S H locs → lv_has ls 7 [(0, .ref (q 32)), (1, .int x1), (2, .int x2), (3, .int x3)] → K81 x1 x2 x3 S = some res → W p l e rmM_X11_findStages s m args below meth c H locs 0 0 (zQi below D (zwM cI q) [(cI, .int)] A args s res.1 res.2) (F0 m 81 ls [])) (x1 x2 x3 x4 x5 : Int32) (S : zSt) (H : Heap) (locs : List Loc) (ls : Array Slot) (hH : zH D (zwM cI q) A s S H locs) (hl : lv_has ls 7 [(0, .ref (q 32)), (1, .int x1), (2, .int x2), (3, .int x3), (4, .int x4), (5, .int x5)]) (h : fM_X11_findStages_151 K75 K81 x1 x2 x3 x4 x5 S = some res) : W p l e rmM_X11_findStages s m args below meth c H locs 0 0 (zQi below D (zwM cI q) [(cI, .int)] A args s res.1 res.2) (F0 m 151 ls []) := by
  have hx := C.1
  have hb := C.2.1
  unfold fM_X11_findStages_151 at h
  refine lv_iconst (v := 0) hx hb dX11_findStages_151 (by decide) ?_
  exact bM_X11_findStages_152 C hE K75 K81 hK75 hK81 x1 x2 x3 x4 x5 0 S H locs ls hH (lv_sub hl [0, 1, 2, 3, 4, 5] rfl) h
set_option maxHeartbeats 4000000 in
set_option maxRecDepth 100000 in
theorem bM_X11_findStages_81 {p : Program} {l : Launch} {e : Env} {s : State} {m : MethodId} {args : Array Value} {below : List Frame} {meth : Method} {c : Code} {D : va_G} {cI : ClassId} {q : Nat → Nat} {A : Nat → Prop} {res : Int32 × zSt} (C : zCX p s m args meth c cX11_findStages 7 (some .boolean) zU RX11) (hE : zE D [(cI, .int)] [] A s) (K75 : (Int32 → Int32 → zSt → Option (Int32 × zSt))) (hK75 : ∀ (x1 x2 : Int32) (S : zSt) (H : Heap) (locs : List Loc) (ls : Array Slot), zH D (zwM cI q) A s S H locs → lv_has ls 7 [(0, .ref (q 32)), (1, .int x1), (2, .int x2)] → K75 x1 x2 S = some res → W p l e rmM_X11_findStages s m args below meth c H locs 0 0 (zQi below D (zwM cI q) [(cI, .int)] A args s res.1 res.2) (F0 m 75 ls [])) : ∀ (n : Nat) (x1 x2 x3 : Int32) (S : zSt) (H : Heap) (locs : List Loc) (ls : Array Slot), zH D (zwM cI q) A s S H locs → lv_has ls 7 [(0, .ref (q 32)), (1, .int x1), (2, .int x2), (3, .int x3)] → fM_X11_findStages_81 K75 n x1 x2 x3 S = some res → W p l e rmM_X11_findStages s m args below meth c H locs 0 0 (zQi below D (zwM cI q) [(cI, .int)] A args s res.1 res.2) (F0 m 81 ls []) := by
  have hx := C.1
  have hb := C.2.1
  intro n
  induction n with
  | zero =>
    intro x1 x2 x3 S H locs ls hH hl  h
    cases h
  | succ n hK81 =>
    intro x1 x2 x3 S H locs ls hH hl  h
    rw [fM_X11_findStages_81] at h
    refine lv_iload_n hx hb dX11_findStages_81 rfl (lv_at hl 3 rfl) ?_
    refine lv_bipush (v := 6) hx hb dX11_findStages_82 (by decide) ?_
    refine lv_icmp_ge (tgt := 236) hx hb dX11_findStages_84 (by decide) (fun c1 => ?_) (fun c1 => ?_)
    · replace h := zif_t c1 h
      refine lv_iinc (v := (x2 + (-1))) (lv' := [(2, .int (x2 + (-1))), (0, .ref (q 32)), (1, .int x1), (3, .int x3)]) hx hb dX11_findStages_236 hl (k := 2) rfl rfl (by decide) rfl (fun ls hl => ?_)
      refine lv_goto (tgt := 75) hx hb dX11_findStages_239 (by decide) ?_
      exact hK75 x1 (x2 + (-1)) S H locs ls hH (lv_sub hl [1, 2, 0] rfl) h
    · replace h := zif_f c1 h
      refine lv_bipush (v := 6) hx hb dX11_findStages_87 (by decide) ?_
      refine lv_iload_n hx hb dX11_findStages_89 rfl (lv_at hl 2 rfl) ?_
      refine lv_imul hx hb dX11_findStages_90 ?_
      refine lv_iload_n hx hb dX11_findStages_91 rfl (lv_at hl 3 rfl) ?_
      refine lv_iadd hx hb dX11_findStages_92 ?_
      refine lv_istore (lv' := [(4, .int ((6 * x2) + x3)), (0, .ref (q 32)), (1, .int x1), (2, .int x2), (3, .int x3)]) hx hb dX11_findStages_93 hl (by decide) rfl (fun ls hl => ?_)
      refine lv_aload_n hx hb dX11_findStages_95 rfl (lv_at hl 1 rfl) ?_
      refine z_get C hE hH zM_o rfl zh_X11 26 (by decide) zk6_6 (fun _ h9 => h9) (v := .ref (q 26)) rfl dX11_findStages_96 ?_
      refine lv_iload hx hb dX11_findStages_99 (lv_at hl 0 rfl) ?_
      refine lv_ldc (v := 536870912) hx hb C.2.2.2.1 (C.2.2.2.2.1 _ zk35_9) dX11_findStages_101 ?_
      obtain ⟨g2, h⟩ := zgd_s h
      refine z_iast C hE hH zM_a26 (t0 := 0) rfl g2 zM_r26 dX11_findStages_103 (fun H locs hH => ?_)
      refine lv_aload_n hx hb dX11_findStages_104 rfl (lv_at hl 1 rfl) ?_
      refine z_get C hE hH zM_o rfl zh_X11 27 (by decide) zk6_7 (fun _ h9 => h9) (v := .ref (q 27)) rfl dX11_findStages_105 ?_
      refine lv_iload hx hb dX11_findStages_108 (lv_at hl 0 rfl) ?_
      refine lv_iconst (v := 0) hx hb dX11_findStages_110 (by decide) ?_
      obtain ⟨g3, h⟩ := zgd_s h
      refine z_iast C hE hH zM_a27 (t0 := 0) rfl g3 zM_r27 dX11_findStages_111 (fun H locs hH => ?_)
      refine lv_aload_n hx hb dX11_findStages_112 rfl (lv_at hl 1 rfl) ?_
      refine lv_iload_n hx hb dX11_findStages_113 rfl (lv_at hl 4 rfl) ?_
      obtain ⟨u4, e5, h⟩ := zbd_s h
      refine z_calli (va_runV (As := [.int x3]) (rest := []) (z_fix C) (cM_X11_isOffered l D cI q H.size x3 (zsR (zsR S 26 ((6 * x2) + x3).toNatClampNeg 536870912) 27 ((6 * x2) + x3).toNatClampNeg 0) e5) (cwV 1 C.2.2.2.2.1 (zGV zk31_20 zk31_21 zk31_22 zk1_5 zk31_23) rfl rfl rfl yd_X11_isOffered ⟨Nat.le_of_ble_eq_true rfl, Nat.le_of_ble_eq_true rfl⟩) (z_preV zNm0 hE hH zM_o rfl) rfl rfl hl.1 rfl (lv_room (Nat.le_of_ble_eq_true rfl)) dX11_findStages_114 ⟨Nat.le_refl 0, Nat.le_refl 0⟩) hE hH (fun H locs hH => ?_)
      refine lv_if_ne (tgt := 123) hx hb dX11_findStages_117 (by decide) (fun c6 => ?_) (fun c6 => ?_)
      · replace h := zif_f c6 h
        refine lv_aload_n hx hb dX11_findStages_123 rfl (lv_at hl 1 rfl) ?_
        refine lv_iload_n hx hb dX11_findStages_124 rfl (lv_at hl 3 rfl) ?_
        refine lv_iload_n hx hb dX11_findStages_125 rfl (lv_at hl 4 rfl) ?_
        obtain ⟨u7, e8, h⟩ := zbd_s h
        refine z_calli (va_runV (As := [.int x2, .int x3]) (rest := []) (z_fix C) (cM_X11_nextShelf l D cI q H.size x2 x3 (zsR (zsR S 26 ((6 * x2) + x3).toNatClampNeg 536870912) 27 ((6 * x2) + x3).toNatClampNeg 0) e8) (cwV 2 C.2.2.2.2.1 (zGV zk35_10 zk35_11 zk35_12 zk1_5 zk35_13) rfl rfl rfl yd_X11_nextShelf ⟨Nat.le_of_ble_eq_true rfl, Nat.le_of_ble_eq_true rfl⟩) (z_preV zNm0 hE hH zM_o rfl) rfl rfl hl.1 rfl (lv_room (Nat.le_of_ble_eq_true rfl)) dX11_findStages_126 ⟨Nat.le_refl 0, Nat.le_refl 0⟩) hE hH (fun H locs hH => ?_)
        refine lv_istore (lv' := [(5, .int u7), (4, .int ((6 * x2) + x3)), (0, .ref (q 32)), (1, .int x1), (2, .int x2), (3, .int x3)]) hx hb dX11_findStages_129 hl (by decide) rfl (fun ls hl => ?_)
        refine lv_iload hx hb dX11_findStages_131 (lv_at hl 0 rfl) ?_
        refine lv_iload_n hx hb dX11_findStages_133 rfl (lv_at hl 5 rfl) ?_
        refine lv_icmp_eq (tgt := 151) hx hb dX11_findStages_134 (by decide) (fun c9 => ?_) (fun c9 => ?_)
        · replace h := zif_t c9 h
          exact bM_X11_findStages_151 C hE K75 (fM_X11_findStages_81 K75 n) hK75 hK81 x1 x2 x3 ((6 * x2) + x3) u7 (zsR (zsR S 26 ((6 * x2) + x3).toNatClampNeg 536870912) 27 ((6 * x2) + x3).toNatClampNeg 0) H locs ls hH (lv_sub hl [2, 3, 4, 5, 1, 0] rfl) h
        · replace h := zif_f c9 h
          refine lv_iload_n hx hb dX11_findStages_137 rfl (lv_at hl 4 rfl) ?_
          refine lv_aload_n hx hb dX11_findStages_138 rfl (lv_at hl 2 rfl) ?_
          refine z_get C hE hH zM_o rfl zh_X11 2 (by decide) zk17_18 (fun _ h9 => h9) (v := .int (S.1 2)) rfl dX11_findStages_139 ?_
          refine lv_iconst (v := 1) hx hb dX11_findStages_142 (by decide) ?_
          refine lv_isub hx hb dX11_findStages_143 ?_
          refine lv_icmp_ge (tgt := 151) hx hb dX11_findStages_144 (by decide) (fun c10 => ?_) (fun c10 => ?_)
          · replace h := zif_t c10 h
            exact bM_X11_findStages_151 C hE K75 (fM_X11_findStages_81 K75 n) hK75 hK81 x1 x2 x3 ((6 * x2) + x3) u7 (zsR (zsR S 26 ((6 * x2) + x3).toNatClampNeg 536870912) 27 ((6 * x2) + x3).toNatClampNeg 0) H locs ls hH (lv_sub hl [2, 3, 4, 5, 1, 0] rfl) h
          · replace h := zif_f c10 h
            refine lv_iconst (v := 1) hx hb dX11_findStages_147 (by decide) ?_
            refine lv_goto (tgt := 152) hx hb dX11_findStages_148 (by decide) ?_
            exact bM_X11_findStages_152 C hE K75 (fM_X11_findStages_81 K75 n) hK75 hK81 x1 x2 x3 ((6 * x2) + x3) u7 1 (zsR (zsR S 26 ((6 * x2) + x3).toNatClampNeg 536870912) 27 ((6 * x2) + x3).toNatClampNeg 0) H locs ls hH (lv_sub hl [2, 3, 4, 5, 1, 0] rfl) h
      · replace h := zif_t c6 h
        refine lv_goto (tgt := 230) hx hb dX11_findStages_120 (by decide) ?_
        refine lv_iinc (v := (x3 + 1)) (lv' := [(3, .int (x3 + 1)), (4, .int ((6 * x2) + x3)), (0, .ref (q 32)), (1, .int x1), (2, .int x2)]) hx hb dX11_findStages_230 hl (k := 4) rfl rfl (by decide) rfl (fun ls hl => ?_)
        refine lv_goto (tgt := 81) hx hb dX11_findStages_233 (by decide) ?_
        exact hK81 x1 x2 (x3 + 1) (zsR (zsR S 26 ((6 * x2) + x3).toNatClampNeg 536870912) 27 ((6 * x2) + x3).toNatClampNeg 0) H locs ls hH (lv_sub hl [2, 3, 4, 0] rfl) h
set_option maxHeartbeats 4000000 in
set_option maxRecDepth 100000 in
theorem bM_X11_findStages_75 {p : Program} {l : Launch} {e : Env} {s : State} {m : MethodId} {args : Array Value} {below : List Frame} {meth : Method} {c : Code} {D : va_G} {cI : ClassId} {q : Nat → Nat} {A : Nat → Prop} {res : Int32 × zSt} (C : zCX p s m args meth c cX11_findStages 7 (some .boolean) zU RX11) (hE : zE D [(cI, .int)] [] A s) : ∀ (n : Nat) (x1 x2 : Int32) (S : zSt) (H : Heap) (locs : List Loc) (ls : Array Slot), zH D (zwM cI q) A s S H locs → lv_has ls 7 [(0, .ref (q 32)), (1, .int x1), (2, .int x2)] → fM_X11_findStages_75  n x1 x2 S = some res → W p l e rmM_X11_findStages s m args below meth c H locs 0 0 (zQi below D (zwM cI q) [(cI, .int)] A args s res.1 res.2) (F0 m 75 ls []) := by
  have hx := C.1
  have hb := C.2.1
  intro n
  induction n with
  | zero =>
    intro x1 x2 S H locs ls hH hl  h
    cases h
  | succ n hK75 =>
    intro x1 x2 S H locs ls hH hl  h
    rw [fM_X11_findStages_75] at h
    refine lv_iload_n hx hb dX11_findStages_75 rfl (lv_at hl 2 rfl) ?_
    refine lv_if_lt (tgt := 242) hx hb dX11_findStages_76 (by decide) (fun c1 => ?_) (fun c1 => ?_)
    · replace h := zif_t c1 h
      refine lv_iload_n hx hb dX11_findStages_242 rfl (lv_at hl 1 rfl) ?_
      obtain ⟨g2, h⟩ := zgd_s h
      cases h
      exact z_zret C hE hH (zbo_n g2) dX11_findStages_243
    · replace h := zif_f c1 h
      refine lv_iconst (v := 0) hx hb dX11_findStages_79 (by decide) ?_
      refine lv_istore_n (lv' := [(3, .int 0), (0, .ref (q 32)), (1, .int x1), (2, .int x2)]) hx hb dX11_findStages_80 rfl hl (by decide) rfl (fun ls hl => ?_)
      exact bM_X11_findStages_81 C hE (fM_X11_findStages_75  n) hK75 1000 x1 x2 0 S H locs ls hH (lv_sub hl [1, 2, 3, 0] rfl) h
set_option maxHeartbeats 4000000 in
set_option maxRecDepth 100000 in
theorem bM_X11_findStages_31 {p : Program} {l : Launch} {e : Env} {s : State} {m : MethodId} {args : Array Value} {below : List Frame} {meth : Method} {c : Code} {D : va_G} {cI : ClassId} {q : Nat → Nat} {A : Nat → Prop} {res : Int32 × zSt} (C : zCX p s m args meth c cX11_findStages 7 (some .boolean) zU RX11) (hE : zE D [(cI, .int)] [] A s) (K8 : (Int32 → Int32 → zSt → Option (Int32 × zSt))) (hK8 : ∀ (x1 x2 : Int32) (S : zSt) (H : Heap) (locs : List Loc) (ls : Array Slot), zH D (zwM cI q) A s S H locs → lv_has ls 7 [(0, .ref (q 32)), (1, .int x1), (2, .int x2)] → K8 x1 x2 S = some res → W p l e rmM_X11_findStages s m args below meth c H locs 0 0 (zQi below D (zwM cI q) [(cI, .int)] A args s res.1 res.2) (F0 m 8 ls [])) (x2 t0 : Int32) (S : zSt) (H : Heap) (locs : List Loc) (ls : Array Slot) (hH : zH D (zwM cI q) A s S H locs) (hl : lv_has ls 7 [(0, .ref (q 32)), (2, .int x2)]) (h : fM_X11_findStages_31 K8 x2 t0 S = some res) : W p l e rmM_X11_findStages s m args below meth c H locs 0 0 (zQi below D (zwM cI q) [(cI, .int)] A args s res.1 res.2) (F0 m 31 ls [.int t0]) := by
  have hx := C.1
  have hb := C.2.1
  unfold fM_X11_findStages_31 at h
  refine lv_istore_n (lv' := [(1, .int t0), (0, .ref (q 32)), (2, .int x2)]) hx hb dX11_findStages_31 rfl hl (by decide) rfl (fun ls hl => ?_)
  refine lv_aload_n hx hb dX11_findStages_32 rfl (lv_at hl 1 rfl) ?_
  refine z_get C hE hH zM_o rfl zh_X11 26 (by decide) zk6_6 (fun _ h9 => h9) (v := .ref (q 26)) rfl dX11_findStages_33 ?_
  refine lv_bipush (v := 6) hx hb dX11_findStages_36 (by decide) ?_
  refine lv_aload_n hx hb dX11_findStages_38 rfl (lv_at hl 1 rfl) ?_
  refine z_get C hE hH zM_o rfl zh_X11 2 (by decide) zk17_18 (fun _ h9 => h9) (v := .int (S.1 2)) rfl dX11_findStages_39 ?_
  refine lv_imul hx hb dX11_findStages_42 ?_
  refine lv_iload_n hx hb dX11_findStages_43 rfl (lv_at hl 2 rfl) ?_
  refine lv_iadd hx hb dX11_findStages_44 ?_
  refine lv_iconst (v := 0) hx hb dX11_findStages_45 (by decide) ?_
  obtain ⟨g1, h⟩ := zgd_s h
  refine z_iast C hE hH zM_a26 (t0 := 0) rfl g1 zM_r26 dX11_findStages_46 (fun H locs hH => ?_)
  refine lv_aload_n hx hb dX11_findStages_47 rfl (lv_at hl 1 rfl) ?_
  refine z_get C hE hH zM_o rfl zh_X11 27 (by decide) zk6_7 (fun _ h9 => h9) (v := .ref (q 27)) rfl dX11_findStages_48 ?_
  refine lv_bipush (v := 6) hx hb dX11_findStages_51 (by decide) ?_
  refine lv_aload_n hx hb dX11_findStages_53 rfl (lv_at hl 1 rfl) ?_
  refine z_get C hE hH zM_o rfl zh_X11 2 (by decide) zk17_18 (fun _ h9 => h9) (v := .int (S.1 2)) rfl dX11_findStages_54 ?_
  refine lv_imul hx hb dX11_findStages_57 ?_
  refine lv_iload_n hx hb dX11_findStages_58 rfl (lv_at hl 2 rfl) ?_
  refine lv_iadd hx hb dX11_findStages_59 ?_
  refine lv_iconst (v := 0) hx hb dX11_findStages_60 (by decide) ?_
  obtain ⟨g2, h⟩ := zgd_s h
  refine z_iast C hE hH zM_a27 (t0 := 0) rfl g2 zM_r27 dX11_findStages_61 (fun H locs hH => ?_)
  refine lv_iinc (v := (x2 + 1)) (lv' := [(2, .int (x2 + 1)), (1, .int t0), (0, .ref (q 32))]) hx hb dX11_findStages_62 hl (k := 2) rfl rfl (by decide) rfl (fun ls hl => ?_)
  refine lv_goto (tgt := 8) hx hb dX11_findStages_65 (by decide) ?_
  exact hK8 t0 (x2 + 1) (zsR (zsR S 26 ((6 * (S.1 2)) + x2).toNatClampNeg 0) 27 ((6 * (S.1 2)) + x2).toNatClampNeg 0) H locs ls hH (lv_sub hl [2, 1, 0] rfl) h
set_option maxHeartbeats 4000000 in
set_option maxRecDepth 100000 in
theorem bM_X11_findStages_26 {p : Program} {l : Launch} {e : Env} {s : State} {m : MethodId} {args : Array Value} {below : List Frame} {meth : Method} {c : Code} {D : va_G} {cI : ClassId} {q : Nat → Nat} {A : Nat → Prop} {res : Int32 × zSt} (C : zCX p s m args meth c cX11_findStages 7 (some .boolean) zU RX11) (hE : zE D [(cI, .int)] [] A s) (K8 : (Int32 → Int32 → zSt → Option (Int32 × zSt))) (hK8 : ∀ (x1 x2 : Int32) (S : zSt) (H : Heap) (locs : List Loc) (ls : Array Slot), zH D (zwM cI q) A s S H locs → lv_has ls 7 [(0, .ref (q 32)), (1, .int x1), (2, .int x2)] → K8 x1 x2 S = some res → W p l e rmM_X11_findStages s m args below meth c H locs 0 0 (zQi below D (zwM cI q) [(cI, .int)] A args s res.1 res.2) (F0 m 8 ls [])) (x2 : Int32) (S : zSt) (H : Heap) (locs : List Loc) (ls : Array Slot) (hH : zH D (zwM cI q) A s S H locs) (hl : lv_has ls 7 [(0, .ref (q 32)), (2, .int x2)]) (h : fM_X11_findStages_26 K8 x2 S = some res) : W p l e rmM_X11_findStages s m args below meth c H locs 0 0 (zQi below D (zwM cI q) [(cI, .int)] A args s res.1 res.2) (F0 m 26 ls []) := by
  have hx := C.1
  have hb := C.2.1
  unfold fM_X11_findStages_26 at h
  refine lv_iconst (v := 1) hx hb dX11_findStages_26 (by decide) ?_
  refine lv_goto (tgt := 31) hx hb dX11_findStages_27 (by decide) ?_
  exact bM_X11_findStages_31 C hE K8 hK8 x2 1 S H locs ls hH (lv_sub hl [0, 1] rfl) h
set_option maxHeartbeats 4000000 in
set_option maxRecDepth 100000 in
theorem bM_X11_findStages_8 {p : Program} {l : Launch} {e : Env} {s : State} {m : MethodId} {args : Array Value} {below : List Frame} {meth : Method} {c : Code} {D : va_G} {cI : ClassId} {q : Nat → Nat} {A : Nat → Prop} {res : Int32 × zSt} (C : zCX p s m args meth c cX11_findStages 7 (some .boolean) zU RX11) (hE : zE D [(cI, .int)] [] A s) : ∀ (n : Nat) (x1 x2 : Int32) (S : zSt) (H : Heap) (locs : List Loc) (ls : Array Slot), zH D (zwM cI q) A s S H locs → lv_has ls 7 [(0, .ref (q 32)), (1, .int x1), (2, .int x2)] → fM_X11_findStages_8  n x1 x2 S = some res → W p l e rmM_X11_findStages s m args below meth c H locs 0 0 (zQi below D (zwM cI q) [(cI, .int)] A args s res.1 res.2) (F0 m 8 ls []) := by
  have hx := C.1
  have hb := C.2.1
  intro n
  induction n with
  | zero =>
    intro x1 x2 S H locs ls hH hl  h
    cases h
  | succ n hK8 =>
    intro x1 x2 S H locs ls hH hl  h
    rw [fM_X11_findStages_8] at h
    refine lv_iload_n hx hb dX11_findStages_8 rfl (lv_at hl 2 rfl) ?_
    refine lv_bipush (v := 6) hx hb dX11_findStages_9 (by decide) ?_
    refine lv_icmp_ge (tgt := 68) hx hb dX11_findStages_11 (by decide) (fun c1 => ?_) (fun c1 => ?_)
    · replace h := zif_t c1 h
      refine lv_aload_n hx hb dX11_findStages_68 rfl (lv_at hl 0 rfl) ?_
      refine z_get C hE hH zM_o rfl zh_X11 2 (by decide) zk17_18 (fun _ h9 => h9) (v := .int (S.1 2)) rfl dX11_findStages_69 ?_
      refine lv_iconst (v := 1) hx hb dX11_findStages_72 (by decide) ?_
      refine lv_isub hx hb dX11_findStages_73 ?_
      refine lv_istore_n (lv' := [(2, .int ((S.1 2) - 1)), (0, .ref (q 32)), (1, .int x1)]) hx hb dX11_findStages_74 rfl hl (by decide) rfl (fun ls hl => ?_)
      exact bM_X11_findStages_75 C hE   1000 x1 ((S.1 2) - 1) S H locs ls hH (lv_sub hl [1, 2, 0] rfl) h
    · replace h := zif_f c1 h
      refine lv_iload_n hx hb dX11_findStages_14 rfl (lv_at hl 1 rfl) ?_
      refine lv_if_ne (tgt := 26) hx hb dX11_findStages_15 (by decide) (fun c2 => ?_) (fun c2 => ?_)
      · replace h := zif_f c2 h
        exact bM_X11_findStages_26 C hE (fM_X11_findStages_8  n) hK8 x2 S H locs ls hH (lv_sub hl [0, 2] rfl) h
      · replace h := zif_t c2 h
        refine lv_aload_n hx hb dX11_findStages_18 rfl (lv_at hl 0 rfl) ?_
        refine lv_iload_n hx hb dX11_findStages_19 rfl (lv_at hl 2 rfl) ?_
        obtain ⟨u3, e4, h⟩ := zbd_s h
        refine z_calli (va_runV (As := [.int x2]) (rest := []) (z_fix C) (cM_X11_isOffered l D cI q H.size x2 S e4) (cwV 1 C.2.2.2.2.1 (zGV zk31_20 zk31_21 zk31_22 zk1_5 zk31_23) rfl rfl rfl yd_X11_isOffered ⟨Nat.le_of_ble_eq_true rfl, Nat.le_of_ble_eq_true rfl⟩) (z_preV zNm0 hE hH zM_o rfl) rfl rfl hl.1 rfl (lv_room (Nat.le_of_ble_eq_true rfl)) dX11_findStages_20 ⟨Nat.le_refl 0, Nat.le_refl 0⟩) hE hH (fun H locs hH => ?_)
        refine lv_if_eq (tgt := 30) hx hb dX11_findStages_23 (by decide) (fun c5 => ?_) (fun c5 => ?_)
        · replace h := zif_t c5 h
          refine lv_iconst (v := 0) hx hb dX11_findStages_30 (by decide) ?_
          exact bM_X11_findStages_31 C hE (fM_X11_findStages_8  n) hK8 x2 0 S H locs ls hH (lv_sub hl [0, 2] rfl) h
        · replace h := zif_f c5 h
          exact bM_X11_findStages_26 C hE (fM_X11_findStages_8  n) hK8 x2 S H locs ls hH (lv_sub hl [0, 2] rfl) h
set_option maxHeartbeats 4000000 in
set_option maxRecDepth 100000 in
theorem bM_X11_findStages {p : Program} {l : Launch} {e : Env} {s : State} {m : MethodId} {args : Array Value} {below : List Frame} {meth : Method} {c : Code} {D : va_G} {cI : ClassId} {q : Nat → Nat} {A : Nat → Prop} {res : Int32 × zSt} (C : zCX p s m args meth c cX11_findStages 7 (some .boolean) zU RX11) (hE : zE D [(cI, .int)] [] A s) (S : zSt) (H : Heap) (locs : List Loc) (ls : Array Slot) (hH : zH D (zwM cI q) A s S H locs) (hl : lv_has ls 7 [(0, .ref (q 32))]) (h : fM_X11_findStages   S = some res) : W p l e rmM_X11_findStages s m args below meth c H locs 0 0 (zQi below D (zwM cI q) [(cI, .int)] A args s res.1 res.2) (F0 m 0 ls []) := by
  have hx := C.1
  have hb := C.2.1
  unfold fM_X11_findStages at h
  refine lv_aload_n hx hb dX11_findStages_0 rfl (lv_at hl 0 rfl) ?_
  obtain ⟨u1, e2, h⟩ := zbd_s h
  refine z_callv (va_runV (As := []) (rest := []) (z_fix C) (cM_X11_doAll l D cI q H.size  S e2) (cwV 0 C.2.2.2.2.1 (zGV zk21_21 zk21_22 zk21_23 zk1_5 zk22_0) rfl rfl rfl yd_X11_doAll ⟨Nat.le_of_ble_eq_true rfl, Nat.le_of_ble_eq_true rfl⟩) (z_preV zNm0 hE hH zM_o rfl) rfl rfl hl.1 rfl (lv_room (Nat.le_of_ble_eq_true rfl)) dX11_findStages_1 ⟨Nat.le_refl 0, Nat.le_refl 0⟩) hE hH (fun H locs hH => ?_)
  refine lv_iconst (v := 0) hx hb dX11_findStages_4 (by decide) ?_
  refine lv_istore_n (lv' := [(1, .int 0), (0, .ref (q 32))]) hx hb dX11_findStages_5 rfl hl (by decide) rfl (fun ls hl => ?_)
  refine lv_iconst (v := 0) hx hb dX11_findStages_6 (by decide) ?_
  refine lv_istore_n (lv' := [(2, .int 0), (1, .int 0), (0, .ref (q 32))]) hx hb dX11_findStages_7 rfl hl (by decide) rfl (fun ls hl => ?_)
  exact bM_X11_findStages_8 C hE   1000 0 0 u1 H locs ls hH (lv_sub hl [2, 1, 0] rfl) h
set_option maxHeartbeats 4000000 in
set_option maxRecDepth 100000 in
theorem cM_X11_findStages (l : Launch) (D : va_G) (cI : ClassId) (q : Nat → Nat) (sz : Nat) (S : zSt) {res : Int32 × zSt} (h : fM_X11_findStages  S = some res) : zMi l yX11_findStages vsX11_findStages rmM_X11_findStages [.ref (q 32)] D (zwM cI q) [(cI, .int)] [] sz S res.1 res.2 := by
  refine Met.ofW (cc := cX11_findStages) (maxL := 7) (ret := (some .boolean)) (by decide) rfl ?_
  intro p e s m args below meth c s₁ B hml hv
  obtain ⟨rfl, rfl, hP, hK, hD0, hN⟩ := hv
  have hl := lv_entry ([.ref (q 32)]) (n := 7) (Nat.le_of_ble_eq_true rfl)
  rw [lg_entry_eq]
  generalize (lg_sl ([.ref (q 32)]) ++ List.replicate (7 - (lg_sl ([.ref (q 32)])).length) Slot.unset).toArray = ls at hl ⊢
  exact bM_X11_findStages ⟨B.exec, B.bytes, hml, findClass_of_methodNamed B.named, fun w h => atoms_spec (ws := vsX11_findStages) B.pre w (List.mem_cons_of_mem _ h), B.returns, B.notSynchronized⟩ ⟨hK, fun q h => Or.inr h, hN⟩  S s.heap [] ls ⟨hP, hD0.self, va_S.rf⟩ hl  h

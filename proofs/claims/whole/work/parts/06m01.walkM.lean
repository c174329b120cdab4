def rmM_X11_takeOut_hashKey : Room := { frames := 0, cells := 0, slots := 0, locals := 0 }
set_option maxHeartbeats 4000000 in
set_option maxRecDepth 100000 in
theorem bM_X11_takeOut_hashKey_2 {p : Program} {l : Launch} {e : Env} {s : State} {m : MethodId} {args : Array Value} {below : List Frame} {meth : Method} {c : Code} {D : va_G} {cI : ClassId} {q : Nat → Nat} {A : Nat → Prop} {res : zSt} (C : zCX p s m args meth c cX11_takeOut 4 none zU RX11) (hE : zE D [(cI, .int)] [] A s) : ∀ (n : Nat) (x1 x3 : Int32) (S : zSt) (H : Heap) (locs : List Loc) (ls : Array Slot), zH D (zwM cI q) A s S H locs → lv_has ls 4 [(0, .ref (q 19)), (1, .int x1), (3, .int x3)] → fM_X11_takeOut_hashKey_2  n x1 x3 S = some res → W p l e rmM_X11_takeOut_hashKey s m args below meth c H locs 0 0 (zQv below D (zwM cI q) [(cI, .int)] A args s res) (F0 m 2 ls []) := by
  have hx := C.1
  have hb := C.2.1
  intro n
  induction n with
  | zero =>
    intro x1 x3 S H locs ls hH hl  h
    cases h
  | succ n hK2 =>
    intro x1 x3 S H locs ls hH hl  h
    rw [fM_X11_takeOut_hashKey_2] at h
    refine lv_iload_n hx hb dX11_takeOut_2 rfl (lv_at hl 2 rfl) ?_
    refine lv_iload_n hx hb dX11_takeOut_3 rfl (lv_at hl 1 rfl) ?_
    refine lv_iconst (v := 1) hx hb dX11_takeOut_4 (by decide) ?_
    refine lv_isub hx hb dX11_takeOut_5 ?_
    refine lv_icmp_ge (tgt := 23) hx hb dX11_takeOut_6 (by decide) (fun c1 => ?_) (fun c1 => ?_)
    · replace h := zif_t c1 h
      cases h
      exact z_vret C hE hH dX11_takeOut_23
    · replace h := zif_f c1 h
      refine lv_aload_n hx hb dX11_takeOut_9 rfl (lv_at hl 0 rfl) ?_
      refine lv_iload_n hx hb dX11_takeOut_10 rfl (lv_at hl 2 rfl) ?_
      refine lv_aload_n hx hb dX11_takeOut_11 rfl (lv_at hl 0 rfl) ?_
      refine lv_iload_n hx hb dX11_takeOut_12 rfl (lv_at hl 2 rfl) ?_
      refine lv_iconst (v := 1) hx hb dX11_takeOut_13 (by decide) ?_
      refine lv_iadd hx hb dX11_takeOut_14 ?_
      obtain ⟨g2, h⟩ := zgd_s h
      refine z_iald C hE hH zM_a19 (t0 := 0) rfl g2 dX11_takeOut_15 ?_
      obtain ⟨g3, h⟩ := zgd_s h
      refine z_iast C hE hH zM_a19 (t0 := 0) rfl g3 zM_r19 dX11_takeOut_16 (fun H locs hH => ?_)
      refine lv_iinc (v := (x3 + 1)) (lv' := [(3, .int (x3 + 1)), (0, .ref (q 19)), (1, .int x1)]) hx hb dX11_takeOut_17 hl (k := 2) rfl rfl (by decide) rfl (fun ls hl => ?_)
      refine lv_goto (tgt := 2) hx hb dX11_takeOut_20 (by decide) ?_
      exact hK2 x1 (x3 + 1) (zsR S 19 x3.toNatClampNeg (S.2 19 (x3 + 1).toNatClampNeg)) H locs ls hH (lv_sub hl [1, 2, 0] rfl) h
set_option maxHeartbeats 4000000 in
set_option maxRecDepth 100000 in
theorem bM_X11_takeOut_hashKey {p : Program} {l : Launch} {e : Env} {s : State} {m : MethodId} {args : Array Value} {below : List Frame} {meth : Method} {c : Code} {D : va_G} {cI : ClassId} {q : Nat → Nat} {A : Nat → Prop} {res : zSt} (C : zCX p s m args meth c cX11_takeOut 4 none zU RX11) (hE : zE D [(cI, .int)] [] A s) (x1 x2 : Int32) (S : zSt) (H : Heap) (locs : List Loc) (ls : Array Slot) (hH : zH D (zwM cI q) A s S H locs) (hl : lv_has ls 4 [(0, .ref (q 19)), (1, .int x1), (2, .int x2)]) (h : fM_X11_takeOut_hashKey  x1 x2 S = some res) : W p l e rmM_X11_takeOut_hashKey s m args below meth c H locs 0 0 (zQv below D (zwM cI q) [(cI, .int)] A args s res) (F0 m 0 ls []) := by
  have hx := C.1
  have hb := C.2.1
  unfold fM_X11_takeOut_hashKey at h
  refine lv_iload_n hx hb dX11_takeOut_0 rfl (lv_at hl 2 rfl) ?_
  refine lv_istore_n (lv' := [(3, .int x2), (0, .ref (q 19)), (1, .int x1), (2, .int x2)]) hx hb dX11_takeOut_1 rfl hl (by decide) rfl (fun ls hl => ?_)
  exact bM_X11_takeOut_hashKey_2 C hE   1000 x1 x2 S H locs ls hH (lv_sub hl [1, 2, 0] rfl) h
set_option maxHeartbeats 4000000 in
set_option maxRecDepth 100000 in
theorem cM_X11_takeOut_hashKey (l : Launch) (D : va_G) (cI : ClassId) (q : Nat → Nat) (sz : Nat) (x1 : Int32) (x2 : Int32) (S : zSt) {res : zSt} (h : fM_X11_takeOut_hashKey x1 x2 S = some res) : zMv l yX11_takeOut vsX11_takeOut rmM_X11_takeOut_hashKey [.ref (q 19), .int x1, .int x2] D (zwM cI q) [(cI, .int)] [] sz S res := by
  refine Met.ofW (cc := cX11_takeOut) (maxL := 4) (ret := none) (by decide) rfl ?_
  intro p e s m args below meth c s₁ B hml hv
  obtain ⟨rfl, rfl, hP, hK, hD0, hN⟩ := hv
  have hl := lv_entry ([.ref (q 19), .int x1, .int x2]) (n := 4) (Nat.le_of_ble_eq_true rfl)
  rw [lg_entry_eq]
  generalize (lg_sl ([.ref (q 19), .int x1, .int x2]) ++ List.replicate (4 - (lg_sl ([.ref (q 19), .int x1, .int x2])).length) Slot.unset).toArray = ls at hl ⊢
  exact bM_X11_takeOut_hashKey ⟨B.exec, B.bytes, hml, findClass_of_methodNamed B.named, fun w h => atoms_spec (ws := vsX11_takeOut) B.pre w (List.mem_cons_of_mem _ h), B.returns, B.notSynchronized⟩ ⟨hK, fun q h => Or.inr h, hN⟩ x1 x2 S s.heap [] ls ⟨hP, hD0.self, va_S.rf⟩ hl  h
def rmM_X11_takeOut_hashStamp : Room := { frames := 0, cells := 0, slots := 0, locals := 0 }
set_option maxHeartbeats 4000000 in
set_option maxRecDepth 100000 in
theorem bM_X11_takeOut_hashStamp_2 {p : Program} {l : Launch} {e : Env} {s : State} {m : MethodId} {args : Array Value} {below : List Frame} {meth : Method} {c : Code} {D : va_G} {cI : ClassId} {q : Nat → Nat} {A : Nat → Prop} {res : zSt} (C : zCX p s m args meth c cX11_takeOut 4 none zU RX11) (hE : zE D [(cI, .int)] [] A s) : ∀ (n : Nat) (x1 x3 : Int32) (S : zSt) (H : Heap) (locs : List Loc) (ls : Array Slot), zH D (zwM cI q) A s S H locs → lv_has ls 4 [(0, .ref (q 20)), (1, .int x1), (3, .int x3)] → fM_X11_takeOut_hashStamp_2  n x1 x3 S = some res → W p l e rmM_X11_takeOut_hashStamp s m args below meth c H locs 0 0 (zQv below D (zwM cI q) [(cI, .int)] A args s res) (F0 m 2 ls []) := by
  have hx := C.1
  have hb := C.2.1
  intro n
  induction n with
  | zero =>
    intro x1 x3 S H locs ls hH hl  h
    cases h
  | succ n hK2 =>
    intro x1 x3 S H locs ls hH hl  h
    rw [fM_X11_takeOut_hashStamp_2] at h
    refine lv_iload_n hx hb dX11_takeOut_2 rfl (lv_at hl 2 rfl) ?_
    refine lv_iload_n hx hb dX11_takeOut_3 rfl (lv_at hl 1 rfl) ?_
    refine lv_iconst (v := 1) hx hb dX11_takeOut_4 (by decide) ?_
    refine lv_isub hx hb dX11_takeOut_5 ?_
    refine lv_icmp_ge (tgt := 23) hx hb dX11_takeOut_6 (by decide) (fun c1 => ?_) (fun c1 => ?_)
    · replace h := zif_t c1 h
      cases h
      exact z_vret C hE hH dX11_takeOut_23
    · replace h := zif_f c1 h
      refine lv_aload_n hx hb dX11_takeOut_9 rfl (lv_at hl 0 rfl) ?_
      refine lv_iload_n hx hb dX11_takeOut_10 rfl (lv_at hl 2 rfl) ?_
      refine lv_aload_n hx hb dX11_takeOut_11 rfl (lv_at hl 0 rfl) ?_
      refine lv_iload_n hx hb dX11_takeOut_12 rfl (lv_at hl 2 rfl) ?_
      refine lv_iconst (v := 1) hx hb dX11_takeOut_13 (by decide) ?_
      refine lv_iadd hx hb dX11_takeOut_14 ?_
      obtain ⟨g2, h⟩ := zgd_s h
      refine z_iald C hE hH zM_a20 (t0 := 0) rfl g2 dX11_takeOut_15 ?_
      obtain ⟨g3, h⟩ := zgd_s h
      refine z_iast C hE hH zM_a20 (t0 := 0) rfl g3 zM_r20 dX11_takeOut_16 (fun H locs hH => ?_)
      refine lv_iinc (v := (x3 + 1)) (lv' := [(3, .int (x3 + 1)), (0, .ref (q 20)), (1, .int x1)]) hx hb dX11_takeOut_17 hl (k := 2) rfl rfl (by decide) rfl (fun ls hl => ?_)
      refine lv_goto (tgt := 2) hx hb dX11_takeOut_20 (by decide) ?_
      exact hK2 x1 (x3 + 1) (zsR S 20 x3.toNatClampNeg (S.2 20 (x3 + 1).toNatClampNeg)) H locs ls hH (lv_sub hl [1, 2, 0] rfl) h
set_option maxHeartbeats 4000000 in
set_option maxRecDepth 100000 in
theorem bM_X11_takeOut_hashStamp {p : Program} {l : Launch} {e : Env} {s : State} {m : MethodId} {args : Array Value} {below : List Frame} {meth : Method} {c : Code} {D : va_G} {cI : ClassId} {q : Nat → Nat} {A : Nat → Prop} {res : zSt} (C : zCX p s m args meth c cX11_takeOut 4 none zU RX11) (hE : zE D [(cI, .int)] [] A s) (x1 x2 : Int32) (S : zSt) (H : Heap) (locs : List Loc) (ls : Array Slot) (hH : zH D (zwM cI q) A s S H locs) (hl : lv_has ls 4 [(0, .ref (q 20)), (1, .int x1), (2, .int x2)]) (h : fM_X11_takeOut_hashStamp  x1 x2 S = some res) : W p l e rmM_X11_takeOut_hashStamp s m args below meth c H locs 0 0 (zQv below D (zwM cI q) [(cI, .int)] A args s res) (F0 m 0 ls []) := by
  have hx := C.1
  have hb := C.2.1
  unfold fM_X11_takeOut_hashStamp at h
  refine lv_iload_n hx hb dX11_takeOut_0 rfl (lv_at hl 2 rfl) ?_
  refine lv_istore_n (lv' := [(3, .int x2), (0, .ref (q 20)), (1, .int x1), (2, .int x2)]) hx hb dX11_takeOut_1 rfl hl (by decide) rfl (fun ls hl => ?_)
  exact bM_X11_takeOut_hashStamp_2 C hE   1000 x1 x2 S H locs ls hH (lv_sub hl [1, 2, 0] rfl) h
set_option maxHeartbeats 4000000 in
set_option maxRecDepth 100000 in
theorem cM_X11_takeOut_hashStamp (l : Launch) (D : va_G) (cI : ClassId) (q : Nat → Nat) (sz : Nat) (x1 : Int32) (x2 : Int32) (S : zSt) {res : zSt} (h : fM_X11_takeOut_hashStamp x1 x2 S = some res) : zMv l yX11_takeOut vsX11_takeOut rmM_X11_takeOut_hashStamp [.ref (q 20), .int x1, .int x2] D (zwM cI q) [(cI, .int)] [] sz S res := by
  refine Met.ofW (cc := cX11_takeOut) (maxL := 4) (ret := none) (by decide) rfl ?_
  intro p e s m args below meth c s₁ B hml hv
  obtain ⟨rfl, rfl, hP, hK, hD0, hN⟩ := hv
  have hl := lv_entry ([.ref (q 20), .int x1, .int x2]) (n := 4) (Nat.le_of_ble_eq_true rfl)
  rw [lg_entry_eq]
  generalize (lg_sl ([.ref (q 20), .int x1, .int x2]) ++ List.replicate (4 - (lg_sl ([.ref (q 20), .int x1, .int x2])).length) Slot.unset).toArray = ls at hl ⊢
  exact bM_X11_takeOut_hashStamp ⟨B.exec, B.bytes, hml, findClass_of_methodNamed B.named, fun w h => atoms_spec (ws := vsX11_takeOut) B.pre w (List.mem_cons_of_mem _ h), B.returns, B.notSynchronized⟩ ⟨hK, fun q h => Or.inr h, hN⟩ x1 x2 S s.heap [] ls ⟨hP, hD0.self, va_S.rf⟩ hl  h
def rmM_X11_onHash : Room := { frames := 2, cells := 0, slots := 0, locals := 50 }
set_option maxHeartbeats 4000000 in
set_option maxRecDepth 100000 in
theorem bM_X11_onHash_109 {p : Program} {l : Launch} {e : Env} {s : State} {m : MethodId} {args : Array Value} {below : List Frame} {meth : Method} {c : Code} {D : va_G} {cI : ClassId} {q : Nat → Nat} {A : Nat → Prop} {res : Int32 × zSt} (C : zCX p s m args meth c cX11_onHash 6 (some .int) zU RX11) (hE : zE D [(cI, .int)] [] A s) (x2 x5 : Int32) (S : zSt) (H : Heap) (locs : List Loc) (ls : Array Slot) (hH : zH D (zwM cI q) A s S H locs) (hl : lv_has ls 6 [(0, .ref (q 32)), (2, .int x2), (5, .int x5)]) (h : fM_X11_onHash_109  x2 x5 S = some res) : W p l e rmM_X11_onHash s m args below meth c H locs 0 0 (zQi below D (zwM cI q) [(cI, .int)] A args s res.1 res.2) (F0 m 109 ls []) := by
  have hx := C.1
  have hb := C.2.1
  unfold fM_X11_onHash_109 at h
  refine lv_aload_n hx hb dX11_onHash_109 rfl (lv_at hl 0 rfl) ?_
  refine lv_dup hx hb dX11_onHash_110 rfl ?_
  refine z_get C hE hH zM_o rfl zh_X11 22 (by decide) zk22_3 (fun _ h9 => h9) (v := .int (S.1 22)) rfl dX11_onHash_111 ?_
  refine lv_iconst (v := 1) hx hb dX11_onHash_114 (by decide) ?_
  refine lv_iadd hx hb dX11_onHash_115 ?_
  refine z_put C hE hH zM_o rfl zh_X11 tyX11_ok nmX11 22 (by decide) zk22_3 (fun _ h9 => h9) rfl (ty := .int) rfl rfl rfl (Nat.le_of_ble_eq_true rfl) zM_i22 dX11_onHash_116 (fun H locs hH => ?_)
  refine lv_aload_n hx hb dX11_onHash_119 rfl (lv_at hl 0 rfl) ?_
  refine z_get C hE hH zM_o rfl zh_X11 19 (by decide) zk6_2 (fun _ h9 => h9) (v := .ref (q 19)) rfl dX11_onHash_120 ?_
  refine lv_aload_n hx hb dX11_onHash_123 rfl (lv_at hl 0 rfl) ?_
  refine z_get C hE hH zM_o rfl zh_X11 18 (by decide) zk22_1 (fun _ h9 => h9) (v := .int (S.1 18)) rfl dX11_onHash_124 ?_
  refine lv_iload_n hx hb dX11_onHash_127 rfl (lv_at hl 1 rfl) ?_
  obtain ⟨g1, h⟩ := zgd_s h
  refine z_iast C hE hH zM_a19 (t0 := 0) rfl g1 zM_r19 dX11_onHash_128 (fun H locs hH => ?_)
  refine lv_aload_n hx hb dX11_onHash_129 rfl (lv_at hl 0 rfl) ?_
  refine z_get C hE hH zM_o rfl zh_X11 20 (by decide) zk6_3 (fun _ h9 => h9) (v := .ref (q 20)) rfl dX11_onHash_130 ?_
  refine lv_aload_n hx hb dX11_onHash_133 rfl (lv_at hl 0 rfl) ?_
  refine z_get C hE hH zM_o rfl zh_X11 18 (by decide) zk22_1 (fun _ h9 => h9) (v := .int (S.1 18)) rfl dX11_onHash_134 ?_
  refine lv_aload_n hx hb dX11_onHash_137 rfl (lv_at hl 0 rfl) ?_
  refine z_get C hE hH zM_o rfl zh_X11 22 (by decide) zk22_3 (fun _ h9 => h9) (v := .int ((S.1 22) + 1)) rfl dX11_onHash_138 ?_
  obtain ⟨g2, h⟩ := zgd_s h
  refine z_iast C hE hH zM_a20 (t0 := 0) rfl g2 zM_r20 dX11_onHash_141 (fun H locs hH => ?_)
  refine lv_iload hx hb dX11_onHash_142 (lv_at hl 2 rfl) ?_
  cases h
  exact z_iret C hE hH dX11_onHash_144
set_option maxHeartbeats 4000000 in
set_option maxRecDepth 100000 in
theorem bM_X11_onHash_29 {p : Program} {l : Launch} {e : Env} {s : State} {m : MethodId} {args : Array Value} {below : List Frame} {meth : Method} {c : Code} {D : va_G} {cI : ClassId} {q : Nat → Nat} {A : Nat → Prop} {res : Int32 × zSt} (C : zCX p s m args meth c cX11_onHash 6 (some .int) zU RX11) (hE : zE D [(cI, .int)] [] A s) (x1 x2 x3 t0 : Int32) (S : zSt) (H : Heap) (locs : List Loc) (ls : Array Slot) (hH : zH D (zwM cI q) A s S H locs) (hl : lv_has ls 6 [(0, .ref (q 32)), (1, .int x1), (2, .int x2), (3, .int x3)]) (h : fM_X11_onHash_29  x1 x2 x3 t0 S = some res) : W p l e rmM_X11_onHash s m args below meth c H locs 0 0 (zQi below D (zwM cI q) [(cI, .int)] A args s res.1 res.2) (F0 m 29 ls [.int t0]) := by
  have hx := C.1
  have hb := C.2.1
  unfold fM_X11_onHash_29 at h
  refine lv_istore (lv' := [(4, .int t0), (0, .ref (q 32)), (1, .int x1), (2, .int x2), (3, .int x3)]) hx hb dX11_onHash_29 hl (by decide) rfl (fun ls hl => ?_)
  refine lv_iload_n hx hb dX11_onHash_31 rfl (lv_at hl 2 rfl) ?_
  by_cases c1_0 : x1 = 0
  · replace h := zif_t c1_0 h
    refine lv_tableIn (tgt := 80) hx hb dX11_onHash_32 (by rw [c1_0]; decide) (by rw [c1_0]; decide) (by rw [c1_0]; rfl) (by decide) ?_
    refine lv_iconst (v := 1) hx hb dX11_onHash_80 (by decide) ?_
    refine lv_istore (lv' := [(5, .int 1), (4, .int t0), (0, .ref (q 32)), (1, .int x1), (2, .int x2), (3, .int x3)]) hx hb dX11_onHash_81 hl (by decide) rfl (fun ls hl => ?_)
    refine lv_aload_n hx hb dX11_onHash_83 rfl (lv_at hl 2 rfl) ?_
    refine z_get C hE hH zM_o rfl zh_X11 18 (by decide) zk22_1 (fun _ h9 => h9) (v := .int (S.1 18)) rfl dX11_onHash_84 ?_
    refine lv_iconst (v := 2) hx hb dX11_onHash_87 (by decide) ?_
    refine lv_aload_n hx hb dX11_onHash_88 rfl (lv_at hl 2 rfl) ?_
    refine z_get C hE hH zM_o rfl zh_X11 21 (by decide) zk22_2 (fun _ h9 => h9) (v := .int (S.1 21)) rfl dX11_onHash_89 ?_
    refine lv_imul hx hb dX11_onHash_92 ?_
    refine lv_icmp_ne (tgt := 109) hx hb dX11_onHash_93 (by decide) (fun c2 => ?_) (fun c2 => ?_)
    · replace h := zif_f c2 h
      exact bM_X11_onHash_109 C hE   x2 1 S H locs ls hH (lv_sub hl [2, 4, 0] rfl) h
    · replace h := zif_t c2 h
      refine lv_aload_n hx hb dX11_onHash_96 rfl (lv_at hl 2 rfl) ?_
      obtain ⟨u3, e4, h⟩ := zbd_s h
      refine z_callv (va_runV (As := []) (rest := []) (z_fix C) (cM_X11_rehash l D cI q H.size  S e4) (cwV 0 C.2.2.2.2.1 (zGV zk24_8 zk24_9 zk24_10 zk1_5 zk24_11) rfl rfl rfl yd_X11_rehash ⟨Nat.le_of_ble_eq_true rfl, Nat.le_of_ble_eq_true rfl⟩) (z_preV zNm0 hE hH zM_o rfl) rfl rfl hl.1 rfl (lv_room (Nat.le_of_ble_eq_true rfl)) dX11_onHash_97 ⟨Nat.le_refl 0, Nat.le_refl 0⟩) hE hH (fun H locs hH => ?_)
      refine lv_iload hx hb dX11_onHash_100 (lv_at hl 0 rfl) ?_
      refine lv_aload_n hx hb dX11_onHash_102 rfl (lv_at hl 2 rfl) ?_
      refine z_get C hE hH zM_o rfl zh_X11 18 (by decide) zk22_1 (fun _ h9 => h9) (v := .int (u3.1 18)) rfl dX11_onHash_103 ?_
      refine lv_iadd hx hb dX11_onHash_106 ?_
      refine lv_istore (lv' := [(5, .int (1 + (u3.1 18))), (4, .int t0), (0, .ref (q 32)), (1, .int x1), (2, .int x2), (3, .int x3)]) hx hb dX11_onHash_107 hl (by decide) rfl (fun ls hl => ?_)
      exact bM_X11_onHash_109 C hE   x2 (1 + (u3.1 18)) u3 H locs ls hH (lv_sub hl [2, 4, 0] rfl) h
  · replace h := zif_f c1_0 h
    by_cases c1_1 : x1 = 1
    · replace h := zif_t c1_1 h
      refine lv_tableIn (tgt := 145) hx hb dX11_onHash_32 (by rw [c1_1]; decide) (by rw [c1_1]; decide) (by rw [c1_1]; rfl) (by decide) ?_
      refine lv_iload hx hb dX11_onHash_145 (lv_at hl 0 rfl) ?_
      cases h
      exact z_iret C hE hH dX11_onHash_147
    · replace h := zif_f c1_1 h
      by_cases c1_2 : x1 = 2
      · replace h := zif_t c1_2 h
        refine lv_tableIn (tgt := 148) hx hb dX11_onHash_32 (by rw [c1_2]; decide) (by rw [c1_2]; decide) (by rw [c1_2]; rfl) (by decide) ?_
        refine lv_iload_n hx hb dX11_onHash_148 rfl (lv_at hl 4 rfl) ?_
        refine lv_iconst (v := (-1)) hx hb dX11_onHash_149 (by decide) ?_
        refine lv_icmp_ne (tgt := 156) hx hb dX11_onHash_150 (by decide) (fun c5 => ?_) (fun c5 => ?_)
        · replace h := zif_f c5 h
          refine lv_aload_n hx hb dX11_onHash_156 rfl (lv_at hl 1 rfl) ?_
          refine lv_iload_n hx hb dX11_onHash_157 rfl (lv_at hl 3 rfl) ?_
          refine lv_aload_n hx hb dX11_onHash_158 rfl (lv_at hl 1 rfl) ?_
          refine z_get C hE hH zM_o rfl zh_X11 21 (by decide) zk22_2 (fun _ h9 => h9) (v := .int (S.1 21)) rfl dX11_onHash_159 ?_
          obtain ⟨g6, h⟩ := zgd_s h
          refine lv_irem hx hb dX11_onHash_162 (znz_v g6) ?_
          refine lv_iload_n hx hb dX11_onHash_163 rfl (lv_at hl 4 rfl) ?_
          refine lv_aload_n hx hb dX11_onHash_164 rfl (lv_at hl 1 rfl) ?_
          refine z_get C hE hH zM_o rfl zh_X11 18 (by decide) zk22_1 (fun _ h9 => h9) (v := .int (S.1 18)) rfl dX11_onHash_165 ?_
          obtain ⟨u7, e8, h⟩ := zbd_s h
          refine z_calli (va_runV (As := [.int (zrem x2 (S.1 21)), .int x3, .int (S.1 18)]) (rest := []) (z_fix C) (cM_X11_thingAt l D cI q H.size (zrem x2 (S.1 21)) x3 (S.1 18) S e8) (cwV 3 C.2.2.2.2.1 (zGV zk24_12 zk24_13 zk24_14 zk1_5 zk24_15) rfl rfl rfl yd_X11_thingAt ⟨Nat.le_of_ble_eq_true rfl, Nat.le_of_ble_eq_true rfl⟩) (z_preV zNm0 hE hH zM_o rfl) rfl rfl hl.1 rfl (lv_room (Nat.le_of_ble_eq_true rfl)) dX11_onHash_168 ⟨Nat.le_refl 0, Nat.le_refl 0⟩) hE hH (fun H locs hH => ?_)
          refine lv_istore (lv' := [(5, .int u7), (4, .int t0), (0, .ref (q 32)), (1, .int x1), (2, .int x2), (3, .int x3)]) hx hb dX11_onHash_171 hl (by decide) rfl (fun ls hl => ?_)
          refine lv_aload_n hx hb dX11_onHash_173 rfl (lv_at hl 2 rfl) ?_
          refine z_get C hE hH zM_o rfl zh_X11 19 (by decide) zk6_2 (fun _ h9 => h9) (v := .ref (q 19)) rfl dX11_onHash_174 ?_
          refine lv_aload_n hx hb dX11_onHash_177 rfl (lv_at hl 2 rfl) ?_
          refine z_get C hE hH zM_o rfl zh_X11 18 (by decide) zk22_1 (fun _ h9 => h9) (v := .int (S.1 18)) rfl dX11_onHash_178 ?_
          refine lv_iload hx hb dX11_onHash_181 (lv_at hl 0 rfl) ?_
          obtain ⟨u9, e10, h⟩ := zbd_s h
          refine z_callv (va_runS (As := [.ref (q 19), .int (S.1 18), .int u7]) (rest := []) (z_fix C) (cM_X11_takeOut_hashKey l D cI q H.size (S.1 18) u7 S e10) (va_cwS 3 C.2.2.2.2.1 (zGS zk23_8 zk23_9 zk1_5 zk23_10) rfl rfl rfl yd_X11_takeOut ⟨Nat.le_of_ble_eq_true rfl, Nat.le_of_ble_eq_true rfl⟩) (z_preS zNm0 hE hH) rfl rfl hl.1 rfl (lv_room (Nat.le_of_ble_eq_true rfl)) dX11_onHash_183 ⟨Nat.le_refl 0, Nat.le_refl 0⟩) hE hH (fun H locs hH => ?_)
          refine lv_aload_n hx hb dX11_onHash_186 rfl (lv_at hl 2 rfl) ?_
          refine z_get C hE hH zM_o rfl zh_X11 20 (by decide) zk6_3 (fun _ h9 => h9) (v := .ref (q 20)) rfl dX11_onHash_187 ?_
          refine lv_aload_n hx hb dX11_onHash_190 rfl (lv_at hl 2 rfl) ?_
          refine z_get C hE hH zM_o rfl zh_X11 18 (by decide) zk22_1 (fun _ h9 => h9) (v := .int (u9.1 18)) rfl dX11_onHash_191 ?_
          refine lv_iload hx hb dX11_onHash_194 (lv_at hl 0 rfl) ?_
          obtain ⟨u11, e12, h⟩ := zbd_s h
          refine z_callv (va_runS (As := [.ref (q 20), .int (u9.1 18), .int u7]) (rest := []) (z_fix C) (cM_X11_takeOut_hashStamp l D cI q H.size (u9.1 18) u7 u9 e12) (va_cwS 3 C.2.2.2.2.1 (zGS zk23_8 zk23_9 zk1_5 zk23_10) rfl rfl rfl yd_X11_takeOut ⟨Nat.le_of_ble_eq_true rfl, Nat.le_of_ble_eq_true rfl⟩) (z_preS zNm0 hE hH) rfl rfl hl.1 rfl (lv_room (Nat.le_of_ble_eq_true rfl)) dX11_onHash_196 ⟨Nat.le_refl 0, Nat.le_refl 0⟩) hE hH (fun H locs hH => ?_)
          refine lv_iload hx hb dX11_onHash_199 (lv_at hl 1 rfl) ?_
          cases h
          exact z_iret C hE hH dX11_onHash_201
        · replace h := zif_t c5 h
          refine lv_iload hx hb dX11_onHash_153 (lv_at hl 0 rfl) ?_
          cases h
          exact z_iret C hE hH dX11_onHash_155
      · replace h := zif_f c1_2 h
        by_cases c1_3 : x1 = 3
        · replace h := zif_t c1_3 h
          refine lv_tableIn (tgt := 217) hx hb dX11_onHash_32 (by rw [c1_3]; decide) (by rw [c1_3]; decide) (by rw [c1_3]; rfl) (by decide) ?_
          refine lv_aload_n hx hb dX11_onHash_217 rfl (lv_at hl 1 rfl) ?_
          refine z_get C hE hH zM_o rfl zh_X11 21 (by decide) zk22_2 (fun _ h9 => h9) (v := .int (S.1 21)) rfl dX11_onHash_218 ?_
          refine lv_aload_n hx hb dX11_onHash_221 rfl (lv_at hl 1 rfl) ?_
          refine z_get C hE hH zM_o rfl zh_X11 18 (by decide) zk22_1 (fun _ h9 => h9) (v := .int (S.1 18)) rfl dX11_onHash_222 ?_
          refine lv_iadd hx hb dX11_onHash_225 ?_
          cases h
          exact z_iret C hE hH dX11_onHash_226
        · replace h := zif_f c1_3 h
          by_cases c1_4 : x1 = 4
          · replace h := zif_t c1_4 h
            refine lv_tableIn (tgt := 217) hx hb dX11_onHash_32 (by rw [c1_4]; decide) (by rw [c1_4]; decide) (by rw [c1_4]; rfl) (by decide) ?_
            refine lv_aload_n hx hb dX11_onHash_217 rfl (lv_at hl 1 rfl) ?_
            refine z_get C hE hH zM_o rfl zh_X11 21 (by decide) zk22_2 (fun _ h9 => h9) (v := .int (S.1 21)) rfl dX11_onHash_218 ?_
            refine lv_aload_n hx hb dX11_onHash_221 rfl (lv_at hl 1 rfl) ?_
            refine z_get C hE hH zM_o rfl zh_X11 18 (by decide) zk22_1 (fun _ h9 => h9) (v := .int (S.1 18)) rfl dX11_onHash_222 ?_
            refine lv_iadd hx hb dX11_onHash_225 ?_
            cases h
            exact z_iret C hE hH dX11_onHash_226
          · replace h := zif_f c1_4 h
            by_cases c1_5 : x1 = 5
            · replace h := zif_t c1_5 h
              refine lv_tableIn (tgt := 217) hx hb dX11_onHash_32 (by rw [c1_5]; decide) (by rw [c1_5]; decide) (by rw [c1_5]; rfl) (by decide) ?_
              refine lv_aload_n hx hb dX11_onHash_217 rfl (lv_at hl 1 rfl) ?_
              refine z_get C hE hH zM_o rfl zh_X11 21 (by decide) zk22_2 (fun _ h9 => h9) (v := .int (S.1 21)) rfl dX11_onHash_218 ?_
              refine lv_aload_n hx hb dX11_onHash_221 rfl (lv_at hl 1 rfl) ?_
              refine z_get C hE hH zM_o rfl zh_X11 18 (by decide) zk22_1 (fun _ h9 => h9) (v := .int (S.1 18)) rfl dX11_onHash_222 ?_
              refine lv_iadd hx hb dX11_onHash_225 ?_
              cases h
              exact z_iret C hE hH dX11_onHash_226
            · replace h := zif_f c1_5 h
              by_cases c1_6 : x1 = 6
              · replace h := zif_t c1_6 h
                refine lv_tableIn (tgt := 202) hx hb dX11_onHash_32 (by rw [c1_6]; decide) (by rw [c1_6]; decide) (by rw [c1_6]; rfl) (by decide) ?_
                refine lv_iconst (v := 0) hx hb dX11_onHash_202 (by decide) ?_
                cases h
                exact z_iret C hE hH dX11_onHash_203
              · replace h := zif_f c1_6 h
                by_cases c1_7 : x1 = 7
                · replace h := zif_t c1_7 h
                  refine lv_tableIn (tgt := 204) hx hb dX11_onHash_32 (by rw [c1_7]; decide) (by rw [c1_7]; decide) (by rw [c1_7]; rfl) (by decide) ?_
                  refine lv_iconst (v := 1) hx hb dX11_onHash_204 (by decide) ?_
                  refine lv_aload_n hx hb dX11_onHash_205 rfl (lv_at hl 1 rfl) ?_
                  refine lv_iload_n hx hb dX11_onHash_206 rfl (lv_at hl 3 rfl) ?_
                  refine lv_aload_n hx hb dX11_onHash_207 rfl (lv_at hl 1 rfl) ?_
                  refine z_get C hE hH zM_o rfl zh_X11 21 (by decide) zk22_2 (fun _ h9 => h9) (v := .int (S.1 21)) rfl dX11_onHash_208 ?_
                  obtain ⟨g13, h⟩ := zgd_s h
                  refine lv_irem hx hb dX11_onHash_211 (znz_v g13) ?_
                  obtain ⟨u14, e15, h⟩ := zbd_s h
                  refine z_calli (va_runV (As := [.int (zrem x2 (S.1 21))]) (rest := [.int 1]) (z_fix C) (cM_X11_lengthOf l D cI q H.size (zrem x2 (S.1 21)) S e15) (cwV 1 C.2.2.2.2.1 (zGV zk24_4 zk24_5 zk24_6 zk1_5 zk24_7) rfl rfl rfl yd_X11_lengthOf ⟨Nat.le_of_ble_eq_true rfl, Nat.le_of_ble_eq_true rfl⟩) (z_preV zNm0 hE hH zM_o rfl) rfl rfl hl.1 rfl (lv_room (Nat.le_of_ble_eq_true rfl)) dX11_onHash_212 ⟨Nat.le_refl 0, Nat.le_refl 0⟩) hE hH (fun H locs hH => ?_)
                  refine lv_iadd hx hb dX11_onHash_215 ?_
                  cases h
                  exact z_iret C hE hH dX11_onHash_216
                · replace h := zif_f c1_7 h
                  have ec1_0 : ¬ (x1).toInt = 0 := zsw_ne c1_0
                  have ec1_1 : ¬ (x1).toInt = 1 := zsw_ne c1_1
                  have ec1_2 : ¬ (x1).toInt = 2 := zsw_ne c1_2
                  have ec1_3 : ¬ (x1).toInt = 3 := zsw_ne c1_3
                  have ec1_4 : ¬ (x1).toInt = 4 := zsw_ne c1_4
                  have ec1_5 : ¬ (x1).toInt = 5 := zsw_ne c1_5
                  have ec1_6 : ¬ (x1).toInt = 6 := zsw_ne c1_6
                  have ec1_7 : ¬ (x1).toInt = 7 := zsw_ne c1_7
                  refine lv_tableOut (tgt := 217) hx hb dX11_onHash_32 (by omega) (by decide) ?_
                  refine lv_aload_n hx hb dX11_onHash_217 rfl (lv_at hl 1 rfl) ?_
                  refine z_get C hE hH zM_o rfl zh_X11 21 (by decide) zk22_2 (fun _ h9 => h9) (v := .int (S.1 21)) rfl dX11_onHash_218 ?_
                  refine lv_aload_n hx hb dX11_onHash_221 rfl (lv_at hl 1 rfl) ?_
                  refine z_get C hE hH zM_o rfl zh_X11 18 (by decide) zk22_1 (fun _ h9 => h9) (v := .int (S.1 18)) rfl dX11_onHash_222 ?_
                  refine lv_iadd hx hb dX11_onHash_225 ?_
                  cases h
                  exact z_iret C hE hH dX11_onHash_226
set_option maxHeartbeats 4000000 in
set_option maxRecDepth 100000 in
theorem bM_X11_onHash {p : Program} {l : Launch} {e : Env} {s : State} {m : MethodId} {args : Array Value} {below : List Frame} {meth : Method} {c : Code} {D : va_G} {cI : ClassId} {q : Nat → Nat} {A : Nat → Prop} {res : Int32 × zSt} (C : zCX p s m args meth c cX11_onHash 6 (some .int) zU RX11) (hE : zE D [(cI, .int)] [] A s) (x1 x2 : Int32) (S : zSt) (H : Heap) (locs : List Loc) (ls : Array Slot) (hH : zH D (zwM cI q) A s S H locs) (hl : lv_has ls 6 [(0, .ref (q 32)), (1, .int x1), (2, .int x2)]) (h : fM_X11_onHash  x1 x2 S = some res) : W p l e rmM_X11_onHash s m args below meth c H locs 0 0 (zQi below D (zwM cI q) [(cI, .int)] A args s res.1 res.2) (F0 m 0 ls []) := by
  have hx := C.1
  have hb := C.2.1
  unfold fM_X11_onHash at h
  refine lv_aload_n hx hb dX11_onHash_0 rfl (lv_at hl 0 rfl) ?_
  refine lv_iload_n hx hb dX11_onHash_1 rfl (lv_at hl 2 rfl) ?_
  obtain ⟨u1, e2, h⟩ := zbd_s h
  refine z_calli (va_runV (As := [.int x2]) (rest := []) (z_fix C) (cM_X11_aheadIn l D cI q H.size x2 S e2) (cwV 1 C.2.2.2.2.1 (zGV zk24_0 zk24_1 zk24_2 zk1_5 zk24_3) rfl rfl rfl yd_X11_aheadIn ⟨Nat.le_of_ble_eq_true rfl, Nat.le_of_ble_eq_true rfl⟩) (z_preV zNm0 hE hH zM_o rfl) rfl rfl hl.1 rfl (lv_room (Nat.le_of_ble_eq_true rfl)) dX11_onHash_2 ⟨Nat.le_refl 0, Nat.le_refl 0⟩) hE hH (fun H locs hH => ?_)
  refine lv_istore_n (lv' := [(3, .int u1), (0, .ref (q 32)), (1, .int x1), (2, .int x2)]) hx hb dX11_onHash_5 rfl hl (by decide) rfl (fun ls hl => ?_)
  refine lv_iload_n hx hb dX11_onHash_6 rfl (lv_at hl 0 rfl) ?_
  refine lv_iconst (v := (-1)) hx hb dX11_onHash_7 (by decide) ?_
  refine lv_icmp_ne (tgt := 26) hx hb dX11_onHash_8 (by decide) (fun c3 => ?_) (fun c3 => ?_)
  · replace h := zif_f c3 h
    refine lv_iload_n hx hb dX11_onHash_26 rfl (lv_at hl 0 rfl) ?_
    refine lv_iconst (v := 2) hx hb dX11_onHash_27 (by decide) ?_
    refine lv_iadd hx hb dX11_onHash_28 ?_
    exact bM_X11_onHash_29 C hE   x1 x2 u1 (u1 + 2) S H locs ls hH (lv_sub hl [1, 2, 3, 0] rfl) h
  · replace h := zif_t c3 h
    refine lv_iconst (v := 1) hx hb dX11_onHash_11 (by decide) ?_
    refine lv_aload_n hx hb dX11_onHash_12 rfl (lv_at hl 1 rfl) ?_
    refine lv_iload_n hx hb dX11_onHash_13 rfl (lv_at hl 3 rfl) ?_
    refine lv_aload_n hx hb dX11_onHash_14 rfl (lv_at hl 1 rfl) ?_
    refine z_get C hE hH zM_o rfl zh_X11 21 (by decide) zk22_2 (fun _ h9 => h9) (v := .int (S.1 21)) rfl dX11_onHash_15 ?_
    obtain ⟨g4, h⟩ := zgd_s h
    refine lv_irem hx hb dX11_onHash_18 (znz_v g4) ?_
    obtain ⟨u5, e6, h⟩ := zbd_s h
    refine z_calli (va_runV (As := [.int (zrem x2 (S.1 21))]) (rest := [.int 1]) (z_fix C) (cM_X11_lengthOf l D cI q H.size (zrem x2 (S.1 21)) S e6) (cwV 1 C.2.2.2.2.1 (zGV zk24_4 zk24_5 zk24_6 zk1_5 zk24_7) rfl rfl rfl yd_X11_lengthOf ⟨Nat.le_of_ble_eq_true rfl, Nat.le_of_ble_eq_true rfl⟩) (z_preV zNm0 hE hH zM_o rfl) rfl rfl hl.1 rfl (lv_room (Nat.le_of_ble_eq_true rfl)) dX11_onHash_19 ⟨Nat.le_refl 0, Nat.le_refl 0⟩) hE hH (fun H locs hH => ?_)
    refine lv_iadd hx hb dX11_onHash_22 ?_
    refine lv_goto (tgt := 29) hx hb dX11_onHash_23 (by decide) ?_
    exact bM_X11_onHash_29 C hE   x1 x2 u1 (1 + u5) S H locs ls hH (lv_sub hl [1, 2, 3, 0] rfl) h
set_option maxHeartbeats 4000000 in
set_option maxRecDepth 100000 in
theorem cM_X11_onHash (l : Launch) (D : va_G) (cI : ClassId) (q : Nat → Nat) (sz : Nat) (x1 : Int32) (x2 : Int32) (S : zSt) {res : Int32 × zSt} (h : fM_X11_onHash x1 x2 S = some res) : zMi l yX11_onHash vsX11_onHash rmM_X11_onHash [.ref (q 32), .int x1, .int x2] D (zwM cI q) [(cI, .int)] [] sz S res.1 res.2 := by
  refine Met.ofW (cc := cX11_onHash) (maxL := 6) (ret := (some .int)) (by decide) rfl ?_
  intro p e s m args below meth c s₁ B hml hv
  obtain ⟨rfl, rfl, hP, hK, hD0, hN⟩ := hv
  have hl := lv_entry ([.ref (q 32), .int x1, .int x2]) (n := 6) (Nat.le_of_ble_eq_true rfl)
  rw [lg_entry_eq]
  generalize (lg_sl ([.ref (q 32), .int x1, .int x2]) ++ List.replicate (6 - (lg_sl ([.ref (q 32), .int x1, .int x2])).length) Slot.unset).toArray = ls at hl ⊢
  exact bM_X11_onHash ⟨B.exec, B.bytes, hml, findClass_of_methodNamed B.named, fun w h => atoms_spec (ws := vsX11_onHash) B.pre w (List.mem_cons_of_mem _ h), B.returns, B.notSynchronized⟩ ⟨hK, fun q h => Or.inr h, hN⟩ x1 x2 S s.heap [] ls ⟨hP, hD0.self, va_S.rf⟩ hl  h
def rmM_X11_topOf : Room := { frames := 0, cells := 0, slots := 0, locals := 0 }
set_option maxHeartbeats 4000000 in
set_option maxRecDepth 100000 in
theorem bM_X11_topOf_44 {p : Program} {l : Launch} {e : Env} {s : State} {m : MethodId} {args : Array Value} {below : List Frame} {meth : Method} {c : Code} {D : va_G} {cI : ClassId} {q : Nat → Nat} {A : Nat → Prop} {res : Int32} (C : zCX p s m args meth c cX11_topOf 5 (some .int) zU RX11) (hE : zE D [(cI, .int)] [] A s) (K7 : (Int32 → Int32 → Int32 → zSt → Option (Int32))) (hK7 : ∀ (x2 x3 x4 : Int32) (S : zSt) (H : Heap) (locs : List Loc) (ls : Array Slot), zH D (zwM cI q) A s S H locs → lv_has ls 5 [(0, .ref (q 32)), (2, .int x2), (3, .int x3), (4, .int x4)] → K7 x2 x3 x4 S = some res → W p l e rmM_X11_topOf s m args below meth c H locs 0 0 (zQi below D (zwM cI q) [(cI, .int)] A args s res S) (F0 m 7 ls [])) (x2 x4 : Int32) (S : zSt) (H : Heap) (locs : List Loc) (ls : Array Slot) (hH : zH D (zwM cI q) A s S H locs) (hl : lv_has ls 5 [(0, .ref (q 32)), (2, .int x2), (4, .int x4)]) (h : fM_X11_topOf_44 K7 x2 x4 S = some res) : W p l e rmM_X11_topOf s m args below meth c H locs 0 0 (zQi below D (zwM cI q) [(cI, .int)] A args s res S) (F0 m 44 ls []) := by
  have hx := C.1
  have hb := C.2.1
  unfold fM_X11_topOf_44 at h
  refine lv_iload hx hb dX11_topOf_44 (lv_at hl 2 rfl) ?_
  refine lv_istore_n (lv' := [(3, .int x4), (0, .ref (q 32)), (2, .int x2), (4, .int x4)]) hx hb dX11_topOf_46 rfl hl (by decide) rfl (fun ls hl => ?_)
  refine lv_iinc (v := (x4 + 1)) (lv' := [(4, .int (x4 + 1)), (3, .int x4), (0, .ref (q 32)), (2, .int x2)]) hx hb dX11_topOf_47 hl (k := 3) rfl rfl (by decide) rfl (fun ls hl => ?_)
  refine lv_goto (tgt := 7) hx hb dX11_topOf_50 (by decide) ?_
  exact hK7 x2 x4 (x4 + 1) S H locs ls hH (lv_sub hl [2, 3, 1, 0] rfl) h
set_option maxHeartbeats 4000000 in
set_option maxRecDepth 100000 in
theorem bM_X11_topOf_7 {p : Program} {l : Launch} {e : Env} {s : State} {m : MethodId} {args : Array Value} {below : List Frame} {meth : Method} {c : Code} {D : va_G} {cI : ClassId} {q : Nat → Nat} {A : Nat → Prop} {res : Int32} (C : zCX p s m args meth c cX11_topOf 5 (some .int) zU RX11) (hE : zE D [(cI, .int)] [] A s) : ∀ (n : Nat) (x2 x3 x4 : Int32) (S : zSt) (H : Heap) (locs : List Loc) (ls : Array Slot), zH D (zwM cI q) A s S H locs → lv_has ls 5 [(0, .ref (q 32)), (2, .int x2), (3, .int x3), (4, .int x4)] → fM_X11_topOf_7  n x2 x3 x4 S = some res → W p l e rmM_X11_topOf s m args below meth c H locs 0 0 (zQi below D (zwM cI q) [(cI, .int)] A args s res S) (F0 m 7 ls []) := by
  have hx := C.1
  have hb := C.2.1
  intro n
  induction n with
  | zero =>
    intro x2 x3 x4 S H locs ls hH hl  h
    cases h
  | succ n hK7 =>
    intro x2 x3 x4 S H locs ls hH hl  h
    rw [fM_X11_topOf_7] at h
    refine lv_iload hx hb dX11_topOf_7 (lv_at hl 3 rfl) ?_
    refine lv_iload_n hx hb dX11_topOf_9 rfl (lv_at hl 1 rfl) ?_
    refine lv_icmp_ge (tgt := 53) hx hb dX11_topOf_10 (by decide) (fun c1 => ?_) (fun c1 => ?_)
    · replace h := zif_t c1 h
      refine lv_iload_n hx hb dX11_topOf_53 rfl (lv_at hl 2 rfl) ?_
      cases h
      exact z_iret C hE hH dX11_topOf_54
    · replace h := zif_f c1 h
      refine lv_aload_n hx hb dX11_topOf_13 rfl (lv_at hl 0 rfl) ?_
      refine z_get C hE hH zM_o rfl zh_X11 23 (by decide) zk6_4 (fun _ h9 => h9) (v := .ref (q 23)) rfl dX11_topOf_14 ?_
      refine lv_iload hx hb dX11_topOf_17 (lv_at hl 3 rfl) ?_
      obtain ⟨g2, h⟩ := zgd_s h
      refine z_iald C hE hH zM_a23 (t0 := 0) rfl g2 dX11_topOf_19 ?_
      refine lv_if_le (tgt := 47) hx hb dX11_topOf_20 (by decide) (fun c3 => ?_) (fun c3 => ?_)
      · replace h := zif_t c3 h
        refine lv_iinc (v := (x4 + 1)) (lv' := [(4, .int (x4 + 1)), (0, .ref (q 32)), (2, .int x2), (3, .int x3)]) hx hb dX11_topOf_47 hl (k := 3) rfl rfl (by decide) rfl (fun ls hl => ?_)
        refine lv_goto (tgt := 7) hx hb dX11_topOf_50 (by decide) ?_
        exact hK7 x2 x3 (x4 + 1) S H locs ls hH (lv_sub hl [1, 2, 3, 0] rfl) h
      · replace h := zif_f c3 h
        refine lv_iload_n hx hb dX11_topOf_23 rfl (lv_at hl 2 rfl) ?_
        refine lv_iconst (v := (-1)) hx hb dX11_topOf_24 (by decide) ?_
        refine lv_icmp_eq (tgt := 44) hx hb dX11_topOf_25 (by decide) (fun c4 => ?_) (fun c4 => ?_)
        · replace h := zif_t c4 h
          exact bM_X11_topOf_44 C hE (fM_X11_topOf_7  n) hK7 x2 x4 S H locs ls hH (lv_sub hl [0, 1, 3] rfl) h
        · replace h := zif_f c4 h
          refine lv_aload_n hx hb dX11_topOf_28 rfl (lv_at hl 0 rfl) ?_
          refine z_get C hE hH zM_o rfl zh_X11 23 (by decide) zk6_4 (fun _ h9 => h9) (v := .ref (q 23)) rfl dX11_topOf_29 ?_
          refine lv_iload hx hb dX11_topOf_32 (lv_at hl 3 rfl) ?_
          obtain ⟨g5, h⟩ := zgd_s h
          refine z_iald C hE hH zM_a23 (t0 := 0) rfl g5 dX11_topOf_34 ?_
          refine lv_aload_n hx hb dX11_topOf_35 rfl (lv_at hl 0 rfl) ?_
          refine z_get C hE hH zM_o rfl zh_X11 23 (by decide) zk6_4 (fun _ h9 => h9) (v := .ref (q 23)) rfl dX11_topOf_36 ?_
          refine lv_iload_n hx hb dX11_topOf_39 rfl (lv_at hl 2 rfl) ?_
          obtain ⟨g6, h⟩ := zgd_s h
          refine z_iald C hE hH zM_a23 (t0 := 0) rfl g6 dX11_topOf_40 ?_
          refine lv_icmp_ge (tgt := 47) hx hb dX11_topOf_41 (by decide) (fun c7 => ?_) (fun c7 => ?_)
          · replace h := zif_t c7 h
            refine lv_iinc (v := (x4 + 1)) (lv' := [(4, .int (x4 + 1)), (0, .ref (q 32)), (2, .int x2), (3, .int x3)]) hx hb dX11_topOf_47 hl (k := 3) rfl rfl (by decide) rfl (fun ls hl => ?_)
            refine lv_goto (tgt := 7) hx hb dX11_topOf_50 (by decide) ?_
            exact hK7 x2 x3 (x4 + 1) S H locs ls hH (lv_sub hl [1, 2, 3, 0] rfl) h
          · replace h := zif_f c7 h
            exact bM_X11_topOf_44 C hE (fM_X11_topOf_7  n) hK7 x2 x4 S H locs ls hH (lv_sub hl [0, 1, 3] rfl) h
set_option maxHeartbeats 4000000 in
set_option maxRecDepth 100000 in
theorem bM_X11_topOf {p : Program} {l : Launch} {e : Env} {s : State} {m : MethodId} {args : Array Value} {below : List Frame} {meth : Method} {c : Code} {D : va_G} {cI : ClassId} {q : Nat → Nat} {A : Nat → Prop} {res : Int32} (C : zCX p s m args meth c cX11_topOf 5 (some .int) zU RX11) (hE : zE D [(cI, .int)] [] A s) (x1 x2 : Int32) (S : zSt) (H : Heap) (locs : List Loc) (ls : Array Slot) (hH : zH D (zwM cI q) A s S H locs) (hl : lv_has ls 5 [(0, .ref (q 32)), (1, .int x1), (2, .int x2)]) (h : fM_X11_topOf  x1 x2 S = some res) : W p l e rmM_X11_topOf s m args below meth c H locs 0 0 (zQi below D (zwM cI q) [(cI, .int)] A args s res S) (F0 m 0 ls []) := by
  have hx := C.1
  have hb := C.2.1
  unfold fM_X11_topOf at h
  refine lv_iconst (v := (-1)) hx hb dX11_topOf_0 (by decide) ?_
  refine lv_istore_n (lv' := [(3, .int (-1)), (0, .ref (q 32)), (1, .int x1), (2, .int x2)]) hx hb dX11_topOf_1 rfl hl (by decide) rfl (fun ls hl => ?_)
  refine lv_iload_n hx hb dX11_topOf_2 rfl (lv_at hl 2 rfl) ?_
  refine lv_iconst (v := 1) hx hb dX11_topOf_3 (by decide) ?_
  refine lv_iadd hx hb dX11_topOf_4 ?_
  refine lv_istore (lv' := [(4, .int (x1 + 1)), (3, .int (-1)), (0, .ref (q 32)), (1, .int x1), (2, .int x2)]) hx hb dX11_topOf_5 hl (by decide) rfl (fun ls hl => ?_)
  exact bM_X11_topOf_7 C hE   1000 x2 (-1) (x1 + 1) S H locs ls hH (lv_sub hl [2, 4, 1, 0] rfl) h
set_option maxHeartbeats 4000000 in
set_option maxRecDepth 100000 in
theorem cM_X11_topOf (l : Launch) (D : va_G) (cI : ClassId) (q : Nat → Nat) (sz : Nat) (x1 : Int32) (x2 : Int32) (S : zSt) {res : Int32} (h : fM_X11_topOf x1 x2 S = some res) : zMi l yX11_topOf vsX11_topOf rmM_X11_topOf [.ref (q 32), .int x1, .int x2] D (zwM cI q) [(cI, .int)] [] sz S res S := by
  refine Met.ofW (cc := cX11_topOf) (maxL := 5) (ret := (some .int)) (by decide) rfl ?_
  intro p e s m args below meth c s₁ B hml hv
  obtain ⟨rfl, rfl, hP, hK, hD0, hN⟩ := hv
  have hl := lv_entry ([.ref (q 32), .int x1, .int x2]) (n := 5) (Nat.le_of_ble_eq_true rfl)
  rw [lg_entry_eq]
  generalize (lg_sl ([.ref (q 32), .int x1, .int x2]) ++ List.replicate (5 - (lg_sl ([.ref (q 32), .int x1, .int x2])).length) Slot.unset).toArray = ls at hl ⊢
  exact bM_X11_topOf ⟨B.exec, B.bytes, hml, findClass_of_methodNamed B.named, fun w h => atoms_spec (ws := vsX11_topOf) B.pre w (List.mem_cons_of_mem _ h), B.returns, B.notSynchronized⟩ ⟨hK, fun q h => Or.inr h, hN⟩ x1 x2 S s.heap [] ls ⟨hP, hD0.self, va_S.rf⟩ hl  h
def rmM_X11_wayTo : Room := { frames := 1, cells := 0, slots := 0, locals := 24 }
set_option maxHeartbeats 4000000 in
set_option maxRecDepth 100000 in
theorem bM_X11_wayTo_59 {p : Program} {l : Launch} {e : Env} {s : State} {m : MethodId} {args : Array Value} {below : List Frame} {meth : Method} {c : Code} {D : va_G} {cI : ClassId} {q : Nat → Nat} {A : Nat → Prop} {res : Int32 × zSt} (C : zCX p s m args meth c cX11_wayTo 4 (some .int) zU RX11) (hE : zE D [(cI, .int)] [] A s) (K26 : (Int32 → Int32 → Int32 → zSt → Option (Int32 × zSt))) (hK26 : ∀ (x1 x2 x3 : Int32) (S : zSt) (H : Heap) (locs : List Loc) (ls : Array Slot), zH D (zwM cI q) A s S H locs → lv_has ls 4 [(0, .ref (q 32)), (1, .int x1), (2, .int x2), (3, .int x3)] → K26 x1 x2 x3 S = some res → W p l e rmM_X11_wayTo s m args below meth c H locs 0 0 (zQi below D (zwM cI q) [(cI, .int)] A args s res.1 res.2) (F0 m 26 ls [])) (x1 x2 : Int32) (S : zSt) (H : Heap) (locs : List Loc) (ls : Array Slot) (hH : zH D (zwM cI q) A s S H locs) (hl : lv_has ls 4 [(0, .ref (q 32)), (1, .int x1), (2, .int x2)]) (h : fM_X11_wayTo_59 K26 x1 x2 S = some res) : W p l e rmM_X11_wayTo s m args below meth c H locs 0 0 (zQi below D (zwM cI q) [(cI, .int)] A args s res.1 res.2) (F0 m 59 ls []) := by
  have hx := C.1
  have hb := C.2.1
  unfold fM_X11_wayTo_59 at h
  refine lv_aload_n hx hb dX11_wayTo_59 rfl (lv_at hl 0 rfl) ?_
  refine lv_aload_n hx hb dX11_wayTo_60 rfl (lv_at hl 0 rfl) ?_
  refine z_get C hE hH zM_o rfl zh_X11 30 (by decide) zk25_0 (fun _ h9 => h9) (v := .int (S.1 30)) rfl dX11_wayTo_61 ?_
  refine lv_aload_n hx hb dX11_wayTo_64 rfl (lv_at hl 0 rfl) ?_
  refine z_get C hE hH zM_o rfl zh_X11 31 (by decide) zk25_1 (fun _ h9 => h9) (v := .int (S.1 31)) rfl dX11_wayTo_65 ?_
  obtain ⟨u1, e2, h⟩ := zbd_s h
  refine z_calli (va_runV (As := [.int (S.1 30), .int (S.1 31)]) (rest := []) (z_fix C) (cM_X11_topOf l D cI q H.size (S.1 30) (S.1 31) S e2) (cwV 2 C.2.2.2.2.1 (zGV zk25_2 zk25_3 zk25_4 zk1_5 zk25_5) rfl rfl rfl yd_X11_topOf ⟨Nat.le_of_ble_eq_true rfl, Nat.le_of_ble_eq_true rfl⟩) (z_preV zNm0 hE hH zM_o rfl) rfl rfl hl.1 rfl (lv_room (Nat.le_of_ble_eq_true rfl)) dX11_wayTo_68 ⟨Nat.le_refl 0, Nat.le_refl 0⟩) hE hH (fun H locs hH => ?_)
  refine lv_istore_n (lv' := [(3, .int u1), (0, .ref (q 32)), (1, .int x1), (2, .int x2)]) hx hb dX11_wayTo_71 rfl hl (by decide) rfl (fun ls hl => ?_)
  refine lv_goto (tgt := 26) hx hb dX11_wayTo_72 (by decide) ?_
  exact hK26 x1 x2 u1 S H locs ls hH (lv_sub hl [1, 2, 3, 0] rfl) h
set_option maxHeartbeats 4000000 in
set_option maxRecDepth 100000 in
theorem bM_X11_wayTo_26 {p : Program} {l : Launch} {e : Env} {s : State} {m : MethodId} {args : Array Value} {below : List Frame} {meth : Method} {c : Code} {D : va_G} {cI : ClassId} {q : Nat → Nat} {A : Nat → Prop} {res : Int32 × zSt} (C : zCX p s m args meth c cX11_wayTo 4 (some .int) zU RX11) (hE : zE D [(cI, .int)] [] A s) : ∀ (n : Nat) (x1 x2 x3 : Int32) (S : zSt) (H : Heap) (locs : List Loc) (ls : Array Slot), zH D (zwM cI q) A s S H locs → lv_has ls 4 [(0, .ref (q 32)), (1, .int x1), (2, .int x2), (3, .int x3)] → fM_X11_wayTo_26  n x1 x2 x3 S = some res → W p l e rmM_X11_wayTo s m args below meth c H locs 0 0 (zQi below D (zwM cI q) [(cI, .int)] A args s res.1 res.2) (F0 m 26 ls []) := by
  have hx := C.1
  have hb := C.2.1
  intro n
  induction n with
  | zero =>
    intro x1 x2 x3 S H locs ls hH hl  h
    cases h
  | succ n hK26 =>
    intro x1 x2 x3 S H locs ls hH hl  h
    rw [fM_X11_wayTo_26] at h
    refine lv_iload_n hx hb dX11_wayTo_26 rfl (lv_at hl 3 rfl) ?_
    refine lv_iconst (v := (-1)) hx hb dX11_wayTo_27 (by decide) ?_
    refine lv_icmp_eq (tgt := 75) hx hb dX11_wayTo_28 (by decide) (fun c1 => ?_) (fun c1 => ?_)
    · replace h := zif_t c1 h
      refine lv_iload_n hx hb dX11_wayTo_75 rfl (lv_at hl 2 rfl) ?_
      cases h
      exact z_iret C hE hH dX11_wayTo_76
    · replace h := zif_f c1 h
      refine lv_iinc (v := (x2 + 1)) (lv' := [(2, .int (x2 + 1)), (0, .ref (q 32)), (1, .int x1), (3, .int x3)]) hx hb dX11_wayTo_31 hl (k := 2) rfl rfl (by decide) rfl (fun ls hl => ?_)
      refine lv_iload_n hx hb dX11_wayTo_34 rfl (lv_at hl 3 rfl) ?_
      refine lv_iload_n hx hb dX11_wayTo_35 rfl (lv_at hl 2 rfl) ?_
      refine lv_icmp_ne (tgt := 41) hx hb dX11_wayTo_36 (by decide) (fun c2 => ?_) (fun c2 => ?_)
      · replace h := zif_f c2 h
        refine lv_iload_n hx hb dX11_wayTo_41 rfl (lv_at hl 2 rfl) ?_
        refine lv_iload_n hx hb dX11_wayTo_42 rfl (lv_at hl 3 rfl) ?_
        refine lv_icmp_ge (tgt := 54) hx hb dX11_wayTo_43 (by decide) (fun c3 => ?_) (fun c3 => ?_)
        · replace h := zif_t c3 h
          refine lv_aload_n hx hb dX11_wayTo_54 rfl (lv_at hl 1 rfl) ?_
          refine lv_iload_n hx hb dX11_wayTo_55 rfl (lv_at hl 3 rfl) ?_
          refine z_put C hE hH zM_o rfl zh_X11 tyX11_ok nmX11 30 (by decide) zk25_0 (fun _ h9 => h9) rfl (ty := .int) rfl rfl rfl (Nat.le_of_ble_eq_true rfl) zM_i30 dX11_wayTo_56 (fun H locs hH => ?_)
          exact bM_X11_wayTo_59 C hE (fM_X11_wayTo_26  n) hK26 x1 (x2 + 1) (zsI S 30 x3) H locs ls hH (lv_sub hl [1, 2, 0] rfl) h
        · replace h := zif_f c3 h
          refine lv_aload_n hx hb dX11_wayTo_46 rfl (lv_at hl 1 rfl) ?_
          refine lv_iload_n hx hb dX11_wayTo_47 rfl (lv_at hl 3 rfl) ?_
          refine z_put C hE hH zM_o rfl zh_X11 tyX11_ok nmX11 31 (by decide) zk25_1 (fun _ h9 => h9) rfl (ty := .int) rfl rfl rfl (Nat.le_of_ble_eq_true rfl) zM_i31 dX11_wayTo_48 (fun H locs hH => ?_)
          refine lv_goto (tgt := 59) hx hb dX11_wayTo_51 (by decide) ?_
          exact bM_X11_wayTo_59 C hE (fM_X11_wayTo_26  n) hK26 x1 (x2 + 1) (zsI S 31 x3) H locs ls hH (lv_sub hl [1, 2, 0] rfl) h
      · replace h := zif_t c2 h
        refine lv_iload_n hx hb dX11_wayTo_39 rfl (lv_at hl 0 rfl) ?_
        cases h
        exact z_iret C hE hH dX11_wayTo_40
set_option maxHeartbeats 4000000 in
set_option maxRecDepth 100000 in
theorem bM_X11_wayTo {p : Program} {l : Launch} {e : Env} {s : State} {m : MethodId} {args : Array Value} {below : List Frame} {meth : Method} {c : Code} {D : va_G} {cI : ClassId} {q : Nat → Nat} {A : Nat → Prop} {res : Int32 × zSt} (C : zCX p s m args meth c cX11_wayTo 4 (some .int) zU RX11) (hE : zE D [(cI, .int)] [] A s) (x1 : Int32) (S : zSt) (H : Heap) (locs : List Loc) (ls : Array Slot) (hH : zH D (zwM cI q) A s S H locs) (hl : lv_has ls 4 [(0, .ref (q 32)), (1, .int x1)]) (h : fM_X11_wayTo  x1 S = some res) : W p l e rmM_X11_wayTo s m args below meth c H locs 0 0 (zQi below D (zwM cI q) [(cI, .int)] A args s res.1 res.2) (F0 m 0 ls []) := by
  have hx := C.1
  have hb := C.2.1
  unfold fM_X11_wayTo at h
  refine lv_aload_n hx hb dX11_wayTo_0 rfl (lv_at hl 0 rfl) ?_
  refine lv_iconst (v := (-1)) hx hb dX11_wayTo_1 (by decide) ?_
  refine z_put C hE hH zM_o rfl zh_X11 tyX11_ok nmX11 30 (by decide) zk25_0 (fun _ h9 => h9) rfl (ty := .int) rfl rfl rfl (Nat.le_of_ble_eq_true rfl) zM_i30 dX11_wayTo_2 (fun H locs hH => ?_)
  refine lv_aload_n hx hb dX11_wayTo_5 rfl (lv_at hl 0 rfl) ?_
  refine lv_bipush (v := 64) hx hb dX11_wayTo_6 (by decide) ?_
  refine z_put C hE hH zM_o rfl zh_X11 tyX11_ok nmX11 31 (by decide) zk25_1 (fun _ h9 => h9) rfl (ty := .int) rfl rfl rfl (Nat.le_of_ble_eq_true rfl) zM_i31 dX11_wayTo_8 (fun H locs hH => ?_)
  refine lv_iconst (v := 0) hx hb dX11_wayTo_11 (by decide) ?_
  refine lv_istore_n (lv' := [(2, .int 0), (0, .ref (q 32)), (1, .int x1)]) hx hb dX11_wayTo_12 rfl hl (by decide) rfl (fun ls hl => ?_)
  refine lv_aload_n hx hb dX11_wayTo_13 rfl (lv_at hl 1 rfl) ?_
  refine lv_aload_n hx hb dX11_wayTo_14 rfl (lv_at hl 1 rfl) ?_
  refine z_get C hE hH zM_o rfl zh_X11 30 (by decide) zk25_0 (fun _ h9 => h9) (v := .int (-1)) rfl dX11_wayTo_15 ?_
  refine lv_aload_n hx hb dX11_wayTo_18 rfl (lv_at hl 1 rfl) ?_
  refine z_get C hE hH zM_o rfl zh_X11 31 (by decide) zk25_1 (fun _ h9 => h9) (v := .int 64) rfl dX11_wayTo_19 ?_
  obtain ⟨u1, e2, h⟩ := zbd_s h
  refine z_calli (va_runV (As := [.int (-1), .int 64]) (rest := []) (z_fix C) (cM_X11_topOf l D cI q H.size (-1) 64 (zsI (zsI S 30 (-1)) 31 64) e2) (cwV 2 C.2.2.2.2.1 (zGV zk25_2 zk25_3 zk25_4 zk1_5 zk25_5) rfl rfl rfl yd_X11_topOf ⟨Nat.le_of_ble_eq_true rfl, Nat.le_of_ble_eq_true rfl⟩) (z_preV zNm0 hE hH zM_o rfl) rfl rfl hl.1 rfl (lv_room (Nat.le_of_ble_eq_true rfl)) dX11_wayTo_22 ⟨Nat.le_refl 0, Nat.le_refl 0⟩) hE hH (fun H locs hH => ?_)
  refine lv_istore_n (lv' := [(3, .int u1), (2, .int 0), (0, .ref (q 32)), (1, .int x1)]) hx hb dX11_wayTo_25 rfl hl (by decide) rfl (fun ls hl => ?_)
  exact bM_X11_wayTo_26 C hE   1000 x1 0 u1 (zsI (zsI S 30 (-1)) 31 64) H locs ls hH (lv_sub hl [2, 3, 1, 0] rfl) h
set_option maxHeartbeats 4000000 in
set_option maxRecDepth 100000 in
theorem cM_X11_wayTo (l : Launch) (D : va_G) (cI : ClassId) (q : Nat → Nat) (sz : Nat) (x1 : Int32) (S : zSt) {res : Int32 × zSt} (h : fM_X11_wayTo x1 S = some res) : zMi l yX11_wayTo vsX11_wayTo rmM_X11_wayTo [.ref (q 32), .int x1] D (zwM cI q) [(cI, .int)] [] sz S res.1 res.2 := by
  refine Met.ofW (cc := cX11_wayTo) (maxL := 4) (ret := (some .int)) (by decide) rfl ?_
  intro p e s m args below meth c s₁ B hml hv
  obtain ⟨rfl, rfl, hP, hK, hD0, hN⟩ := hv
  have hl := lv_entry ([.ref (q 32), .int x1]) (n := 4) (Nat.le_of_ble_eq_true rfl)
  rw [lg_entry_eq]
  generalize (lg_sl ([.ref (q 32), .int x1]) ++ List.replicate (4 - (lg_sl ([.ref (q 32), .int x1])).length) Slot.unset).toArray = ls at hl ⊢
  exact bM_X11_wayTo ⟨B.exec, B.bytes, hml, findClass_of_methodNamed B.named, fun w h => atoms_spec (ws := vsX11_wayTo) B.pre w (List.mem_cons_of_mem _ h), B.returns, B.notSynchronized⟩ ⟨hK, fun q h => Or.inr h, hN⟩ x1 S s.heap [] ls ⟨hP, hD0.self, va_S.rf⟩ hl  h
def rmM_X11_nodes : Room := { frames := 0, cells := 0, slots := 0, locals := 0 }
set_option maxHeartbeats 4000000 in
set_option maxRecDepth 100000 in
theorem bM_X11_nodes_4 {p : Program} {l : Launch} {e : Env} {s : State} {m : MethodId} {args : Array Value} {below : List Frame} {meth : Method} {c : Code} {D : va_G} {cI : ClassId} {q : Nat → Nat} {A : Nat → Prop} {res : Int32} (C : zCX p s m args meth c cX11_nodes 3 (some .int) zU RX11) (hE : zE D [(cI, .int)] [] A s) : ∀ (n : Nat) (x1 x2 : Int32) (S : zSt) (H : Heap) (locs : List Loc) (ls : Array Slot), zH D (zwM cI q) A s S H locs → lv_has ls 3 [(0, .ref (q 32)), (1, .int x1), (2, .int x2)] → fM_X11_nodes_4  n x1 x2 S = some res → W p l e rmM_X11_nodes s m args below meth c H locs 0 0 (zQi below D (zwM cI q) [(cI, .int)] A args s res S) (F0 m 4 ls []) := by
  have hx := C.1
  have hb := C.2.1
  intro n
  induction n with
  | zero =>
    intro x1 x2 S H locs ls hH hl  h
    cases h
  | succ n hK4 =>
    intro x1 x2 S H locs ls hH hl  h
    rw [fM_X11_nodes_4] at h
    refine lv_iload_n hx hb dX11_nodes_4 rfl (lv_at hl 2 rfl) ?_
    refine lv_bipush (v := 64) hx hb dX11_nodes_5 (by decide) ?_
    refine lv_icmp_ge (tgt := 28) hx hb dX11_nodes_7 (by decide) (fun c1 => ?_) (fun c1 => ?_)
    · replace h := zif_t c1 h
      refine lv_iload_n hx hb dX11_nodes_28 rfl (lv_at hl 1 rfl) ?_
      cases h
      exact z_iret C hE hH dX11_nodes_29
    · replace h := zif_f c1 h
      refine lv_aload_n hx hb dX11_nodes_10 rfl (lv_at hl 0 rfl) ?_
      refine z_get C hE hH zM_o rfl zh_X11 23 (by decide) zk6_4 (fun _ h9 => h9) (v := .ref (q 23)) rfl dX11_nodes_11 ?_
      refine lv_iload_n hx hb dX11_nodes_14 rfl (lv_at hl 2 rfl) ?_
      obtain ⟨g2, h⟩ := zgd_s h
      refine z_iald C hE hH zM_a23 (t0 := 0) rfl g2 dX11_nodes_15 ?_
      refine lv_if_le (tgt := 22) hx hb dX11_nodes_16 (by decide) (fun c3 => ?_) (fun c3 => ?_)
      · replace h := zif_t c3 h
        refine lv_iinc (v := (x2 + 1)) (lv' := [(2, .int (x2 + 1)), (0, .ref (q 32)), (1, .int x1)]) hx hb dX11_nodes_22 hl (k := 2) rfl rfl (by decide) rfl (fun ls hl => ?_)
        refine lv_goto (tgt := 4) hx hb dX11_nodes_25 (by decide) ?_
        exact hK4 x1 (x2 + 1) S H locs ls hH (lv_sub hl [1, 2, 0] rfl) h
      · replace h := zif_f c3 h
        refine lv_iinc (v := (x1 + 1)) (lv' := [(1, .int (x1 + 1)), (0, .ref (q 32)), (2, .int x2)]) hx hb dX11_nodes_19 hl (k := 1) rfl rfl (by decide) rfl (fun ls hl => ?_)
        refine lv_iinc (v := (x2 + 1)) (lv' := [(2, .int (x2 + 1)), (1, .int (x1 + 1)), (0, .ref (q 32))]) hx hb dX11_nodes_22 hl (k := 2) rfl rfl (by decide) rfl (fun ls hl => ?_)
        refine lv_goto (tgt := 4) hx hb dX11_nodes_25 (by decide) ?_
        exact hK4 (x1 + 1) (x2 + 1) S H locs ls hH (lv_sub hl [2, 1, 0] rfl) h
set_option maxHeartbeats 4000000 in
set_option maxRecDepth 100000 in
theorem bM_X11_nodes {p : Program} {l : Launch} {e : Env} {s : State} {m : MethodId} {args : Array Value} {below : List Frame} {meth : Method} {c : Code} {D : va_G} {cI : ClassId} {q : Nat → Nat} {A : Nat → Prop} {res : Int32} (C : zCX p s m args meth c cX11_nodes 3 (some .int) zU RX11) (hE : zE D [(cI, .int)] [] A s) (S : zSt) (H : Heap) (locs : List Loc) (ls : Array Slot) (hH : zH D (zwM cI q) A s S H locs) (hl : lv_has ls 3 [(0, .ref (q 32))]) (h : fM_X11_nodes   S = some res) : W p l e rmM_X11_nodes s m args below meth c H locs 0 0 (zQi below D (zwM cI q) [(cI, .int)] A args s res S) (F0 m 0 ls []) := by
  have hx := C.1
  have hb := C.2.1
  unfold fM_X11_nodes at h
  refine lv_iconst (v := 0) hx hb dX11_nodes_0 (by decide) ?_
  refine lv_istore_n (lv' := [(1, .int 0), (0, .ref (q 32))]) hx hb dX11_nodes_1 rfl hl (by decide) rfl (fun ls hl => ?_)
  refine lv_iconst (v := 0) hx hb dX11_nodes_2 (by decide) ?_
  refine lv_istore_n (lv' := [(2, .int 0), (1, .int 0), (0, .ref (q 32))]) hx hb dX11_nodes_3 rfl hl (by decide) rfl (fun ls hl => ?_)
  exact bM_X11_nodes_4 C hE   1000 0 0 S H locs ls hH (lv_sub hl [2, 1, 0] rfl) h
set_option maxHeartbeats 4000000 in
set_option maxRecDepth 100000 in
theorem cM_X11_nodes (l : Launch) (D : va_G) (cI : ClassId) (q : Nat → Nat) (sz : Nat) (S : zSt) {res : Int32} (h : fM_X11_nodes  S = some res) : zMi l yX11_nodes vsX11_nodes rmM_X11_nodes [.ref (q 32)] D (zwM cI q) [(cI, .int)] [] sz S res S := by
  refine Met.ofW (cc := cX11_nodes) (maxL := 3) (ret := (some .int)) (by decide) rfl ?_
  intro p e s m args below meth c s₁ B hml hv
  obtain ⟨rfl, rfl, hP, hK, hD0, hN⟩ := hv
  have hl := lv_entry ([.ref (q 32)]) (n := 3) (Nat.le_of_ble_eq_true rfl)
  rw [lg_entry_eq]
  generalize (lg_sl ([.ref (q 32)]) ++ List.replicate (3 - (lg_sl ([.ref (q 32)])).length) Slot.unset).toArray = ls at hl ⊢
  exact bM_X11_nodes ⟨B.exec, B.bytes, hml, findClass_of_methodNamed B.named, fun w h => atoms_spec (ws := vsX11_nodes) B.pre w (List.mem_cons_of_mem _ h), B.returns, B.notSynchronized⟩ ⟨hK, fun q h => Or.inr h, hN⟩  S s.heap [] ls ⟨hP, hD0.self, va_S.rf⟩ hl  h
def rmM_X11_takeNode : Room := { frames := 1, cells := 0, slots := 0, locals := 24 }
set_option maxHeartbeats 4000000 in
set_option maxRecDepth 100000 in
theorem bM_X11_takeNode_101 {p : Program} {l : Launch} {e : Env} {s : State} {m : MethodId} {args : Array Value} {below : List Frame} {meth : Method} {c : Code} {D : va_G} {cI : ClassId} {q : Nat → Nat} {A : Nat → Prop} {res : Int32 × zSt} (C : zCX p s m args meth c cX11_takeNode 8 (some .int) zU RX11) (hE : zE D [(cI, .int)] [] A s) (x1 x4 : Int32) (S : zSt) (H : Heap) (locs : List Loc) (ls : Array Slot) (hH : zH D (zwM cI q) A s S H locs) (hl : lv_has ls 8 [(0, .ref (q 32)), (1, .int x1), (4, .int x4)]) (h : fM_X11_takeNode_101  x1 x4 S = some res) : W p l e rmM_X11_takeNode s m args below meth c H locs 0 0 (zQi below D (zwM cI q) [(cI, .int)] A args s res.1 res.2) (F0 m 101 ls []) := by
  have hx := C.1
  have hb := C.2.1
  unfold fM_X11_takeNode_101 at h
  refine lv_aload_n hx hb dX11_takeNode_101 rfl (lv_at hl 0 rfl) ?_
  refine z_get C hE hH zM_o rfl zh_X11 23 (by decide) zk6_4 (fun _ h9 => h9) (v := .ref (q 23)) rfl dX11_takeNode_102 ?_
  refine lv_iload_n hx hb dX11_takeNode_105 rfl (lv_at hl 1 rfl) ?_
  refine lv_iconst (v := 0) hx hb dX11_takeNode_106 (by decide) ?_
  obtain ⟨g1, h⟩ := zgd_s h
  refine z_iast C hE hH zM_a23 (t0 := 0) rfl g1 zM_r23 dX11_takeNode_107 (fun H locs hH => ?_)
  refine lv_iload hx hb dX11_takeNode_108 (lv_at hl 2 rfl) ?_
  cases h
  exact z_iret C hE hH dX11_takeNode_110
set_option maxHeartbeats 4000000 in
set_option maxRecDepth 100000 in
theorem bM_X11_takeNode_63 {p : Program} {l : Launch} {e : Env} {s : State} {m : MethodId} {args : Array Value} {below : List Frame} {meth : Method} {c : Code} {D : va_G} {cI : ClassId} {q : Nat → Nat} {A : Nat → Prop} {res : Int32 × zSt} (C : zCX p s m args meth c cX11_takeNode 8 (some .int) zU RX11) (hE : zE D [(cI, .int)] [] A s) : ∀ (n : Nat) (x1 x4 x5 x7 : Int32) (S : zSt) (H : Heap) (locs : List Loc) (ls : Array Slot), zH D (zwM cI q) A s S H locs → lv_has ls 8 [(0, .ref (q 32)), (1, .int x1), (4, .int x4), (5, .int x5), (7, .int x7)] → fM_X11_takeNode_63  n x1 x4 x5 x7 S = some res → W p l e rmM_X11_takeNode s m args below meth c H locs 0 0 (zQi below D (zwM cI q) [(cI, .int)] A args s res.1 res.2) (F0 m 63 ls []) := by
  have hx := C.1
  have hb := C.2.1
  intro n
  induction n with
  | zero =>
    intro x1 x4 x5 x7 S H locs ls hH hl  h
    cases h
  | succ n hK63 =>
    intro x1 x4 x5 x7 S H locs ls hH hl  h
    rw [fM_X11_takeNode_63] at h
    refine lv_iload hx hb dX11_takeNode_63 (lv_at hl 4 rfl) ?_
    refine lv_iconst (v := (-1)) hx hb dX11_takeNode_65 (by decide) ?_
    refine lv_icmp_eq (tgt := 88) hx hb dX11_takeNode_66 (by decide) (fun c1 => ?_) (fun c1 => ?_)
    · replace h := zif_t c1 h
      refine lv_aload_n hx hb dX11_takeNode_88 rfl (lv_at hl 0 rfl) ?_
      refine z_get C hE hH zM_o rfl zh_X11 23 (by decide) zk6_4 (fun _ h9 => h9) (v := .ref (q 23)) rfl dX11_takeNode_89 ?_
      refine lv_iload hx hb dX11_takeNode_92 (lv_at hl 3 rfl) ?_
      refine lv_aload_n hx hb dX11_takeNode_94 rfl (lv_at hl 0 rfl) ?_
      refine z_get C hE hH zM_o rfl zh_X11 23 (by decide) zk6_4 (fun _ h9 => h9) (v := .ref (q 23)) rfl dX11_takeNode_95 ?_
      refine lv_iload_n hx hb dX11_takeNode_98 rfl (lv_at hl 1 rfl) ?_
      obtain ⟨g2, h⟩ := zgd_s h
      refine z_iald C hE hH zM_a23 (t0 := 0) rfl g2 dX11_takeNode_99 ?_
      obtain ⟨g3, h⟩ := zgd_s h
      refine z_iast C hE hH zM_a23 (t0 := 0) rfl g3 zM_r23 dX11_takeNode_100 (fun H locs hH => ?_)
      exact bM_X11_takeNode_101 C hE   x1 x4 (zsR S 23 x5.toNatClampNeg (S.2 23 x1.toNatClampNeg)) H locs ls hH (lv_sub hl [0, 1, 2] rfl) h
    · replace h := zif_f c1 h
      refine lv_iinc (v := (x4 + 1)) (lv' := [(4, .int (x4 + 1)), (0, .ref (q 32)), (1, .int x1), (5, .int x5), (7, .int x7)]) hx hb dX11_takeNode_69 hl (k := 2) rfl rfl (by decide) rfl (fun ls hl => ?_)
      refine lv_iload hx hb dX11_takeNode_72 (lv_at hl 4 rfl) ?_
      refine lv_istore (lv' := [(6, .int x7), (4, .int (x4 + 1)), (0, .ref (q 32)), (1, .int x1), (5, .int x5), (7, .int x7)]) hx hb dX11_takeNode_74 hl (by decide) rfl (fun ls hl => ?_)
      refine lv_aload_n hx hb dX11_takeNode_76 rfl (lv_at hl 2 rfl) ?_
      refine lv_iload_n hx hb dX11_takeNode_77 rfl (lv_at hl 3 rfl) ?_
      refine lv_iload hx hb dX11_takeNode_78 (lv_at hl 0 rfl) ?_
      obtain ⟨u4, e5, h⟩ := zbd_s h
      refine z_calli (va_runV (As := [.int x1, .int x7]) (rest := []) (z_fix C) (cM_X11_topOf l D cI q H.size x1 x7 S e5) (cwV 2 C.2.2.2.2.1 (zGV zk25_2 zk25_3 zk25_4 zk1_5 zk25_5) rfl rfl rfl yd_X11_topOf ⟨Nat.le_of_ble_eq_true rfl, Nat.le_of_ble_eq_true rfl⟩) (z_preV zNm0 hE hH zM_o rfl) rfl rfl hl.1 rfl (lv_room (Nat.le_of_ble_eq_true rfl)) dX11_takeNode_80 ⟨Nat.le_refl 0, Nat.le_refl 0⟩) hE hH (fun H locs hH => ?_)
      refine lv_istore (lv' := [(7, .int u4), (6, .int x7), (4, .int (x4 + 1)), (0, .ref (q 32)), (1, .int x1), (5, .int x5)]) hx hb dX11_takeNode_83 hl (by decide) rfl (fun ls hl => ?_)
      refine lv_goto (tgt := 63) hx hb dX11_takeNode_85 (by decide) ?_
      exact hK63 x1 (x4 + 1) x5 u4 S H locs ls hH (lv_sub hl [3, 4, 2, 5, 0] rfl) h
set_option maxHeartbeats 4000000 in
set_option maxRecDepth 100000 in
theorem bM_X11_takeNode_38 {p : Program} {l : Launch} {e : Env} {s : State} {m : MethodId} {args : Array Value} {below : List Frame} {meth : Method} {c : Code} {D : va_G} {cI : ClassId} {q : Nat → Nat} {A : Nat → Prop} {res : Int32 × zSt} (C : zCX p s m args meth c cX11_takeNode 8 (some .int) zU RX11) (hE : zE D [(cI, .int)] [] A s) : ∀ (n : Nat) (x1 x3 x4 x5 : Int32) (S : zSt) (H : Heap) (locs : List Loc) (ls : Array Slot), zH D (zwM cI q) A s S H locs → lv_has ls 8 [(0, .ref (q 32)), (1, .int x1), (3, .int x3), (4, .int x4), (5, .int x5)] → fM_X11_takeNode_38  n x1 x3 x4 x5 S = some res → W p l e rmM_X11_takeNode s m args below meth c H locs 0 0 (zQi below D (zwM cI q) [(cI, .int)] A args s res.1 res.2) (F0 m 38 ls []) := by
  have hx := C.1
  have hb := C.2.1
  intro n
  induction n with
  | zero =>
    intro x1 x3 x4 x5 S H locs ls hH hl  h
    cases h
  | succ n hK38 =>
    intro x1 x3 x4 x5 S H locs ls hH hl  h
    rw [fM_X11_takeNode_38] at h
    refine lv_aload_n hx hb dX11_takeNode_38 rfl (lv_at hl 0 rfl) ?_
    refine z_get C hE hH zM_o rfl zh_X11 23 (by decide) zk6_4 (fun _ h9 => h9) (v := .ref (q 23)) rfl dX11_takeNode_39 ?_
    refine lv_iload hx hb dX11_takeNode_42 (lv_at hl 4 rfl) ?_
    obtain ⟨g1, h⟩ := zgd_s h
    refine z_iald C hE hH zM_a23 (t0 := 0) rfl g1 dX11_takeNode_44 ?_
    refine lv_if_ne (tgt := 54) hx hb dX11_takeNode_45 (by decide) (fun c2 => ?_) (fun c2 => ?_)
    · replace h := zif_f c2 h
      refine lv_aload_n hx hb dX11_takeNode_54 rfl (lv_at hl 0 rfl) ?_
      refine z_get C hE hH zM_o rfl zh_X11 31 (by decide) zk25_1 (fun _ h9 => h9) (v := .int (S.1 31)) rfl dX11_takeNode_55 ?_
      refine lv_istore (lv' := [(6, .int (S.1 31)), (0, .ref (q 32)), (1, .int x1), (3, .int x3), (4, .int x4), (5, .int x5)]) hx hb dX11_takeNode_58 hl (by decide) rfl (fun ls hl => ?_)
      refine lv_iload_n hx hb dX11_takeNode_60 rfl (lv_at hl 3 rfl) ?_
      refine lv_istore (lv' := [(7, .int x3), (6, .int (S.1 31)), (0, .ref (q 32)), (1, .int x1), (3, .int x3), (4, .int x4), (5, .int x5)]) hx hb dX11_takeNode_61 hl (by decide) rfl (fun ls hl => ?_)
      exact bM_X11_takeNode_63 C hE   1000 x1 x4 x5 x3 S H locs ls hH (lv_sub hl [2, 3, 5, 6, 0] rfl) h
    · replace h := zif_t c2 h
      refine lv_iinc (v := (x5 + 1)) (lv' := [(5, .int (x5 + 1)), (0, .ref (q 32)), (1, .int x1), (3, .int x3), (4, .int x4)]) hx hb dX11_takeNode_48 hl (k := 4) rfl rfl (by decide) rfl (fun ls hl => ?_)
      refine lv_goto (tgt := 38) hx hb dX11_takeNode_51 (by decide) ?_
      exact hK38 x1 x3 x4 (x5 + 1) S H locs ls hH (lv_sub hl [1, 2, 3, 4, 0] rfl) h
set_option maxHeartbeats 4000000 in
set_option maxRecDepth 100000 in
theorem bM_X11_takeNode {p : Program} {l : Launch} {e : Env} {s : State} {m : MethodId} {args : Array Value} {below : List Frame} {meth : Method} {c : Code} {D : va_G} {cI : ClassId} {q : Nat → Nat} {A : Nat → Prop} {res : Int32 × zSt} (C : zCX p s m args meth c cX11_takeNode 8 (some .int) zU RX11) (hE : zE D [(cI, .int)] [] A s) (x1 : Int32) (S : zSt) (H : Heap) (locs : List Loc) (ls : Array Slot) (hH : zH D (zwM cI q) A s S H locs) (hl : lv_has ls 8 [(0, .ref (q 32)), (1, .int x1)]) (h : fM_X11_takeNode  x1 S = some res) : W p l e rmM_X11_takeNode s m args below meth c H locs 0 0 (zQi below D (zwM cI q) [(cI, .int)] A args s res.1 res.2) (F0 m 0 ls []) := by
  have hx := C.1
  have hb := C.2.1
  unfold fM_X11_takeNode at h
  refine lv_aload_n hx hb dX11_takeNode_0 rfl (lv_at hl 0 rfl) ?_
  refine lv_aload_n hx hb dX11_takeNode_1 rfl (lv_at hl 0 rfl) ?_
  refine z_get C hE hH zM_o rfl zh_X11 30 (by decide) zk25_0 (fun _ h9 => h9) (v := .int (S.1 30)) rfl dX11_takeNode_2 ?_
  refine lv_iload_n hx hb dX11_takeNode_5 rfl (lv_at hl 1 rfl) ?_
  obtain ⟨u1, e2, h⟩ := zbd_s h
  refine z_calli (va_runV (As := [.int (S.1 30), .int x1]) (rest := []) (z_fix C) (cM_X11_topOf l D cI q H.size (S.1 30) x1 S e2) (cwV 2 C.2.2.2.2.1 (zGV zk25_2 zk25_3 zk25_4 zk1_5 zk25_5) rfl rfl rfl yd_X11_topOf ⟨Nat.le_of_ble_eq_true rfl, Nat.le_of_ble_eq_true rfl⟩) (z_preV zNm0 hE hH zM_o rfl) rfl rfl hl.1 rfl (lv_room (Nat.le_of_ble_eq_true rfl)) dX11_takeNode_6 ⟨Nat.le_refl 0, Nat.le_refl 0⟩) hE hH (fun H locs hH => ?_)
  refine lv_istore_n (lv' := [(2, .int u1), (0, .ref (q 32)), (1, .int x1)]) hx hb dX11_takeNode_9 rfl hl (by decide) rfl (fun ls hl => ?_)
  refine lv_aload_n hx hb dX11_takeNode_10 rfl (lv_at hl 1 rfl) ?_
  refine lv_iload_n hx hb dX11_takeNode_11 rfl (lv_at hl 2 rfl) ?_
  refine lv_aload_n hx hb dX11_takeNode_12 rfl (lv_at hl 1 rfl) ?_
  refine z_get C hE hH zM_o rfl zh_X11 31 (by decide) zk25_1 (fun _ h9 => h9) (v := .int (S.1 31)) rfl dX11_takeNode_13 ?_
  obtain ⟨u3, e4, h⟩ := zbd_s h
  refine z_calli (va_runV (As := [.int x1, .int (S.1 31)]) (rest := []) (z_fix C) (cM_X11_topOf l D cI q H.size x1 (S.1 31) S e4) (cwV 2 C.2.2.2.2.1 (zGV zk25_2 zk25_3 zk25_4 zk1_5 zk25_5) rfl rfl rfl yd_X11_topOf ⟨Nat.le_of_ble_eq_true rfl, Nat.le_of_ble_eq_true rfl⟩) (z_preV zNm0 hE hH zM_o rfl) rfl rfl hl.1 rfl (lv_room (Nat.le_of_ble_eq_true rfl)) dX11_takeNode_16 ⟨Nat.le_refl 0, Nat.le_refl 0⟩) hE hH (fun H locs hH => ?_)
  refine lv_istore_n (lv' := [(3, .int u3), (2, .int u1), (0, .ref (q 32)), (1, .int x1)]) hx hb dX11_takeNode_19 rfl hl (by decide) rfl (fun ls hl => ?_)
  refine lv_iconst (v := 0) hx hb dX11_takeNode_20 (by decide) ?_
  refine lv_istore (lv' := [(4, .int 0), (3, .int u3), (2, .int u1), (0, .ref (q 32)), (1, .int x1)]) hx hb dX11_takeNode_21 hl (by decide) rfl (fun ls hl => ?_)
  refine lv_iload_n hx hb dX11_takeNode_23 rfl (lv_at hl 2 rfl) ?_
  refine lv_iconst (v := (-1)) hx hb dX11_takeNode_24 (by decide) ?_
  refine lv_icmp_eq (tgt := 101) hx hb dX11_takeNode_25 (by decide) (fun c5 => ?_) (fun c5 => ?_)
  · replace h := zif_t c5 h
    exact bM_X11_takeNode_101 C hE   x1 0 S H locs ls hH (lv_sub hl [3, 4, 0] rfl) h
  · replace h := zif_f c5 h
    refine lv_iload_n hx hb dX11_takeNode_28 rfl (lv_at hl 1 rfl) ?_
    refine lv_iconst (v := (-1)) hx hb dX11_takeNode_29 (by decide) ?_
    refine lv_icmp_eq (tgt := 101) hx hb dX11_takeNode_30 (by decide) (fun c6 => ?_) (fun c6 => ?_)
    · replace h := zif_t c6 h
      exact bM_X11_takeNode_101 C hE   x1 0 S H locs ls hH (lv_sub hl [3, 4, 0] rfl) h
    · replace h := zif_f c6 h
      refine lv_iload_n hx hb dX11_takeNode_33 rfl (lv_at hl 4 rfl) ?_
      refine lv_iconst (v := 1) hx hb dX11_takeNode_34 (by decide) ?_
      refine lv_iadd hx hb dX11_takeNode_35 ?_
      refine lv_istore (lv' := [(5, .int (x1 + 1)), (4, .int 0), (3, .int u3), (2, .int u1), (0, .ref (q 32)), (1, .int x1)]) hx hb dX11_takeNode_36 hl (by decide) rfl (fun ls hl => ?_)
      exact bM_X11_takeNode_38 C hE   1000 x1 u3 0 (x1 + 1) S H locs ls hH (lv_sub hl [4, 5, 2, 1, 0] rfl) h
set_option maxHeartbeats 4000000 in
set_option maxRecDepth 100000 in
theorem cM_X11_takeNode (l : Launch) (D : va_G) (cI : ClassId) (q : Nat → Nat) (sz : Nat) (x1 : Int32) (S : zSt) {res : Int32 × zSt} (h : fM_X11_takeNode x1 S = some res) : zMi l yX11_takeNode vsX11_takeNode rmM_X11_takeNode [.ref (q 32), .int x1] D (zwM cI q) [(cI, .int)] [] sz S res.1 res.2 := by
  refine Met.ofW (cc := cX11_takeNode) (maxL := 8) (ret := (some .int)) (by decide) rfl ?_
  intro p e s m args below meth c s₁ B hml hv
  obtain ⟨rfl, rfl, hP, hK, hD0, hN⟩ := hv
  have hl := lv_entry ([.ref (q 32), .int x1]) (n := 8) (Nat.le_of_ble_eq_true rfl)
  rw [lg_entry_eq]
  generalize (lg_sl ([.ref (q 32), .int x1]) ++ List.replicate (8 - (lg_sl ([.ref (q 32), .int x1])).length) Slot.unset).toArray = ls at hl ⊢
  exact bM_X11_takeNode ⟨B.exec, B.bytes, hml, findClass_of_methodNamed B.named, fun w h => atoms_spec (ws := vsX11_takeNode) B.pre w (List.mem_cons_of_mem _ h), B.returns, B.notSynchronized⟩ ⟨hK, fun q h => Or.inr h, hN⟩ x1 S s.heap [] ls ⟨hP, hD0.self, va_S.rf⟩ hl  h
def rmM_X11_leftMost : Room := { frames := 1, cells := 0, slots := 0, locals := 24 }
set_option maxHeartbeats 4000000 in
set_option maxRecDepth 100000 in
theorem bM_X11_leftMost_10 {p : Program} {l : Launch} {e : Env} {s : State} {m : MethodId} {args : Array Value} {below : List Frame} {meth : Method} {c : Code} {D : va_G} {cI : ClassId} {q : Nat → Nat} {A : Nat → Prop} {res : Int32} (C : zCX p s m args meth c cX11_leftMost 3 (some .int) zU RX11) (hE : zE D [(cI, .int)] [] A s) : ∀ (n : Nat) (x1 x2 : Int32) (S : zSt) (H : Heap) (locs : List Loc) (ls : Array Slot), zH D (zwM cI q) A s S H locs → lv_has ls 3 [(0, .ref (q 32)), (1, .int x1), (2, .int x2)] → fM_X11_leftMost_10  n x1 x2 S = some res → W p l e rmM_X11_leftMost s m args below meth c H locs 0 0 (zQi below D (zwM cI q) [(cI, .int)] A args s res S) (F0 m 10 ls []) := by
  have hx := C.1
  have hb := C.2.1
  intro n
  induction n with
  | zero =>
    intro x1 x2 S H locs ls hH hl  h
    cases h
  | succ n hK10 =>
    intro x1 x2 S H locs ls hH hl  h
    rw [fM_X11_leftMost_10] at h
    refine lv_iload_n hx hb dX11_leftMost_10 rfl (lv_at hl 2 rfl) ?_
    refine lv_iconst (v := (-1)) hx hb dX11_leftMost_11 (by decide) ?_
    refine lv_icmp_eq (tgt := 28) hx hb dX11_leftMost_12 (by decide) (fun c1 => ?_) (fun c1 => ?_)
    · replace h := zif_t c1 h
      refine lv_iload_n hx hb dX11_leftMost_28 rfl (lv_at hl 1 rfl) ?_
      cases h
      exact z_iret C hE hH dX11_leftMost_29
    · replace h := zif_f c1 h
      refine lv_iinc (v := (x1 + 1)) (lv' := [(1, .int (x1 + 1)), (0, .ref (q 32)), (2, .int x2)]) hx hb dX11_leftMost_15 hl (k := 1) rfl rfl (by decide) rfl (fun ls hl => ?_)
      refine lv_aload_n hx hb dX11_leftMost_18 rfl (lv_at hl 1 rfl) ?_
      refine lv_iconst (v := (-1)) hx hb dX11_leftMost_19 (by decide) ?_
      refine lv_iload_n hx hb dX11_leftMost_20 rfl (lv_at hl 2 rfl) ?_
      obtain ⟨u2, e3, h⟩ := zbd_s h
      refine z_calli (va_runV (As := [.int (-1), .int x2]) (rest := []) (z_fix C) (cM_X11_topOf l D cI q H.size (-1) x2 S e3) (cwV 2 C.2.2.2.2.1 (zGV zk25_2 zk25_3 zk25_4 zk1_5 zk25_5) rfl rfl rfl yd_X11_topOf ⟨Nat.le_of_ble_eq_true rfl, Nat.le_of_ble_eq_true rfl⟩) (z_preV zNm0 hE hH zM_o rfl) rfl rfl hl.1 rfl (lv_room (Nat.le_of_ble_eq_true rfl)) dX11_leftMost_21 ⟨Nat.le_refl 0, Nat.le_refl 0⟩) hE hH (fun H locs hH => ?_)
      refine lv_istore_n (lv' := [(2, .int u2), (1, .int (x1 + 1)), (0, .ref (q 32))]) hx hb dX11_leftMost_24 rfl hl (by decide) rfl (fun ls hl => ?_)
      refine lv_goto (tgt := 10) hx hb dX11_leftMost_25 (by decide) ?_
      exact hK10 (x1 + 1) u2 S H locs ls hH (lv_sub hl [2, 1, 0] rfl) h
set_option maxHeartbeats 4000000 in
set_option maxRecDepth 100000 in
theorem bM_X11_leftMost {p : Program} {l : Launch} {e : Env} {s : State} {m : MethodId} {args : Array Value} {below : List Frame} {meth : Method} {c : Code} {D : va_G} {cI : ClassId} {q : Nat → Nat} {A : Nat → Prop} {res : Int32} (C : zCX p s m args meth c cX11_leftMost 3 (some .int) zU RX11) (hE : zE D [(cI, .int)] [] A s) (S : zSt) (H : Heap) (locs : List Loc) (ls : Array Slot) (hH : zH D (zwM cI q) A s S H locs) (hl : lv_has ls 3 [(0, .ref (q 32))]) (h : fM_X11_leftMost   S = some res) : W p l e rmM_X11_leftMost s m args below meth c H locs 0 0 (zQi below D (zwM cI q) [(cI, .int)] A args s res S) (F0 m 0 ls []) := by
  have hx := C.1
  have hb := C.2.1
  unfold fM_X11_leftMost at h
  refine lv_iconst (v := 0) hx hb dX11_leftMost_0 (by decide) ?_
  refine lv_istore_n (lv' := [(1, .int 0), (0, .ref (q 32))]) hx hb dX11_leftMost_1 rfl hl (by decide) rfl (fun ls hl => ?_)
  refine lv_aload_n hx hb dX11_leftMost_2 rfl (lv_at hl 1 rfl) ?_
  refine lv_iconst (v := (-1)) hx hb dX11_leftMost_3 (by decide) ?_
  refine lv_bipush (v := 64) hx hb dX11_leftMost_4 (by decide) ?_
  obtain ⟨u1, e2, h⟩ := zbd_s h
  refine z_calli (va_runV (As := [.int (-1), .int 64]) (rest := []) (z_fix C) (cM_X11_topOf l D cI q H.size (-1) 64 S e2) (cwV 2 C.2.2.2.2.1 (zGV zk25_2 zk25_3 zk25_4 zk1_5 zk25_5) rfl rfl rfl yd_X11_topOf ⟨Nat.le_of_ble_eq_true rfl, Nat.le_of_ble_eq_true rfl⟩) (z_preV zNm0 hE hH zM_o rfl) rfl rfl hl.1 rfl (lv_room (Nat.le_of_ble_eq_true rfl)) dX11_leftMost_6 ⟨Nat.le_refl 0, Nat.le_refl 0⟩) hE hH (fun H locs hH => ?_)
  refine lv_istore_n (lv' := [(2, .int u1), (1, .int 0), (0, .ref (q 32))]) hx hb dX11_leftMost_9 rfl hl (by decide) rfl (fun ls hl => ?_)
  exact bM_X11_leftMost_10 C hE   1000 0 u1 S H locs ls hH (lv_sub hl [2, 1, 0] rfl) h
set_option maxHeartbeats 4000000 in
set_option maxRecDepth 100000 in
theorem cM_X11_leftMost (l : Launch) (D : va_G) (cI : ClassId) (q : Nat → Nat) (sz : Nat) (S : zSt) {res : Int32} (h : fM_X11_leftMost  S = some res) : zMi l yX11_leftMost vsX11_leftMost rmM_X11_leftMost [.ref (q 32)] D (zwM cI q) [(cI, .int)] [] sz S res S := by
  refine Met.ofW (cc := cX11_leftMost) (maxL := 3) (ret := (some .int)) (by decide) rfl ?_
  intro p e s m args below meth c s₁ B hml hv
  obtain ⟨rfl, rfl, hP, hK, hD0, hN⟩ := hv
  have hl := lv_entry ([.ref (q 32)]) (n := 3) (Nat.le_of_ble_eq_true rfl)
  rw [lg_entry_eq]
  generalize (lg_sl ([.ref (q 32)]) ++ List.replicate (3 - (lg_sl ([.ref (q 32)])).length) Slot.unset).toArray = ls at hl ⊢
  exact bM_X11_leftMost ⟨B.exec, B.bytes, hml, findClass_of_methodNamed B.named, fun w h => atoms_spec (ws := vsX11_leftMost) B.pre w (List.mem_cons_of_mem _ h), B.returns, B.notSynchronized⟩ ⟨hK, fun q h => Or.inr h, hN⟩  S s.heap [] ls ⟨hP, hD0.self, va_S.rf⟩ hl  h
def rmM_X11_onTree : Room := { frames := 2, cells := 0, slots := 0, locals := 51 }
set_option maxHeartbeats 4000000 in
set_option maxRecDepth 100000 in
theorem bM_X11_onTree {p : Program} {l : Launch} {e : Env} {s : State} {m : MethodId} {args : Array Value} {below : List Frame} {meth : Method} {c : Code} {D : va_G} {cI : ClassId} {q : Nat → Nat} {A : Nat → Prop} {res : Int32 × zSt} (C : zCX p s m args meth c cX11_onTree 4 (some .int) zU RX11) (hE : zE D [(cI, .int)] [] A s) (x1 x2 : Int32) (S : zSt) (H : Heap) (locs : List Loc) (ls : Array Slot) (hH : zH D (zwM cI q) A s S H locs) (hl : lv_has ls 4 [(0, .ref (q 32)), (1, .int x1), (2, .int x2)]) (h : fM_X11_onTree  x1 x2 S = some res) : W p l e rmM_X11_onTree s m args below meth c H locs 0 0 (zQi below D (zwM cI q) [(cI, .int)] A args s res.1 res.2) (F0 m 0 ls []) := by
  have hx := C.1
  have hb := C.2.1
  unfold fM_X11_onTree at h
  refine lv_iload_n hx hb dX11_onTree_0 rfl (lv_at hl 1 rfl) ?_
  by_cases c1_0 : x1 = 0
  · replace h := zif_t c1_0 h
    refine lv_tableIn (tgt := 48) hx hb dX11_onTree_1 (by rw [c1_0]; decide) (by rw [c1_0]; decide) (by rw [c1_0]; rfl) (by decide) ?_
    refine lv_aload_n hx hb dX11_onTree_48 rfl (lv_at hl 0 rfl) ?_
    refine lv_iload_n hx hb dX11_onTree_49 rfl (lv_at hl 2 rfl) ?_
    obtain ⟨u2, e3, h⟩ := zbd_s h
    refine z_calli (va_runV (As := [.int x2]) (rest := []) (z_fix C) (cM_X11_wayTo l D cI q H.size x2 S e3) (cwV 1 C.2.2.2.2.1 (zGV zk24_20 zk24_21 zk24_22 zk1_5 zk24_23) rfl rfl rfl yd_X11_wayTo ⟨Nat.le_of_ble_eq_true rfl, Nat.le_of_ble_eq_true rfl⟩) (z_preV zNm0 hE hH zM_o rfl) rfl rfl hl.1 rfl (lv_room (Nat.le_of_ble_eq_true rfl)) dX11_onTree_50 ⟨Nat.le_refl 0, Nat.le_refl 0⟩) hE hH (fun H locs hH => ?_)
    refine lv_istore_n (lv' := [(3, .int u2.1), (0, .ref (q 32)), (1, .int x1), (2, .int x2)]) hx hb dX11_onTree_53 rfl hl (by decide) rfl (fun ls hl => ?_)
    refine lv_aload_n hx hb dX11_onTree_54 rfl (lv_at hl 1 rfl) ?_
    refine z_get C hE hH zM_o rfl zh_X11 23 (by decide) zk6_4 (fun _ h9 => h9) (v := .ref (q 23)) rfl dX11_onTree_55 ?_
    refine lv_iload_n hx hb dX11_onTree_58 rfl (lv_at hl 3 rfl) ?_
    obtain ⟨g4, h⟩ := zgd_s h
    refine z_iald C hE hH zM_a23 (t0 := 0) rfl g4 dX11_onTree_59 ?_
    refine lv_if_le (tgt := 65) hx hb dX11_onTree_60 (by decide) (fun c5 => ?_) (fun c5 => ?_)
    · replace h := zif_t c5 h
      refine lv_aload_n hx hb dX11_onTree_65 rfl (lv_at hl 1 rfl) ?_
      refine lv_dup hx hb dX11_onTree_66 rfl ?_
      refine z_get C hE hH zM_o rfl zh_X11 25 (by decide) zk22_4 (fun _ h9 => h9) (v := .int (u2.2.1 25)) rfl dX11_onTree_67 ?_
      refine lv_iconst (v := 1) hx hb dX11_onTree_70 (by decide) ?_
      refine lv_iadd hx hb dX11_onTree_71 ?_
      refine z_put C hE hH zM_o rfl zh_X11 tyX11_ok nmX11 25 (by decide) zk22_4 (fun _ h9 => h9) rfl (ty := .int) rfl rfl rfl (Nat.le_of_ble_eq_true rfl) zM_i25 dX11_onTree_72 (fun H locs hH => ?_)
      refine lv_aload_n hx hb dX11_onTree_75 rfl (lv_at hl 1 rfl) ?_
      refine z_get C hE hH zM_o rfl zh_X11 23 (by decide) zk6_4 (fun _ h9 => h9) (v := .ref (q 23)) rfl dX11_onTree_76 ?_
      refine lv_iload_n hx hb dX11_onTree_79 rfl (lv_at hl 3 rfl) ?_
      refine lv_aload_n hx hb dX11_onTree_80 rfl (lv_at hl 1 rfl) ?_
      refine z_get C hE hH zM_o rfl zh_X11 25 (by decide) zk22_4 (fun _ h9 => h9) (v := .int ((u2.2.1 25) + 1)) rfl dX11_onTree_81 ?_
      obtain ⟨g6, h⟩ := zgd_s h
      refine z_iast C hE hH zM_a23 (t0 := 0) rfl g6 zM_r23 dX11_onTree_84 (fun H locs hH => ?_)
      refine lv_iload_n hx hb dX11_onTree_85 rfl (lv_at hl 0 rfl) ?_
      refine lv_iconst (v := 1) hx hb dX11_onTree_86 (by decide) ?_
      refine lv_iadd hx hb dX11_onTree_87 ?_
      cases h
      exact z_iret C hE hH dX11_onTree_88
    · replace h := zif_f c5 h
      refine lv_iload_n hx hb dX11_onTree_63 rfl (lv_at hl 0 rfl) ?_
      cases h
      exact z_iret C hE hH dX11_onTree_64
  · replace h := zif_f c1_0 h
    by_cases c1_1 : x1 = 1
    · replace h := zif_t c1_1 h
      refine lv_tableIn (tgt := 89) hx hb dX11_onTree_1 (by rw [c1_1]; decide) (by rw [c1_1]; decide) (by rw [c1_1]; rfl) (by decide) ?_
      refine lv_aload_n hx hb dX11_onTree_89 rfl (lv_at hl 0 rfl) ?_
      refine lv_iload_n hx hb dX11_onTree_90 rfl (lv_at hl 2 rfl) ?_
      obtain ⟨u7, e8, h⟩ := zbd_s h
      refine z_calli (va_runV (As := [.int x2]) (rest := []) (z_fix C) (cM_X11_wayTo l D cI q H.size x2 S e8) (cwV 1 C.2.2.2.2.1 (zGV zk24_20 zk24_21 zk24_22 zk1_5 zk24_23) rfl rfl rfl yd_X11_wayTo ⟨Nat.le_of_ble_eq_true rfl, Nat.le_of_ble_eq_true rfl⟩) (z_preV zNm0 hE hH zM_o rfl) rfl rfl hl.1 rfl (lv_room (Nat.le_of_ble_eq_true rfl)) dX11_onTree_91 ⟨Nat.le_refl 0, Nat.le_refl 0⟩) hE hH (fun H locs hH => ?_)
      cases h
      exact z_iret C hE hH dX11_onTree_94
    · replace h := zif_f c1_1 h
      by_cases c1_2 : x1 = 2
      · replace h := zif_t c1_2 h
        refine lv_tableIn (tgt := 95) hx hb dX11_onTree_1 (by rw [c1_2]; decide) (by rw [c1_2]; decide) (by rw [c1_2]; rfl) (by decide) ?_
        refine lv_aload_n hx hb dX11_onTree_95 rfl (lv_at hl 0 rfl) ?_
        refine lv_iload_n hx hb dX11_onTree_96 rfl (lv_at hl 2 rfl) ?_
        obtain ⟨u9, e10, h⟩ := zbd_s h
        refine z_calli (va_runV (As := [.int x2]) (rest := []) (z_fix C) (cM_X11_wayTo l D cI q H.size x2 S e10) (cwV 1 C.2.2.2.2.1 (zGV zk24_20 zk24_21 zk24_22 zk1_5 zk24_23) rfl rfl rfl yd_X11_wayTo ⟨Nat.le_of_ble_eq_true rfl, Nat.le_of_ble_eq_true rfl⟩) (z_preV zNm0 hE hH zM_o rfl) rfl rfl hl.1 rfl (lv_room (Nat.le_of_ble_eq_true rfl)) dX11_onTree_97 ⟨Nat.le_refl 0, Nat.le_refl 0⟩) hE hH (fun H locs hH => ?_)
        refine lv_istore_n (lv' := [(3, .int u9.1), (0, .ref (q 32)), (1, .int x1), (2, .int x2)]) hx hb dX11_onTree_100 rfl hl (by decide) rfl (fun ls hl => ?_)
        refine lv_aload_n hx hb dX11_onTree_101 rfl (lv_at hl 1 rfl) ?_
        refine z_get C hE hH zM_o rfl zh_X11 24 (by decide) zk6_5 (fun _ h9 => h9) (v := .ref (q 24)) rfl dX11_onTree_102 ?_
        refine lv_iload_n hx hb dX11_onTree_105 rfl (lv_at hl 3 rfl) ?_
        obtain ⟨g11, h⟩ := zgd_s h
        refine z_iald C hE hH zM_a24 (t0 := 0) rfl g11 dX11_onTree_106 ?_
        refine lv_iconst (v := 1) hx hb dX11_onTree_107 (by decide) ?_
        refine lv_icmp_ne (tgt := 121) hx hb dX11_onTree_108 (by decide) (fun c12 => ?_) (fun c12 => ?_)
        · replace h := zif_f c12 h
          refine lv_iload_n hx hb dX11_onTree_121 rfl (lv_at hl 0 rfl) ?_
          cases h
          exact z_iret C hE hH dX11_onTree_122
        · replace h := zif_t c12 h
          refine lv_iload_n hx hb dX11_onTree_111 rfl (lv_at hl 0 rfl) ?_
          refine lv_aload_n hx hb dX11_onTree_112 rfl (lv_at hl 1 rfl) ?_
          refine lv_iload_n hx hb dX11_onTree_113 rfl (lv_at hl 3 rfl) ?_
          obtain ⟨u13, e14, h⟩ := zbd_s h
          refine z_calli (va_runV (As := [.int x2]) (rest := [.int u9.1]) (z_fix C) (cM_X11_takeNode l D cI q H.size x2 u9.2 e14) (cwV 1 C.2.2.2.2.1 (zGV zk25_6 zk25_7 zk25_8 zk1_5 zk25_9) rfl rfl rfl yd_X11_takeNode ⟨Nat.le_of_ble_eq_true rfl, Nat.le_of_ble_eq_true rfl⟩) (z_preV zNm0 hE hH zM_o rfl) rfl rfl hl.1 rfl (lv_room (Nat.le_of_ble_eq_true rfl)) dX11_onTree_114 ⟨Nat.le_refl 0, Nat.le_refl 0⟩) hE hH (fun H locs hH => ?_)
          refine lv_iadd hx hb dX11_onTree_117 ?_
          refine lv_goto (tgt := 122) hx hb dX11_onTree_118 (by decide) ?_
          cases h
          exact z_iret C hE hH dX11_onTree_122
      · replace h := zif_f c1_2 h
        by_cases c1_3 : x1 = 3
        · replace h := zif_t c1_3 h
          refine lv_tableIn (tgt := 123) hx hb dX11_onTree_1 (by rw [c1_3]; decide) (by rw [c1_3]; decide) (by rw [c1_3]; rfl) (by decide) ?_
          refine lv_aload_n hx hb dX11_onTree_123 rfl (lv_at hl 0 rfl) ?_
          obtain ⟨u15, e16, h⟩ := zbd_s h
          refine z_calli (va_runV (As := []) (rest := []) (z_fix C) (cM_X11_nodes l D cI q H.size  S e16) (cwV 0 C.2.2.2.2.1 (zGV zk22_9 zk22_10 zk22_11 zk1_5 zk22_12) rfl rfl rfl yd_X11_nodes ⟨Nat.le_of_ble_eq_true rfl, Nat.le_of_ble_eq_true rfl⟩) (z_preV zNm0 hE hH zM_o rfl) rfl rfl hl.1 rfl (lv_room (Nat.le_of_ble_eq_true rfl)) dX11_onTree_124 ⟨Nat.le_refl 0, Nat.le_refl 0⟩) hE hH (fun H locs hH => ?_)
          cases h
          exact z_iret C hE hH dX11_onTree_127
        · replace h := zif_f c1_3 h
          by_cases c1_4 : x1 = 4
          · replace h := zif_t c1_4 h
            refine lv_tableIn (tgt := 128) hx hb dX11_onTree_1 (by rw [c1_4]; decide) (by rw [c1_4]; decide) (by rw [c1_4]; rfl) (by decide) ?_
            refine lv_aload_n hx hb dX11_onTree_128 rfl (lv_at hl 0 rfl) ?_
            obtain ⟨u17, e18, h⟩ := zbd_s h
            refine z_calli (va_runV (As := []) (rest := []) (z_fix C) (cM_X11_leftMost l D cI q H.size  S e18) (cwV 0 C.2.2.2.2.1 (zGV zk25_10 zk25_11 zk25_12 zk1_5 zk25_13) rfl rfl rfl yd_X11_leftMost ⟨Nat.le_of_ble_eq_true rfl, Nat.le_of_ble_eq_true rfl⟩) (z_preV zNm0 hE hH zM_o rfl) rfl rfl hl.1 rfl (lv_room (Nat.le_of_ble_eq_true rfl)) dX11_onTree_129 ⟨Nat.le_refl 0, Nat.le_refl 0⟩) hE hH (fun H locs hH => ?_)
            cases h
            exact z_iret C hE hH dX11_onTree_132
          · replace h := zif_f c1_4 h
            by_cases c1_5 : x1 = 5
            · replace h := zif_t c1_5 h
              refine lv_tableIn (tgt := 89) hx hb dX11_onTree_1 (by rw [c1_5]; decide) (by rw [c1_5]; decide) (by rw [c1_5]; rfl) (by decide) ?_
              refine lv_aload_n hx hb dX11_onTree_89 rfl (lv_at hl 0 rfl) ?_
              refine lv_iload_n hx hb dX11_onTree_90 rfl (lv_at hl 2 rfl) ?_
              obtain ⟨u19, e20, h⟩ := zbd_s h
              refine z_calli (va_runV (As := [.int x2]) (rest := []) (z_fix C) (cM_X11_wayTo l D cI q H.size x2 S e20) (cwV 1 C.2.2.2.2.1 (zGV zk24_20 zk24_21 zk24_22 zk1_5 zk24_23) rfl rfl rfl yd_X11_wayTo ⟨Nat.le_of_ble_eq_true rfl, Nat.le_of_ble_eq_true rfl⟩) (z_preV zNm0 hE hH zM_o rfl) rfl rfl hl.1 rfl (lv_room (Nat.le_of_ble_eq_true rfl)) dX11_onTree_91 ⟨Nat.le_refl 0, Nat.le_refl 0⟩) hE hH (fun H locs hH => ?_)
              cases h
              exact z_iret C hE hH dX11_onTree_94
            · replace h := zif_f c1_5 h
              by_cases c1_6 : x1 = 6
              · replace h := zif_t c1_6 h
                refine lv_tableIn (tgt := 133) hx hb dX11_onTree_1 (by rw [c1_6]; decide) (by rw [c1_6]; decide) (by rw [c1_6]; rfl) (by decide) ?_
                refine lv_iconst (v := 0) hx hb dX11_onTree_133 (by decide) ?_
                cases h
                exact z_iret C hE hH dX11_onTree_134
              · replace h := zif_f c1_6 h
                by_cases c1_7 : x1 = 7
                · replace h := zif_t c1_7 h
                  refine lv_tableIn (tgt := 89) hx hb dX11_onTree_1 (by rw [c1_7]; decide) (by rw [c1_7]; decide) (by rw [c1_7]; rfl) (by decide) ?_
                  refine lv_aload_n hx hb dX11_onTree_89 rfl (lv_at hl 0 rfl) ?_
                  refine lv_iload_n hx hb dX11_onTree_90 rfl (lv_at hl 2 rfl) ?_
                  obtain ⟨u21, e22, h⟩ := zbd_s h
                  refine z_calli (va_runV (As := [.int x2]) (rest := []) (z_fix C) (cM_X11_wayTo l D cI q H.size x2 S e22) (cwV 1 C.2.2.2.2.1 (zGV zk24_20 zk24_21 zk24_22 zk1_5 zk24_23) rfl rfl rfl yd_X11_wayTo ⟨Nat.le_of_ble_eq_true rfl, Nat.le_of_ble_eq_true rfl⟩) (z_preV zNm0 hE hH zM_o rfl) rfl rfl hl.1 rfl (lv_room (Nat.le_of_ble_eq_true rfl)) dX11_onTree_91 ⟨Nat.le_refl 0, Nat.le_refl 0⟩) hE hH (fun H locs hH => ?_)
                  cases h
                  exact z_iret C hE hH dX11_onTree_94
                · replace h := zif_f c1_7 h
                  have ec1_0 : ¬ (x1).toInt = 0 := zsw_ne c1_0
                  have ec1_1 : ¬ (x1).toInt = 1 := zsw_ne c1_1
                  have ec1_2 : ¬ (x1).toInt = 2 := zsw_ne c1_2
                  have ec1_3 : ¬ (x1).toInt = 3 := zsw_ne c1_3
                  have ec1_4 : ¬ (x1).toInt = 4 := zsw_ne c1_4
                  have ec1_5 : ¬ (x1).toInt = 5 := zsw_ne c1_5
                  have ec1_6 : ¬ (x1).toInt = 6 := zsw_ne c1_6
                  have ec1_7 : ¬ (x1).toInt = 7 := zsw_ne c1_7
                  refine lv_tableOut (tgt := 133) hx hb dX11_onTree_1 (by omega) (by decide) ?_
                  refine lv_iconst (v := 0) hx hb dX11_onTree_133 (by decide) ?_
                  cases h
                  exact z_iret C hE hH dX11_onTree_134
set_option maxHeartbeats 4000000 in
set_option maxRecDepth 100000 in
theorem cM_X11_onTree (l : Launch) (D : va_G) (cI : ClassId) (q : Nat → Nat) (sz : Nat) (x1 : Int32) (x2 : Int32) (S : zSt) {res : Int32 × zSt} (h : fM_X11_onTree x1 x2 S = some res) : zMi l yX11_onTree vsX11_onTree rmM_X11_onTree [.ref (q 32), .int x1, .int x2] D (zwM cI q) [(cI, .int)] [] sz S res.1 res.2 := by
  refine Met.ofW (cc := cX11_onTree) (maxL := 4) (ret := (some .int)) (by decide) rfl ?_
  intro p e s m args below meth c s₁ B hml hv
  obtain ⟨rfl, rfl, hP, hK, hD0, hN⟩ := hv
  have hl := lv_entry ([.ref (q 32), .int x1, .int x2]) (n := 4) (Nat.le_of_ble_eq_true rfl)
  rw [lg_entry_eq]
  generalize (lg_sl ([.ref (q 32), .int x1, .int x2]) ++ List.replicate (4 - (lg_sl ([.ref (q 32), .int x1, .int x2])).length) Slot.unset).toArray = ls at hl ⊢
  exact bM_X11_onTree ⟨B.exec, B.bytes, hml, findClass_of_methodNamed B.named, fun w h => atoms_spec (ws := vsX11_onTree) B.pre w (List.mem_cons_of_mem _ h), B.returns, B.notSynchronized⟩ ⟨hK, fun q h => Or.inr h, hN⟩ x1 x2 S s.heap [] ls ⟨hP, hD0.self, va_S.rf⟩ hl  h
def rmM_X11_up : Room := { frames := 0, cells := 0, slots := 0, locals := 0 }
set_option maxHeartbeats 4000000 in
set_option maxRecDepth 100000 in
theorem bM_X11_up_4 {p : Program} {l : Launch} {e : Env} {s : State} {m : MethodId} {args : Array Value} {below : List Frame} {meth : Method} {c : Code} {D : va_G} {cI : ClassId} {q : Nat → Nat} {A : Nat → Prop} {res : Int32 × zSt} (C : zCX p s m args meth c cX11_up 6 (some .int) zU RX11) (hE : zE D [(cI, .int)] [] A s) : ∀ (n : Nat) (x2 x3 : Int32) (S : zSt) (H : Heap) (locs : List Loc) (ls : Array Slot), zH D (zwM cI q) A s S H locs → lv_has ls 6 [(0, .ref (q 32)), (2, .int x2), (3, .int x3)] → fM_X11_up_4  n x2 x3 S = some res → W p l e rmM_X11_up s m args below meth c H locs 0 0 (zQi below D (zwM cI q) [(cI, .int)] A args s res.1 res.2) (F0 m 4 ls []) := by
  have hx := C.1
  have hb := C.2.1
  intro n
  induction n with
  | zero =>
    intro x2 x3 S H locs ls hH hl  h
    cases h
  | succ n hK4 =>
    intro x2 x3 S H locs ls hH hl  h
    rw [fM_X11_up_4] at h
    refine lv_iload_n hx hb dX11_up_4 rfl (lv_at hl 1 rfl) ?_
    refine lv_if_le (tgt := 73) hx hb dX11_up_5 (by decide) (fun c1 => ?_) (fun c1 => ?_)
    · replace h := zif_t c1 h
      refine lv_iload_n hx hb dX11_up_73 rfl (lv_at hl 2 rfl) ?_
      cases h
      exact z_iret C hE hH dX11_up_74
    · replace h := zif_f c1 h
      refine lv_aload_n hx hb dX11_up_8 rfl (lv_at hl 0 rfl) ?_
      refine z_get C hE hH zM_o rfl zh_X11 16 (by decide) zk6_0 (fun _ h9 => h9) (v := .ref (q 16)) rfl dX11_up_9 ?_
      refine lv_iload_n hx hb dX11_up_12 rfl (lv_at hl 1 rfl) ?_
      refine lv_iconst (v := 1) hx hb dX11_up_13 (by decide) ?_
      refine lv_isub hx hb dX11_up_14 ?_
      refine lv_iconst (v := 2) hx hb dX11_up_15 (by decide) ?_
      refine lv_idiv hx hb dX11_up_16 (by decide) ?_
      obtain ⟨g2, h⟩ := zgd_s h
      refine z_iald C hE hH zM_a16 (t0 := 0) rfl g2 dX11_up_17 ?_
      refine lv_aload_n hx hb dX11_up_18 rfl (lv_at hl 0 rfl) ?_
      refine z_get C hE hH zM_o rfl zh_X11 16 (by decide) zk6_0 (fun _ h9 => h9) (v := .ref (q 16)) rfl dX11_up_19 ?_
      refine lv_iload_n hx hb dX11_up_22 rfl (lv_at hl 1 rfl) ?_
      obtain ⟨g3, h⟩ := zgd_s h
      refine z_iald C hE hH zM_a16 (t0 := 0) rfl g3 dX11_up_23 ?_
      refine lv_icmp_le (tgt := 73) hx hb dX11_up_24 (by decide) (fun c4 => ?_) (fun c4 => ?_)
      · replace h := zif_t c4 h
        refine lv_iload_n hx hb dX11_up_73 rfl (lv_at hl 2 rfl) ?_
        cases h
        exact z_iret C hE hH dX11_up_74
      · replace h := zif_f c4 h
        refine lv_iload_n hx hb dX11_up_27 rfl (lv_at hl 1 rfl) ?_
        refine lv_iconst (v := 1) hx hb dX11_up_28 (by decide) ?_
        refine lv_isub hx hb dX11_up_29 ?_
        refine lv_iconst (v := 2) hx hb dX11_up_30 (by decide) ?_
        refine lv_idiv hx hb dX11_up_31 (by decide) ?_
        refine lv_istore (lv' := [(4, .int ((x2 - 1) / 2)), (0, .ref (q 32)), (2, .int x2), (3, .int x3)]) hx hb dX11_up_32 hl (by decide) rfl (fun ls hl => ?_)
        refine lv_aload_n hx hb dX11_up_34 rfl (lv_at hl 1 rfl) ?_
        refine z_get C hE hH zM_o rfl zh_X11 16 (by decide) zk6_0 (fun _ h9 => h9) (v := .ref (q 16)) rfl dX11_up_35 ?_
        refine lv_iload_n hx hb dX11_up_38 rfl (lv_at hl 2 rfl) ?_
        obtain ⟨g5, h⟩ := zgd_s h
        refine z_iald C hE hH zM_a16 (t0 := 0) rfl g5 dX11_up_39 ?_
        refine lv_istore (lv' := [(5, .int (S.2 16 x2.toNatClampNeg)), (4, .int ((x2 - 1) / 2)), (0, .ref (q 32)), (2, .int x2), (3, .int x3)]) hx hb dX11_up_40 hl (by decide) rfl (fun ls hl => ?_)
        refine lv_aload_n hx hb dX11_up_42 rfl (lv_at hl 2 rfl) ?_
        refine z_get C hE hH zM_o rfl zh_X11 16 (by decide) zk6_0 (fun _ h9 => h9) (v := .ref (q 16)) rfl dX11_up_43 ?_
        refine lv_iload_n hx hb dX11_up_46 rfl (lv_at hl 3 rfl) ?_
        refine lv_aload_n hx hb dX11_up_47 rfl (lv_at hl 2 rfl) ?_
        refine z_get C hE hH zM_o rfl zh_X11 16 (by decide) zk6_0 (fun _ h9 => h9) (v := .ref (q 16)) rfl dX11_up_48 ?_
        refine lv_iload hx hb dX11_up_51 (lv_at hl 1 rfl) ?_
        obtain ⟨g6, h⟩ := zgd_s h
        refine z_iald C hE hH zM_a16 (t0 := 0) rfl g6 dX11_up_53 ?_
        obtain ⟨g7, h⟩ := zgd_s h
        refine z_iast C hE hH zM_a16 (t0 := 0) rfl g7 zM_r16 dX11_up_54 (fun H locs hH => ?_)
        refine lv_aload_n hx hb dX11_up_55 rfl (lv_at hl 2 rfl) ?_
        refine z_get C hE hH zM_o rfl zh_X11 16 (by decide) zk6_0 (fun _ h9 => h9) (v := .ref (q 16)) rfl dX11_up_56 ?_
        refine lv_iload hx hb dX11_up_59 (lv_at hl 1 rfl) ?_
        refine lv_iload hx hb dX11_up_61 (lv_at hl 0 rfl) ?_
        obtain ⟨g8, h⟩ := zgd_s h
        refine z_iast C hE hH zM_a16 (t0 := 0) rfl g8 zM_r16 dX11_up_63 (fun H locs hH => ?_)
        refine lv_iload hx hb dX11_up_64 (lv_at hl 1 rfl) ?_
        refine lv_istore_n (lv' := [(2, .int ((x2 - 1) / 2)), (5, .int (S.2 16 x2.toNatClampNeg)), (4, .int ((x2 - 1) / 2)), (0, .ref (q 32)), (3, .int x3)]) hx hb dX11_up_66 rfl hl (by decide) rfl (fun ls hl => ?_)
        refine lv_iinc (v := (x3 + 1)) (lv' := [(3, .int (x3 + 1)), (2, .int ((x2 - 1) / 2)), (5, .int (S.2 16 x2.toNatClampNeg)), (4, .int ((x2 - 1) / 2)), (0, .ref (q 32))]) hx hb dX11_up_67 hl (k := 4) rfl rfl (by decide) rfl (fun ls hl => ?_)
        refine lv_goto (tgt := 4) hx hb dX11_up_70 (by decide) ?_
        exact hK4 ((x2 - 1) / 2) (x3 + 1) (zsR (zsR S 16 x2.toNatClampNeg (S.2 16 ((x2 - 1) / 2).toNatClampNeg)) 16 ((x2 - 1) / 2).toNatClampNeg (S.2 16 x2.toNatClampNeg)) H locs ls hH (lv_sub hl [4, 1, 0] rfl) h
set_option maxHeartbeats 4000000 in
set_option maxRecDepth 100000 in
theorem bM_X11_up {p : Program} {l : Launch} {e : Env} {s : State} {m : MethodId} {args : Array Value} {below : List Frame} {meth : Method} {c : Code} {D : va_G} {cI : ClassId} {q : Nat → Nat} {A : Nat → Prop} {res : Int32 × zSt} (C : zCX p s m args meth c cX11_up 6 (some .int) zU RX11) (hE : zE D [(cI, .int)] [] A s) (x1 : Int32) (S : zSt) (H : Heap) (locs : List Loc) (ls : Array Slot) (hH : zH D (zwM cI q) A s S H locs) (hl : lv_has ls 6 [(0, .ref (q 32)), (1, .int x1)]) (h : fM_X11_up  x1 S = some res) : W p l e rmM_X11_up s m args below meth c H locs 0 0 (zQi below D (zwM cI q) [(cI, .int)] A args s res.1 res.2) (F0 m 0 ls []) := by
  have hx := C.1
  have hb := C.2.1
  unfold fM_X11_up at h
  refine lv_iload_n hx hb dX11_up_0 rfl (lv_at hl 1 rfl) ?_
  refine lv_istore_n (lv' := [(2, .int x1), (0, .ref (q 32)), (1, .int x1)]) hx hb dX11_up_1 rfl hl (by decide) rfl (fun ls hl => ?_)
  refine lv_iconst (v := 0) hx hb dX11_up_2 (by decide) ?_
  refine lv_istore_n (lv' := [(3, .int 0), (2, .int x1), (0, .ref (q 32)), (1, .int x1)]) hx hb dX11_up_3 rfl hl (by decide) rfl (fun ls hl => ?_)
  exact bM_X11_up_4 C hE   1000 x1 0 S H locs ls hH (lv_sub hl [2, 1, 0] rfl) h
set_option maxHeartbeats 4000000 in
set_option maxRecDepth 100000 in
theorem cM_X11_up (l : Launch) (D : va_G) (cI : ClassId) (q : Nat → Nat) (sz : Nat) (x1 : Int32) (S : zSt) {res : Int32 × zSt} (h : fM_X11_up x1 S = some res) : zMi l yX11_up vsX11_up rmM_X11_up [.ref (q 32), .int x1] D (zwM cI q) [(cI, .int)] [] sz S res.1 res.2 := by
  refine Met.ofW (cc := cX11_up) (maxL := 6) (ret := (some .int)) (by decide) rfl ?_
  intro p e s m args below meth c s₁ B hml hv
  obtain ⟨rfl, rfl, hP, hK, hD0, hN⟩ := hv
  have hl := lv_entry ([.ref (q 32), .int x1]) (n := 6) (Nat.le_of_ble_eq_true rfl)
  rw [lg_entry_eq]
  generalize (lg_sl ([.ref (q 32), .int x1]) ++ List.replicate (6 - (lg_sl ([.ref (q 32), .int x1])).length) Slot.unset).toArray = ls at hl ⊢
  exact bM_X11_up ⟨B.exec, B.bytes, hml, findClass_of_methodNamed B.named, fun w h => atoms_spec (ws := vsX11_up) B.pre w (List.mem_cons_of_mem _ h), B.returns, B.notSynchronized⟩ ⟨hK, fun q h => Or.inr h, hN⟩ x1 S s.heap [] ls ⟨hP, hD0.self, va_S.rf⟩ hl  h
def rmM_X11_down : Room := { frames := 0, cells := 0, slots := 0, locals := 0 }
set_option maxHeartbeats 4000000 in
set_option maxRecDepth 100000 in
theorem bM_X11_down_51 {p : Program} {l : Launch} {e : Env} {s : State} {m : MethodId} {args : Array Value} {below : List Frame} {meth : Method} {c : Code} {D : va_G} {cI : ClassId} {q : Nat → Nat} {A : Nat → Prop} {res : Int32 × zSt} (C : zCX p s m args meth c cX11_down 7 (some .int) zU RX11) (hE : zE D [(cI, .int)] [] A s) (K5 : (Int32 → Int32 → Int32 → zSt → Option (Int32 × zSt))) (hK5 : ∀ (x2 x3 x4 : Int32) (S : zSt) (H : Heap) (locs : List Loc) (ls : Array Slot), zH D (zwM cI q) A s S H locs → lv_has ls 7 [(0, .ref (q 32)), (2, .int x2), (3, .int x3), (4, .int x4)] → K5 x2 x3 x4 S = some res → W p l e rmM_X11_down s m args below meth c H locs 0 0 (zQi below D (zwM cI q) [(cI, .int)] A args s res.1 res.2) (F0 m 5 ls [])) (x2 x3 x4 x5 : Int32) (S : zSt) (H : Heap) (locs : List Loc) (ls : Array Slot) (hH : zH D (zwM cI q) A s S H locs) (hl : lv_has ls 7 [(0, .ref (q 32)), (2, .int x2), (3, .int x3), (4, .int x4), (5, .int x5)]) (h : fM_X11_down_51 K5 x2 x3 x4 x5 S = some res) : W p l e rmM_X11_down s m args below meth c H locs 0 0 (zQi below D (zwM cI q) [(cI, .int)] A args s res.1 res.2) (F0 m 51 ls []) := by
  have hx := C.1
  have hb := C.2.1
  unfold fM_X11_down_51 at h
  refine lv_aload_n hx hb dX11_down_51 rfl (lv_at hl 0 rfl) ?_
  refine z_get C hE hH zM_o rfl zh_X11 16 (by decide) zk6_0 (fun _ h9 => h9) (v := .ref (q 16)) rfl dX11_down_52 ?_
  refine lv_iload hx hb dX11_down_55 (lv_at hl 4 rfl) ?_
  obtain ⟨g1, h⟩ := zgd_s h
  refine z_iald C hE hH zM_a16 (t0 := 0) rfl g1 dX11_down_57 ?_
  refine lv_aload_n hx hb dX11_down_58 rfl (lv_at hl 0 rfl) ?_
  refine z_get C hE hH zM_o rfl zh_X11 16 (by decide) zk6_0 (fun _ h9 => h9) (v := .ref (q 16)) rfl dX11_down_59 ?_
  refine lv_iload_n hx hb dX11_down_62 rfl (lv_at hl 2 rfl) ?_
  obtain ⟨g2, h⟩ := zgd_s h
  refine z_iald C hE hH zM_a16 (t0 := 0) rfl g2 dX11_down_63 ?_
  refine lv_icmp_lt (tgt := 70) hx hb dX11_down_64 (by decide) (fun c3 => ?_) (fun c3 => ?_)
  · replace h := zif_t c3 h
    refine lv_aload_n hx hb dX11_down_70 rfl (lv_at hl 0 rfl) ?_
    refine z_get C hE hH zM_o rfl zh_X11 16 (by decide) zk6_0 (fun _ h9 => h9) (v := .ref (q 16)) rfl dX11_down_71 ?_
    refine lv_iload_n hx hb dX11_down_74 rfl (lv_at hl 2 rfl) ?_
    obtain ⟨g4, h⟩ := zgd_s h
    refine z_iald C hE hH zM_a16 (t0 := 0) rfl g4 dX11_down_75 ?_
    refine lv_istore (lv' := [(6, .int (S.2 16 x3.toNatClampNeg)), (0, .ref (q 32)), (2, .int x2), (3, .int x3), (4, .int x4), (5, .int x5)]) hx hb dX11_down_76 hl (by decide) rfl (fun ls hl => ?_)
    refine lv_aload_n hx hb dX11_down_78 rfl (lv_at hl 1 rfl) ?_
    refine z_get C hE hH zM_o rfl zh_X11 16 (by decide) zk6_0 (fun _ h9 => h9) (v := .ref (q 16)) rfl dX11_down_79 ?_
    refine lv_iload_n hx hb dX11_down_82 rfl (lv_at hl 3 rfl) ?_
    refine lv_aload_n hx hb dX11_down_83 rfl (lv_at hl 1 rfl) ?_
    refine z_get C hE hH zM_o rfl zh_X11 16 (by decide) zk6_0 (fun _ h9 => h9) (v := .ref (q 16)) rfl dX11_down_84 ?_
    refine lv_iload hx hb dX11_down_87 (lv_at hl 5 rfl) ?_
    obtain ⟨g5, h⟩ := zgd_s h
    refine z_iald C hE hH zM_a16 (t0 := 0) rfl g5 dX11_down_89 ?_
    obtain ⟨g6, h⟩ := zgd_s h
    refine z_iast C hE hH zM_a16 (t0 := 0) rfl g6 zM_r16 dX11_down_90 (fun H locs hH => ?_)
    refine lv_aload_n hx hb dX11_down_91 rfl (lv_at hl 1 rfl) ?_
    refine z_get C hE hH zM_o rfl zh_X11 16 (by decide) zk6_0 (fun _ h9 => h9) (v := .ref (q 16)) rfl dX11_down_92 ?_
    refine lv_iload hx hb dX11_down_95 (lv_at hl 5 rfl) ?_
    refine lv_iload hx hb dX11_down_97 (lv_at hl 0 rfl) ?_
    obtain ⟨g7, h⟩ := zgd_s h
    refine z_iast C hE hH zM_a16 (t0 := 0) rfl g7 zM_r16 dX11_down_99 (fun H locs hH => ?_)
    refine lv_iload hx hb dX11_down_100 (lv_at hl 5 rfl) ?_
    refine lv_istore_n (lv' := [(3, .int x5), (6, .int (S.2 16 x3.toNatClampNeg)), (0, .ref (q 32)), (2, .int x2), (4, .int x4), (5, .int x5)]) hx hb dX11_down_102 rfl hl (by decide) rfl (fun ls hl => ?_)
    refine lv_iinc (v := (x4 + 1)) (lv' := [(4, .int (x4 + 1)), (3, .int x5), (6, .int (S.2 16 x3.toNatClampNeg)), (0, .ref (q 32)), (2, .int x2), (5, .int x5)]) hx hb dX11_down_103 hl (k := 4) rfl rfl (by decide) rfl (fun ls hl => ?_)
    refine lv_goto (tgt := 5) hx hb dX11_down_106 (by decide) ?_
    exact hK5 x2 x5 (x4 + 1) (zsR (zsR S 16 x3.toNatClampNeg (S.2 16 x5.toNatClampNeg)) 16 x5.toNatClampNeg (S.2 16 x3.toNatClampNeg)) H locs ls hH (lv_sub hl [3, 4, 1, 0] rfl) h
  · replace h := zif_f c3 h
    refine lv_iload hx hb dX11_down_67 (lv_at hl 3 rfl) ?_
    cases h
    exact z_iret C hE hH dX11_down_69
set_option maxHeartbeats 4000000 in
set_option maxRecDepth 100000 in
theorem bM_X11_down_5 {p : Program} {l : Launch} {e : Env} {s : State} {m : MethodId} {args : Array Value} {below : List Frame} {meth : Method} {c : Code} {D : va_G} {cI : ClassId} {q : Nat → Nat} {A : Nat → Prop} {res : Int32 × zSt} (C : zCX p s m args meth c cX11_down 7 (some .int) zU RX11) (hE : zE D [(cI, .int)] [] A s) : ∀ (n : Nat) (x2 x3 x4 : Int32) (S : zSt) (H : Heap) (locs : List Loc) (ls : Array Slot), zH D (zwM cI q) A s S H locs → lv_has ls 7 [(0, .ref (q 32)), (2, .int x2), (3, .int x3), (4, .int x4)] → fM_X11_down_5  n x2 x3 x4 S = some res → W p l e rmM_X11_down s m args below meth c H locs 0 0 (zQi below D (zwM cI q) [(cI, .int)] A args s res.1 res.2) (F0 m 5 ls []) := by
  have hx := C.1
  have hb := C.2.1
  intro n
  induction n with
  | zero =>
    intro x2 x3 x4 S H locs ls hH hl  h
    cases h
  | succ n hK5 =>
    intro x2 x3 x4 S H locs ls hH hl  h
    rw [fM_X11_down_5] at h
    refine lv_iconst (v := 2) hx hb dX11_down_5 (by decide) ?_
    refine lv_iload_n hx hb dX11_down_6 rfl (lv_at hl 2 rfl) ?_
    refine lv_imul hx hb dX11_down_7 ?_
    refine lv_iconst (v := 1) hx hb dX11_down_8 (by decide) ?_
    refine lv_iadd hx hb dX11_down_9 ?_
    refine lv_istore (lv' := [(5, .int ((2 * x3) + 1)), (0, .ref (q 32)), (2, .int x2), (3, .int x3), (4, .int x4)]) hx hb dX11_down_10 hl (by decide) rfl (fun ls hl => ?_)
    refine lv_iload hx hb dX11_down_12 (lv_at hl 0 rfl) ?_
    refine lv_iload_n hx hb dX11_down_14 rfl (lv_at hl 2 rfl) ?_
    refine lv_icmp_lt (tgt := 21) hx hb dX11_down_15 (by decide) (fun c1 => ?_) (fun c1 => ?_)
    · replace h := zif_t c1 h
      refine lv_iload hx hb dX11_down_21 (lv_at hl 0 rfl) ?_
      refine lv_iconst (v := 1) hx hb dX11_down_23 (by decide) ?_
      refine lv_iadd hx hb dX11_down_24 ?_
      refine lv_iload_n hx hb dX11_down_25 rfl (lv_at hl 2 rfl) ?_
      refine lv_icmp_ge (tgt := 51) hx hb dX11_down_26 (by decide) (fun c2 => ?_) (fun c2 => ?_)
      · replace h := zif_t c2 h
        exact bM_X11_down_51 C hE (fM_X11_down_5  n) hK5 x2 x3 x4 ((2 * x3) + 1) S H locs ls hH (lv_sub hl [1, 2, 3, 4, 0] rfl) h
      · replace h := zif_f c2 h
        refine lv_aload_n hx hb dX11_down_29 rfl (lv_at hl 1 rfl) ?_
        refine z_get C hE hH zM_o rfl zh_X11 16 (by decide) zk6_0 (fun _ h9 => h9) (v := .ref (q 16)) rfl dX11_down_30 ?_
        refine lv_iload hx hb dX11_down_33 (lv_at hl 0 rfl) ?_
        refine lv_iconst (v := 1) hx hb dX11_down_35 (by decide) ?_
        refine lv_iadd hx hb dX11_down_36 ?_
        obtain ⟨g3, h⟩ := zgd_s h
        refine z_iald C hE hH zM_a16 (t0 := 0) rfl g3 dX11_down_37 ?_
        refine lv_aload_n hx hb dX11_down_38 rfl (lv_at hl 1 rfl) ?_
        refine z_get C hE hH zM_o rfl zh_X11 16 (by decide) zk6_0 (fun _ h9 => h9) (v := .ref (q 16)) rfl dX11_down_39 ?_
        refine lv_iload hx hb dX11_down_42 (lv_at hl 0 rfl) ?_
        obtain ⟨g4, h⟩ := zgd_s h
        refine z_iald C hE hH zM_a16 (t0 := 0) rfl g4 dX11_down_44 ?_
        refine lv_icmp_ge (tgt := 51) hx hb dX11_down_45 (by decide) (fun c5 => ?_) (fun c5 => ?_)
        · replace h := zif_t c5 h
          exact bM_X11_down_51 C hE (fM_X11_down_5  n) hK5 x2 x3 x4 ((2 * x3) + 1) S H locs ls hH (lv_sub hl [1, 2, 3, 4, 0] rfl) h
        · replace h := zif_f c5 h
          refine lv_iinc (v := (((2 * x3) + 1) + 1)) (lv' := [(5, .int (((2 * x3) + 1) + 1)), (0, .ref (q 32)), (2, .int x2), (3, .int x3), (4, .int x4)]) hx hb dX11_down_48 hl (k := 0) rfl rfl (by decide) rfl (fun ls hl => ?_)
          exact bM_X11_down_51 C hE (fM_X11_down_5  n) hK5 x2 x3 x4 (((2 * x3) + 1) + 1) S H locs ls hH (lv_sub hl [1, 2, 3, 4, 0] rfl) h
    · replace h := zif_f c1 h
      refine lv_iload hx hb dX11_down_18 (lv_at hl 4 rfl) ?_
      cases h
      exact z_iret C hE hH dX11_down_20
set_option maxHeartbeats 4000000 in
set_option maxRecDepth 100000 in
theorem bM_X11_down {p : Program} {l : Launch} {e : Env} {s : State} {m : MethodId} {args : Array Value} {below : List Frame} {meth : Method} {c : Code} {D : va_G} {cI : ClassId} {q : Nat → Nat} {A : Nat → Prop} {res : Int32 × zSt} (C : zCX p s m args meth c cX11_down 7 (some .int) zU RX11) (hE : zE D [(cI, .int)] [] A s) (x1 x2 : Int32) (S : zSt) (H : Heap) (locs : List Loc) (ls : Array Slot) (hH : zH D (zwM cI q) A s S H locs) (hl : lv_has ls 7 [(0, .ref (q 32)), (1, .int x1), (2, .int x2)]) (h : fM_X11_down  x1 x2 S = some res) : W p l e rmM_X11_down s m args below meth c H locs 0 0 (zQi below D (zwM cI q) [(cI, .int)] A args s res.1 res.2) (F0 m 0 ls []) := by
  have hx := C.1
  have hb := C.2.1
  unfold fM_X11_down at h
  refine lv_iload_n hx hb dX11_down_0 rfl (lv_at hl 1 rfl) ?_
  refine lv_istore_n (lv' := [(3, .int x1), (0, .ref (q 32)), (1, .int x1), (2, .int x2)]) hx hb dX11_down_1 rfl hl (by decide) rfl (fun ls hl => ?_)
  refine lv_iconst (v := 0) hx hb dX11_down_2 (by decide) ?_
  refine lv_istore (lv' := [(4, .int 0), (3, .int x1), (0, .ref (q 32)), (1, .int x1), (2, .int x2)]) hx hb dX11_down_3 hl (by decide) rfl (fun ls hl => ?_)
  exact bM_X11_down_5 C hE   1000 x2 x1 0 S H locs ls hH (lv_sub hl [2, 4, 1, 0] rfl) h
set_option maxHeartbeats 4000000 in
set_option maxRecDepth 100000 in
theorem cM_X11_down (l : Launch) (D : va_G) (cI : ClassId) (q : Nat → Nat) (sz : Nat) (x1 : Int32) (x2 : Int32) (S : zSt) {res : Int32 × zSt} (h : fM_X11_down x1 x2 S = some res) : zMi l yX11_down vsX11_down rmM_X11_down [.ref (q 32), .int x1, .int x2] D (zwM cI q) [(cI, .int)] [] sz S res.1 res.2 := by
  refine Met.ofW (cc := cX11_down) (maxL := 7) (ret := (some .int)) (by decide) rfl ?_
  intro p e s m args below meth c s₁ B hml hv
  obtain ⟨rfl, rfl, hP, hK, hD0, hN⟩ := hv
  have hl := lv_entry ([.ref (q 32), .int x1, .int x2]) (n := 7) (Nat.le_of_ble_eq_true rfl)
  rw [lg_entry_eq]
  generalize (lg_sl ([.ref (q 32), .int x1, .int x2]) ++ List.replicate (7 - (lg_sl ([.ref (q 32), .int x1, .int x2])).length) Slot.unset).toArray = ls at hl ⊢
  exact bM_X11_down ⟨B.exec, B.bytes, hml, findClass_of_methodNamed B.named, fun w h => atoms_spec (ws := vsX11_down) B.pre w (List.mem_cons_of_mem _ h), B.returns, B.notSynchronized⟩ ⟨hK, fun q h => Or.inr h, hN⟩ x1 x2 S s.heap [] ls ⟨hP, hD0.self, va_S.rf⟩ hl  h
def rmM_X11_placeIn_heap : Room := { frames := 0, cells := 0, slots := 0, locals := 0 }
set_option maxHeartbeats 4000000 in
set_option maxRecDepth 100000 in
theorem bM_X11_placeIn_heap_2 {p : Program} {l : Launch} {e : Env} {s : State} {m : MethodId} {args : Array Value} {below : List Frame} {meth : Method} {c : Code} {D : va_G} {cI : ClassId} {q : Nat → Nat} {A : Nat → Prop} {res : Int32} (C : zCX p s m args meth c cX11_placeIn 4 (some .int) zU RX11) (hE : zE D [(cI, .int)] [] A s) : ∀ (n : Nat) (x1 x2 x3 : Int32) (S : zSt) (H : Heap) (locs : List Loc) (ls : Array Slot), zH D (zwM cI q) A s S H locs → lv_has ls 4 [(0, .ref (q 16)), (1, .int x1), (2, .int x2), (3, .int x3)] → fM_X11_placeIn_heap_2  n x1 x2 x3 S = some res → W p l e rmM_X11_placeIn_heap s m args below meth c H locs 0 0 (zQi below D (zwM cI q) [(cI, .int)] A args s res S) (F0 m 2 ls []) := by
  have hx := C.1
  have hb := C.2.1
  intro n
  induction n with
  | zero =>
    intro x1 x2 x3 S H locs ls hH hl  h
    cases h
  | succ n hK2 =>
    intro x1 x2 x3 S H locs ls hH hl  h
    rw [fM_X11_placeIn_heap_2] at h
    refine lv_iload_n hx hb dX11_placeIn_2 rfl (lv_at hl 3 rfl) ?_
    refine lv_iload_n hx hb dX11_placeIn_3 rfl (lv_at hl 1 rfl) ?_
    refine lv_icmp_ge (tgt := 22) hx hb dX11_placeIn_4 (by decide) (fun c1 => ?_) (fun c1 => ?_)
    · replace h := zif_t c1 h
      refine lv_iconst (v := (-1)) hx hb dX11_placeIn_22 (by decide) ?_
      cases h
      exact z_iret C hE hH dX11_placeIn_23
    · replace h := zif_f c1 h
      refine lv_aload_n hx hb dX11_placeIn_7 rfl (lv_at hl 0 rfl) ?_
      refine lv_iload_n hx hb dX11_placeIn_8 rfl (lv_at hl 3 rfl) ?_
      obtain ⟨g2, h⟩ := zgd_s h
      refine z_iald C hE hH zM_a16 (t0 := 0) rfl g2 dX11_placeIn_9 ?_
      refine lv_iload_n hx hb dX11_placeIn_10 rfl (lv_at hl 2 rfl) ?_
      refine lv_icmp_ne (tgt := 16) hx hb dX11_placeIn_11 (by decide) (fun c3 => ?_) (fun c3 => ?_)
      · replace h := zif_f c3 h
        refine lv_iinc (v := (x3 + 1)) (lv' := [(3, .int (x3 + 1)), (0, .ref (q 16)), (1, .int x1), (2, .int x2)]) hx hb dX11_placeIn_16 hl (k := 3) rfl rfl (by decide) rfl (fun ls hl => ?_)
        refine lv_goto (tgt := 2) hx hb dX11_placeIn_19 (by decide) ?_
        exact hK2 x1 x2 (x3 + 1) S H locs ls hH (lv_sub hl [1, 2, 3, 0] rfl) h
      · replace h := zif_t c3 h
        refine lv_iload_n hx hb dX11_placeIn_14 rfl (lv_at hl 3 rfl) ?_
        cases h
        exact z_iret C hE hH dX11_placeIn_15
set_option maxHeartbeats 4000000 in
set_option maxRecDepth 100000 in
theorem bM_X11_placeIn_heap {p : Program} {l : Launch} {e : Env} {s : State} {m : MethodId} {args : Array Value} {below : List Frame} {meth : Method} {c : Code} {D : va_G} {cI : ClassId} {q : Nat → Nat} {A : Nat → Prop} {res : Int32} (C : zCX p s m args meth c cX11_placeIn 4 (some .int) zU RX11) (hE : zE D [(cI, .int)] [] A s) (x1 x2 : Int32) (S : zSt) (H : Heap) (locs : List Loc) (ls : Array Slot) (hH : zH D (zwM cI q) A s S H locs) (hl : lv_has ls 4 [(0, .ref (q 16)), (1, .int x1), (2, .int x2)]) (h : fM_X11_placeIn_heap  x1 x2 S = some res) : W p l e rmM_X11_placeIn_heap s m args below meth c H locs 0 0 (zQi below D (zwM cI q) [(cI, .int)] A args s res S) (F0 m 0 ls []) := by
  have hx := C.1
  have hb := C.2.1
  unfold fM_X11_placeIn_heap at h
  refine lv_iconst (v := 0) hx hb dX11_placeIn_0 (by decide) ?_
  refine lv_istore_n (lv' := [(3, .int 0), (0, .ref (q 16)), (1, .int x1), (2, .int x2)]) hx hb dX11_placeIn_1 rfl hl (by decide) rfl (fun ls hl => ?_)
  exact bM_X11_placeIn_heap_2 C hE   1000 x1 x2 0 S H locs ls hH (lv_sub hl [1, 2, 3, 0] rfl) h
set_option maxHeartbeats 4000000 in
set_option maxRecDepth 100000 in
theorem cM_X11_placeIn_heap (l : Launch) (D : va_G) (cI : ClassId) (q : Nat → Nat) (sz : Nat) (x1 : Int32) (x2 : Int32) (S : zSt) {res : Int32} (h : fM_X11_placeIn_heap x1 x2 S = some res) : zMi l yX11_placeIn vsX11_placeIn rmM_X11_placeIn_heap [.ref (q 16), .int x1, .int x2] D (zwM cI q) [(cI, .int)] [] sz S res S := by
  refine Met.ofW (cc := cX11_placeIn) (maxL := 4) (ret := (some .int)) (by decide) rfl ?_
  intro p e s m args below meth c s₁ B hml hv
  obtain ⟨rfl, rfl, hP, hK, hD0, hN⟩ := hv
  have hl := lv_entry ([.ref (q 16), .int x1, .int x2]) (n := 4) (Nat.le_of_ble_eq_true rfl)
  rw [lg_entry_eq]
  generalize (lg_sl ([.ref (q 16), .int x1, .int x2]) ++ List.replicate (4 - (lg_sl ([.ref (q 16), .int x1, .int x2])).length) Slot.unset).toArray = ls at hl ⊢
  exact bM_X11_placeIn_heap ⟨B.exec, B.bytes, hml, findClass_of_methodNamed B.named, fun w h => atoms_spec (ws := vsX11_placeIn) B.pre w (List.mem_cons_of_mem _ h), B.returns, B.notSynchronized⟩ ⟨hK, fun q h => Or.inr h, hN⟩ x1 x2 S s.heap [] ls ⟨hP, hD0.self, va_S.rf⟩ hl  h
def rmM_X11_find_heap : Room := { frames := 1, cells := 0, slots := 0, locals := 23 }
set_option maxHeartbeats 4000000 in
set_option maxRecDepth 100000 in
theorem bM_X11_find_heap {p : Program} {l : Launch} {e : Env} {s : State} {m : MethodId} {args : Array Value} {below : List Frame} {meth : Method} {c : Code} {D : va_G} {cI : ClassId} {q : Nat → Nat} {A : Nat → Prop} {res : Int32} (C : zCX p s m args meth c cX11_find 4 (some .int) zU RX11) (hE : zE D [(cI, .int)] [] A s) (x2 : Int32) (S : zSt) (H : Heap) (locs : List Loc) (ls : Array Slot) (hH : zH D (zwM cI q) A s S H locs) (hl : lv_has ls 4 [(0, .ref (q 32)), (1, .ref (q 16)), (2, .int x2)]) (h : fM_X11_find_heap  x2 S = some res) : W p l e rmM_X11_find_heap s m args below meth c H locs 0 0 (zQi below D (zwM cI q) [(cI, .int)] A args s res S) (F0 m 0 ls []) := by
  have hx := C.1
  have hb := C.2.1
  unfold fM_X11_find_heap at h
  refine lv_aload_n hx hb dX11_find_0 rfl (lv_at hl 1 rfl) ?_
  refine lv_aload_n hx hb dX11_find_1 rfl (lv_at hl 0 rfl) ?_
  refine z_get C hE hH zM_o rfl zh_X11 18 (by decide) zk22_1 (fun _ h9 => h9) (v := .int (S.1 18)) rfl dX11_find_2 ?_
  refine lv_iload_n hx hb dX11_find_5 rfl (lv_at hl 2 rfl) ?_
  obtain ⟨u1, e2, h⟩ := zbd_s h
  refine z_calli (va_runS (As := [.ref (q 16), .int (S.1 18), .int x2]) (rest := []) (z_fix C) (cM_X11_placeIn_heap l D cI q H.size (S.1 18) x2 S e2) (va_cwS 3 C.2.2.2.2.1 (zGS zk22_21 zk22_22 zk1_5 zk22_23) rfl rfl rfl yd_X11_placeIn ⟨Nat.le_of_ble_eq_true rfl, Nat.le_of_ble_eq_true rfl⟩) (z_preS zNm0 hE hH) rfl rfl hl.1 rfl (lv_room (Nat.le_of_ble_eq_true rfl)) dX11_find_6 ⟨Nat.le_refl 0, Nat.le_refl 0⟩) hE hH (fun H locs hH => ?_)
  refine lv_istore_n (lv' := [(3, .int u1), (0, .ref (q 32)), (1, .ref (q 16)), (2, .int x2)]) hx hb dX11_find_9 rfl hl (by decide) rfl (fun ls hl => ?_)
  refine lv_iload_n hx hb dX11_find_10 rfl (lv_at hl 0 rfl) ?_
  refine lv_iconst (v := (-1)) hx hb dX11_find_11 (by decide) ?_
  refine lv_icmp_ne (tgt := 22) hx hb dX11_find_12 (by decide) (fun c3 => ?_) (fun c3 => ?_)
  · replace h := zif_f c3 h
    refine lv_iload_n hx hb dX11_find_22 rfl (lv_at hl 0 rfl) ?_
    refine lv_iconst (v := 1) hx hb dX11_find_23 (by decide) ?_
    refine lv_iadd hx hb dX11_find_24 ?_
    cases h
    exact z_iret C hE hH dX11_find_25
  · replace h := zif_t c3 h
    refine lv_aload_n hx hb dX11_find_15 rfl (lv_at hl 1 rfl) ?_
    refine z_get C hE hH zM_o rfl zh_X11 18 (by decide) zk22_1 (fun _ h9 => h9) (v := .int (S.1 18)) rfl dX11_find_16 ?_
    refine lv_goto (tgt := 25) hx hb dX11_find_19 (by decide) ?_
    cases h
    exact z_iret C hE hH dX11_find_25
set_option maxHeartbeats 4000000 in
set_option maxRecDepth 100000 in
theorem cM_X11_find_heap (l : Launch) (D : va_G) (cI : ClassId) (q : Nat → Nat) (sz : Nat) (x2 : Int32) (S : zSt) {res : Int32} (h : fM_X11_find_heap x2 S = some res) : zMi l yX11_find vsX11_find rmM_X11_find_heap [.ref (q 32), .ref (q 16), .int x2] D (zwM cI q) [(cI, .int)] [] sz S res S := by
  refine Met.ofW (cc := cX11_find) (maxL := 4) (ret := (some .int)) (by decide) rfl ?_
  intro p e s m args below meth c s₁ B hml hv
  obtain ⟨rfl, rfl, hP, hK, hD0, hN⟩ := hv
  have hl := lv_entry ([.ref (q 32), .ref (q 16), .int x2]) (n := 4) (Nat.le_of_ble_eq_true rfl)
  rw [lg_entry_eq]
  generalize (lg_sl ([.ref (q 32), .ref (q 16), .int x2]) ++ List.replicate (4 - (lg_sl ([.ref (q 32), .ref (q 16), .int x2])).length) Slot.unset).toArray = ls at hl ⊢
  exact bM_X11_find_heap ⟨B.exec, B.bytes, hml, findClass_of_methodNamed B.named, fun w h => atoms_spec (ws := vsX11_find) B.pre w (List.mem_cons_of_mem _ h), B.returns, B.notSynchronized⟩ ⟨hK, fun q h => Or.inr h, hN⟩ x2 S s.heap [] ls ⟨hP, hD0.self, va_S.rf⟩ hl  h
def rmM_X11_onHeap : Room := { frames := 2, cells := 0, slots := 0, locals := 46 }
set_option maxHeartbeats 4000000 in
set_option maxRecDepth 100000 in
theorem bM_X11_onHeap_175 {p : Program} {l : Launch} {e : Env} {s : State} {m : MethodId} {args : Array Value} {below : List Frame} {meth : Method} {c : Code} {D : va_G} {cI : ClassId} {q : Nat → Nat} {A : Nat → Prop} {res : Int32 × zSt} (C : zCX p s m args meth c cX11_onHeap 6 (some .int) zU RX11) (hE : zE D [(cI, .int)] [] A s) (t0 t1 : Int32) (S : zSt) (H : Heap) (locs : List Loc) (ls : Array Slot) (hH : zH D (zwM cI q) A s S H locs) (hl : lv_has ls 6 []) (h : fM_X11_onHeap_175  t0 t1 S = some res) : W p l e rmM_X11_onHeap s m args below meth c H locs 0 0 (zQi below D (zwM cI q) [(cI, .int)] A args s res.1 res.2) (F0 m 175 ls [.int t1, .int t0]) := by
  have hx := C.1
  have hb := C.2.1
  unfold fM_X11_onHeap_175 at h
  refine lv_iadd hx hb dX11_onHeap_175 ?_
  cases h
  exact z_iret C hE hH dX11_onHeap_176
set_option maxHeartbeats 4000000 in
set_option maxRecDepth 100000 in
theorem bM_X11_onHeap {p : Program} {l : Launch} {e : Env} {s : State} {m : MethodId} {args : Array Value} {below : List Frame} {meth : Method} {c : Code} {D : va_G} {cI : ClassId} {q : Nat → Nat} {A : Nat → Prop} {res : Int32 × zSt} (C : zCX p s m args meth c cX11_onHeap 6 (some .int) zU RX11) (hE : zE D [(cI, .int)] [] A s) (x1 x2 : Int32) (S : zSt) (H : Heap) (locs : List Loc) (ls : Array Slot) (hH : zH D (zwM cI q) A s S H locs) (hl : lv_has ls 6 [(0, .ref (q 32)), (1, .int x1), (2, .int x2)]) (h : fM_X11_onHeap  x1 x2 S = some res) : W p l e rmM_X11_onHeap s m args below meth c H locs 0 0 (zQi below D (zwM cI q) [(cI, .int)] A args s res.1 res.2) (F0 m 0 ls []) := by
  have hx := C.1
  have hb := C.2.1
  unfold fM_X11_onHeap at h
  refine lv_iload_n hx hb dX11_onHeap_0 rfl (lv_at hl 1 rfl) ?_
  by_cases c1_0 : x1 = 0
  · replace h := zif_t c1_0 h
    refine lv_tableIn (tgt := 44) hx hb dX11_onHeap_1 (by rw [c1_0]; decide) (by rw [c1_0]; decide) (by rw [c1_0]; rfl) (by decide) ?_
    refine lv_aload_n hx hb dX11_onHeap_44 rfl (lv_at hl 0 rfl) ?_
    refine lv_iconst (v := 4) hx hb dX11_onHeap_45 (by decide) ?_
    obtain ⟨u2, e3, h⟩ := zbd_s h
    refine z_calli (va_runV (As := [.int 4]) (rest := []) (z_fix C) (cM_X11_grow l D cI q H.size 4 S e3) (cwV 1 C.2.2.2.2.1 (zGV zk23_0 zk23_1 zk23_2 zk1_5 zk23_3) rfl rfl rfl yd_X11_grow ⟨Nat.le_of_ble_eq_true rfl, Nat.le_of_ble_eq_true rfl⟩) (z_preV zNm0 hE hH zM_o rfl) rfl rfl hl.1 rfl (lv_room (Nat.le_of_ble_eq_true rfl)) dX11_onHeap_46 ⟨Nat.le_refl 0, Nat.le_refl 0⟩) hE hH (fun H locs hH => ?_)
    refine lv_iconst (v := 1) hx hb dX11_onHeap_49 (by decide) ?_
    refine lv_iadd hx hb dX11_onHeap_50 ?_
    refine lv_istore_n (lv' := [(3, .int (u2.1 + 1)), (0, .ref (q 32)), (1, .int x1), (2, .int x2)]) hx hb dX11_onHeap_51 rfl hl (by decide) rfl (fun ls hl => ?_)
    refine lv_aload_n hx hb dX11_onHeap_52 rfl (lv_at hl 1 rfl) ?_
    refine z_get C hE hH zM_o rfl zh_X11 16 (by decide) zk6_0 (fun _ h9 => h9) (v := .ref (q 16)) rfl dX11_onHeap_53 ?_
    refine lv_aload_n hx hb dX11_onHeap_56 rfl (lv_at hl 1 rfl) ?_
    refine z_get C hE hH zM_o rfl zh_X11 18 (by decide) zk22_1 (fun _ h9 => h9) (v := .int (u2.2.1 18)) rfl dX11_onHeap_57 ?_
    refine lv_iload_n hx hb dX11_onHeap_60 rfl (lv_at hl 3 rfl) ?_
    obtain ⟨g4, h⟩ := zgd_s h
    refine z_iast C hE hH zM_a16 (t0 := 0) rfl g4 zM_r16 dX11_onHeap_61 (fun H locs hH => ?_)
    refine lv_iload_n hx hb dX11_onHeap_62 rfl (lv_at hl 0 rfl) ?_
    refine lv_aload_n hx hb dX11_onHeap_63 rfl (lv_at hl 1 rfl) ?_
    refine lv_aload_n hx hb dX11_onHeap_64 rfl (lv_at hl 1 rfl) ?_
    refine z_get C hE hH zM_o rfl zh_X11 18 (by decide) zk22_1 (fun _ h9 => h9) (v := .int (u2.2.1 18)) rfl dX11_onHeap_65 ?_
    obtain ⟨u5, e6, h⟩ := zbd_s h
    refine z_calli (va_runV (As := [.int (u2.2.1 18)]) (rest := [.int (u2.1 + 1)]) (z_fix C) (cM_X11_up l D cI q H.size (u2.2.1 18) (zsR u2.2 16 (u2.2.1 18).toNatClampNeg x2) e6) (cwV 1 C.2.2.2.2.1 (zGV zk25_18 zk25_19 zk25_20 zk1_5 zk25_21) rfl rfl rfl yd_X11_up ⟨Nat.le_of_ble_eq_true rfl, Nat.le_of_ble_eq_true rfl⟩) (z_preV zNm0 hE hH zM_o rfl) rfl rfl hl.1 rfl (lv_room (Nat.le_of_ble_eq_true rfl)) dX11_onHeap_68 ⟨Nat.le_refl 0, Nat.le_refl 0⟩) hE hH (fun H locs hH => ?_)
    refine lv_iadd hx hb dX11_onHeap_71 ?_
    cases h
    exact z_iret C hE hH dX11_onHeap_72
  · replace h := zif_f c1_0 h
    by_cases c1_1 : x1 = 1
    · replace h := zif_t c1_1 h
      refine lv_tableIn (tgt := 73) hx hb dX11_onHeap_1 (by rw [c1_1]; decide) (by rw [c1_1]; decide) (by rw [c1_1]; rfl) (by decide) ?_
      refine lv_aload_n hx hb dX11_onHeap_73 rfl (lv_at hl 0 rfl) ?_
      refine lv_aload_n hx hb dX11_onHeap_74 rfl (lv_at hl 0 rfl) ?_
      refine z_get C hE hH zM_o rfl zh_X11 16 (by decide) zk6_0 (fun _ h9 => h9) (v := .ref (q 16)) rfl dX11_onHeap_75 ?_
      refine lv_iload_n hx hb dX11_onHeap_78 rfl (lv_at hl 2 rfl) ?_
      obtain ⟨u7, e8, h⟩ := zbd_s h
      refine z_calli (va_runV (As := [.ref (q 16), .int x2]) (rest := []) (z_fix C) (cM_X11_find_heap l D cI q H.size x2 S e8) (cwV 2 C.2.2.2.2.1 (zGV zk23_4 zk23_5 zk23_6 zk1_5 zk23_7) rfl rfl rfl yd_X11_find ⟨Nat.le_of_ble_eq_true rfl, Nat.le_of_ble_eq_true rfl⟩) (z_preV zNm0 hE hH zM_o rfl) rfl rfl hl.1 rfl (lv_room (Nat.le_of_ble_eq_true rfl)) dX11_onHeap_79 ⟨Nat.le_refl 0, Nat.le_refl 0⟩) hE hH (fun H locs hH => ?_)
      cases h
      exact z_iret C hE hH dX11_onHeap_82
    · replace h := zif_f c1_1 h
      by_cases c1_2 : x1 = 2
      · replace h := zif_t c1_2 h
        refine lv_tableIn (tgt := 83) hx hb dX11_onHeap_1 (by rw [c1_2]; decide) (by rw [c1_2]; decide) (by rw [c1_2]; rfl) (by decide) ?_
        refine lv_aload_n hx hb dX11_onHeap_83 rfl (lv_at hl 0 rfl) ?_
        refine lv_aload_n hx hb dX11_onHeap_84 rfl (lv_at hl 0 rfl) ?_
        refine z_get C hE hH zM_o rfl zh_X11 16 (by decide) zk6_0 (fun _ h9 => h9) (v := .ref (q 16)) rfl dX11_onHeap_85 ?_
        refine lv_iload_n hx hb dX11_onHeap_88 rfl (lv_at hl 2 rfl) ?_
        obtain ⟨u9, e10, h⟩ := zbd_s h
        refine z_calli (va_runV (As := [.ref (q 16), .int x2]) (rest := []) (z_fix C) (cM_X11_find_heap l D cI q H.size x2 S e10) (cwV 2 C.2.2.2.2.1 (zGV zk23_4 zk23_5 zk23_6 zk1_5 zk23_7) rfl rfl rfl yd_X11_find ⟨Nat.le_of_ble_eq_true rfl, Nat.le_of_ble_eq_true rfl⟩) (z_preV zNm0 hE hH zM_o rfl) rfl rfl hl.1 rfl (lv_room (Nat.le_of_ble_eq_true rfl)) dX11_onHeap_89 ⟨Nat.le_refl 0, Nat.le_refl 0⟩) hE hH (fun H locs hH => ?_)
        refine lv_istore_n (lv' := [(3, .int u9), (0, .ref (q 32)), (1, .int x1), (2, .int x2)]) hx hb dX11_onHeap_92 rfl hl (by decide) rfl (fun ls hl => ?_)
        refine lv_aload_n hx hb dX11_onHeap_93 rfl (lv_at hl 1 rfl) ?_
        refine z_get C hE hH zM_o rfl zh_X11 16 (by decide) zk6_0 (fun _ h9 => h9) (v := .ref (q 16)) rfl dX11_onHeap_94 ?_
        refine lv_aload_n hx hb dX11_onHeap_97 rfl (lv_at hl 1 rfl) ?_
        refine z_get C hE hH zM_o rfl zh_X11 18 (by decide) zk22_1 (fun _ h9 => h9) (v := .int (S.1 18)) rfl dX11_onHeap_98 ?_
        refine lv_iload_n hx hb dX11_onHeap_101 rfl (lv_at hl 3 rfl) ?_
        obtain ⟨u11, e12, h⟩ := zbd_s h
        refine z_calli (va_runS (As := [.ref (q 16), .int (S.1 18), .int x2]) (rest := []) (z_fix C) (cM_X11_placeIn_heap l D cI q H.size (S.1 18) x2 S e12) (va_cwS 3 C.2.2.2.2.1 (zGS zk22_21 zk22_22 zk1_5 zk22_23) rfl rfl rfl yd_X11_placeIn ⟨Nat.le_of_ble_eq_true rfl, Nat.le_of_ble_eq_true rfl⟩) (z_preS zNm0 hE hH) rfl rfl hl.1 rfl (lv_room (Nat.le_of_ble_eq_true rfl)) dX11_onHeap_102 ⟨Nat.le_refl 0, Nat.le_refl 0⟩) hE hH (fun H locs hH => ?_)
        refine lv_istore (lv' := [(4, .int u11), (3, .int u9), (0, .ref (q 32)), (1, .int x1), (2, .int x2)]) hx hb dX11_onHeap_105 hl (by decide) rfl (fun ls hl => ?_)
        refine lv_iload hx hb dX11_onHeap_107 (lv_at hl 0 rfl) ?_
        refine lv_iconst (v := (-1)) hx hb dX11_onHeap_109 (by decide) ?_
        refine lv_icmp_eq (tgt := 124) hx hb dX11_onHeap_110 (by decide) (fun c13 => ?_) (fun c13 => ?_)
        · replace h := zif_t c13 h
          refine lv_iload_n hx hb dX11_onHeap_124 rfl (lv_at hl 1 rfl) ?_
          cases h
          exact z_iret C hE hH dX11_onHeap_125
        · replace h := zif_f c13 h
          refine lv_iload hx hb dX11_onHeap_113 (lv_at hl 0 rfl) ?_
          refine lv_aload_n hx hb dX11_onHeap_115 rfl (lv_at hl 2 rfl) ?_
          refine z_get C hE hH zM_o rfl zh_X11 18 (by decide) zk22_1 (fun _ h9 => h9) (v := .int (S.1 18)) rfl dX11_onHeap_116 ?_
          refine lv_iconst (v := 1) hx hb dX11_onHeap_119 (by decide) ?_
          refine lv_isub hx hb dX11_onHeap_120 ?_
          refine lv_icmp_ne (tgt := 126) hx hb dX11_onHeap_121 (by decide) (fun c14 => ?_) (fun c14 => ?_)
          · replace h := zif_f c14 h
            refine lv_aload_n hx hb dX11_onHeap_126 rfl (lv_at hl 2 rfl) ?_
            refine z_get C hE hH zM_o rfl zh_X11 16 (by decide) zk6_0 (fun _ h9 => h9) (v := .ref (q 16)) rfl dX11_onHeap_127 ?_
            refine lv_iload hx hb dX11_onHeap_130 (lv_at hl 0 rfl) ?_
            refine lv_aload_n hx hb dX11_onHeap_132 rfl (lv_at hl 2 rfl) ?_
            refine z_get C hE hH zM_o rfl zh_X11 16 (by decide) zk6_0 (fun _ h9 => h9) (v := .ref (q 16)) rfl dX11_onHeap_133 ?_
            refine lv_aload_n hx hb dX11_onHeap_136 rfl (lv_at hl 2 rfl) ?_
            refine z_get C hE hH zM_o rfl zh_X11 18 (by decide) zk22_1 (fun _ h9 => h9) (v := .int (S.1 18)) rfl dX11_onHeap_137 ?_
            refine lv_iconst (v := 1) hx hb dX11_onHeap_140 (by decide) ?_
            refine lv_isub hx hb dX11_onHeap_141 ?_
            obtain ⟨g15, h⟩ := zgd_s h
            refine z_iald C hE hH zM_a16 (t0 := 0) rfl g15 dX11_onHeap_142 ?_
            obtain ⟨g16, h⟩ := zgd_s h
            refine z_iast C hE hH zM_a16 (t0 := 0) rfl g16 zM_r16 dX11_onHeap_143 (fun H locs hH => ?_)
            refine lv_aload_n hx hb dX11_onHeap_144 rfl (lv_at hl 2 rfl) ?_
            refine lv_iload hx hb dX11_onHeap_145 (lv_at hl 0 rfl) ?_
            obtain ⟨u17, e18, h⟩ := zbd_s h
            refine z_calli (va_runV (As := [.int u11]) (rest := []) (z_fix C) (cM_X11_up l D cI q H.size u11 (zsR S 16 u11.toNatClampNeg (S.2 16 ((S.1 18) - 1).toNatClampNeg)) e18) (cwV 1 C.2.2.2.2.1 (zGV zk25_18 zk25_19 zk25_20 zk1_5 zk25_21) rfl rfl rfl yd_X11_up ⟨Nat.le_of_ble_eq_true rfl, Nat.le_of_ble_eq_true rfl⟩) (z_preV zNm0 hE hH zM_o rfl) rfl rfl hl.1 rfl (lv_room (Nat.le_of_ble_eq_true rfl)) dX11_onHeap_147 ⟨Nat.le_refl 0, Nat.le_refl 0⟩) hE hH (fun H locs hH => ?_)
            refine lv_istore (lv' := [(5, .int u17.1), (4, .int u11), (3, .int u9), (0, .ref (q 32)), (1, .int x1), (2, .int x2)]) hx hb dX11_onHeap_150 hl (by decide) rfl (fun ls hl => ?_)
            refine lv_iload_n hx hb dX11_onHeap_152 rfl (lv_at hl 2 rfl) ?_
            refine lv_iload hx hb dX11_onHeap_153 (lv_at hl 0 rfl) ?_
            refine lv_if_le (tgt := 163) hx hb dX11_onHeap_155 (by decide) (fun c19 => ?_) (fun c19 => ?_)
            · replace h := zif_t c19 h
              refine lv_aload_n hx hb dX11_onHeap_163 rfl (lv_at hl 3 rfl) ?_
              refine lv_iload hx hb dX11_onHeap_164 (lv_at hl 1 rfl) ?_
              refine lv_aload_n hx hb dX11_onHeap_166 rfl (lv_at hl 3 rfl) ?_
              refine z_get C hE hH zM_o rfl zh_X11 18 (by decide) zk22_1 (fun _ h9 => h9) (v := .int (u17.2.1 18)) rfl dX11_onHeap_167 ?_
              refine lv_iconst (v := 1) hx hb dX11_onHeap_170 (by decide) ?_
              refine lv_isub hx hb dX11_onHeap_171 ?_
              obtain ⟨u20, e21, h⟩ := zbd_s h
              refine z_calli (va_runV (As := [.int u11, .int ((u17.2.1 18) - 1)]) (rest := [.int u9]) (z_fix C) (cM_X11_down l D cI q H.size u11 ((u17.2.1 18) - 1) u17.2 e21) (cwV 2 C.2.2.2.2.1 (zGV zk25_22 zk25_23 zk26_0 zk1_5 zk26_1) rfl rfl rfl yd_X11_down ⟨Nat.le_of_ble_eq_true rfl, Nat.le_of_ble_eq_true rfl⟩) (z_preV zNm0 hE hH zM_o rfl) rfl rfl hl.1 rfl (lv_room (Nat.le_of_ble_eq_true rfl)) dX11_onHeap_172 ⟨Nat.le_refl 0, Nat.le_refl 0⟩) hE hH (fun H locs hH => ?_)
              exact bM_X11_onHeap_175 C hE   u9 u20.1 u20.2 H locs ls hH (lv_sub hl [] rfl) h
            · replace h := zif_f c19 h
              refine lv_iload hx hb dX11_onHeap_158 (lv_at hl 0 rfl) ?_
              refine lv_goto (tgt := 175) hx hb dX11_onHeap_160 (by decide) ?_
              exact bM_X11_onHeap_175 C hE   u9 u17.1 u17.2 H locs ls hH (lv_sub hl [] rfl) h
          · replace h := zif_t c14 h
            refine lv_iload_n hx hb dX11_onHeap_124 rfl (lv_at hl 1 rfl) ?_
            cases h
            exact z_iret C hE hH dX11_onHeap_125
      · replace h := zif_f c1_2 h
        by_cases c1_3 : x1 = 3
        · replace h := zif_t c1_3 h
          refine lv_tableIn (tgt := 181) hx hb dX11_onHeap_1 (by rw [c1_3]; decide) (by rw [c1_3]; decide) (by rw [c1_3]; rfl) (by decide) ?_
          refine lv_aload_n hx hb dX11_onHeap_181 rfl (lv_at hl 0 rfl) ?_
          refine z_get C hE hH zM_o rfl zh_X11 18 (by decide) zk22_1 (fun _ h9 => h9) (v := .int (S.1 18)) rfl dX11_onHeap_182 ?_
          cases h
          exact z_iret C hE hH dX11_onHeap_185
        · replace h := zif_f c1_3 h
          by_cases c1_4 : x1 = 4
          · replace h := zif_t c1_4 h
            refine lv_tableIn (tgt := 177) hx hb dX11_onHeap_1 (by rw [c1_4]; decide) (by rw [c1_4]; decide) (by rw [c1_4]; rfl) (by decide) ?_
            refine lv_iconst (v := 1) hx hb dX11_onHeap_177 (by decide) ?_
            cases h
            exact z_iret C hE hH dX11_onHeap_178
          · replace h := zif_f c1_4 h
            by_cases c1_5 : x1 = 5
            · replace h := zif_t c1_5 h
              refine lv_tableIn (tgt := 181) hx hb dX11_onHeap_1 (by rw [c1_5]; decide) (by rw [c1_5]; decide) (by rw [c1_5]; rfl) (by decide) ?_
              refine lv_aload_n hx hb dX11_onHeap_181 rfl (lv_at hl 0 rfl) ?_
              refine z_get C hE hH zM_o rfl zh_X11 18 (by decide) zk22_1 (fun _ h9 => h9) (v := .int (S.1 18)) rfl dX11_onHeap_182 ?_
              cases h
              exact z_iret C hE hH dX11_onHeap_185
            · replace h := zif_f c1_5 h
              by_cases c1_6 : x1 = 6
              · replace h := zif_t c1_6 h
                refine lv_tableIn (tgt := 179) hx hb dX11_onHeap_1 (by rw [c1_6]; decide) (by rw [c1_6]; decide) (by rw [c1_6]; rfl) (by decide) ?_
                refine lv_iconst (v := 0) hx hb dX11_onHeap_179 (by decide) ?_
                cases h
                exact z_iret C hE hH dX11_onHeap_180
              · replace h := zif_f c1_6 h
                have ec1_0 : ¬ (x1).toInt = 0 := zsw_ne c1_0
                have ec1_1 : ¬ (x1).toInt = 1 := zsw_ne c1_1
                have ec1_2 : ¬ (x1).toInt = 2 := zsw_ne c1_2
                have ec1_3 : ¬ (x1).toInt = 3 := zsw_ne c1_3
                have ec1_4 : ¬ (x1).toInt = 4 := zsw_ne c1_4
                have ec1_5 : ¬ (x1).toInt = 5 := zsw_ne c1_5
                have ec1_6 : ¬ (x1).toInt = 6 := zsw_ne c1_6
                refine lv_tableOut (tgt := 181) hx hb dX11_onHeap_1 (by omega) (by decide) ?_
                refine lv_aload_n hx hb dX11_onHeap_181 rfl (lv_at hl 0 rfl) ?_
                refine z_get C hE hH zM_o rfl zh_X11 18 (by decide) zk22_1 (fun _ h9 => h9) (v := .int (S.1 18)) rfl dX11_onHeap_182 ?_
                cases h
                exact z_iret C hE hH dX11_onHeap_185
set_option maxHeartbeats 4000000 in
set_option maxRecDepth 100000 in
theorem cM_X11_onHeap (l : Launch) (D : va_G) (cI : ClassId) (q : Nat → Nat) (sz : Nat) (x1 : Int32) (x2 : Int32) (S : zSt) {res : Int32 × zSt} (h : fM_X11_onHeap x1 x2 S = some res) : zMi l yX11_onHeap vsX11_onHeap rmM_X11_onHeap [.ref (q 32), .int x1, .int x2] D (zwM cI q) [(cI, .int)] [] sz S res.1 res.2 := by
  refine Met.ofW (cc := cX11_onHeap) (maxL := 6) (ret := (some .int)) (by decide) rfl ?_
  intro p e s m args below meth c s₁ B hml hv
  obtain ⟨rfl, rfl, hP, hK, hD0, hN⟩ := hv
  have hl := lv_entry ([.ref (q 32), .int x1, .int x2]) (n := 6) (Nat.le_of_ble_eq_true rfl)
  rw [lg_entry_eq]
  generalize (lg_sl ([.ref (q 32), .int x1, .int x2]) ++ List.replicate (6 - (lg_sl ([.ref (q 32), .int x1, .int x2])).length) Slot.unset).toArray = ls at hl ⊢
  exact bM_X11_onHeap ⟨B.exec, B.bytes, hml, findClass_of_methodNamed B.named, fun w h => atoms_spec (ws := vsX11_onHeap) B.pre w (List.mem_cons_of_mem _ h), B.returns, B.notSynchronized⟩ ⟨hK, fun q h => Or.inr h, hN⟩ x1 x2 S s.heap [] ls ⟨hP, hD0.self, va_S.rf⟩ hl  h
def rmM_X11_onBits : Room := { frames := 1, cells := 0, slots := 0, locals := 22 }
set_option maxHeartbeats 4000000 in
set_option maxRecDepth 100000 in
theorem bM_X11_onBits_67 {p : Program} {l : Launch} {e : Env} {s : State} {m : MethodId} {args : Array Value} {below : List Frame} {meth : Method} {c : Code} {D : va_G} {cI : ClassId} {q : Nat → Nat} {A : Nat → Prop} {res : Int32} (C : zCX p s m args meth c cX11_onBits 5 (some .int) zU RX11) (hE : zE D [(cI, .int)] [] A s) (x3 t0 : Int32) (S : zSt) (H : Heap) (locs : List Loc) (ls : Array Slot) (hH : zH D (zwM cI q) A s S H locs) (hl : lv_has ls 5 [(3, .int x3)]) (h : fM_X11_onBits_67  x3 t0 S = some res) : W p l e rmM_X11_onBits s m args below meth c H locs 0 0 (zQi below D (zwM cI q) [(cI, .int)] A args s res S) (F0 m 67 ls [.int t0]) := by
  have hx := C.1
  have hb := C.2.1
  unfold fM_X11_onBits_67 at h
  refine lv_iload_n hx hb dX11_onBits_67 rfl (lv_at hl 0 rfl) ?_
  refine lv_isub hx hb dX11_onBits_68 ?_
  refine lv_iconst (v := 1) hx hb dX11_onBits_69 (by decide) ?_
  refine lv_iadd hx hb dX11_onBits_70 ?_
  cases h
  exact z_iret C hE hH dX11_onBits_71
set_option maxHeartbeats 4000000 in
set_option maxRecDepth 100000 in
theorem bM_X11_onBits_10 {p : Program} {l : Launch} {e : Env} {s : State} {m : MethodId} {args : Array Value} {below : List Frame} {meth : Method} {c : Code} {D : va_G} {cI : ClassId} {q : Nat → Nat} {A : Nat → Prop} {res : Int32} (C : zCX p s m args meth c cX11_onBits 5 (some .int) zU RX11) (hE : zE D [(cI, .int)] [] A s) (x1 t0 : Int32) (S : zSt) (H : Heap) (locs : List Loc) (ls : Array Slot) (hH : zH D (zwM cI q) A s S H locs) (hl : lv_has ls 5 [(0, .ref (q 32)), (1, .int x1)]) (h : fM_X11_onBits_10  x1 t0 S = some res) : W p l e rmM_X11_onBits s m args below meth c H locs 0 0 (zQi below D (zwM cI q) [(cI, .int)] A args s res S) (F0 m 10 ls [.int t0]) := by
  have hx := C.1
  have hb := C.2.1
  unfold fM_X11_onBits_10 at h
  refine lv_istore_n (lv' := [(3, .int t0), (0, .ref (q 32)), (1, .int x1)]) hx hb dX11_onBits_10 rfl hl (by decide) rfl (fun ls hl => ?_)
  refine lv_iload_n hx hb dX11_onBits_11 rfl (lv_at hl 2 rfl) ?_
  by_cases c1_0 : x1 = 3
  · replace h := zif_t c1_0 h
    refine lv_tableIn (tgt := 44) hx hb dX11_onBits_12 (by rw [c1_0]; decide) (by rw [c1_0]; decide) (by rw [c1_0]; rfl) (by decide) ?_
    refine lv_bipush (v := 64) hx hb dX11_onBits_44 (by decide) ?_
    cases h
    exact z_iret C hE hH dX11_onBits_46
  · replace h := zif_f c1_0 h
    by_cases c1_1 : x1 = 4
    · replace h := zif_t c1_1 h
      refine lv_tableIn (tgt := 47) hx hb dX11_onBits_12 (by rw [c1_1]; decide) (by rw [c1_1]; decide) (by rw [c1_1]; rfl) (by decide) ?_
      refine lv_aload_n hx hb dX11_onBits_47 rfl (lv_at hl 1 rfl) ?_
      refine lv_iload_n hx hb dX11_onBits_48 rfl (lv_at hl 0 rfl) ?_
      obtain ⟨u2, e3, h⟩ := zbd_s h
      refine z_calli (va_runV (As := [.int t0]) (rest := []) (z_fix C) (cM_X11_nextKey l D cI q H.size t0 S e3) (cwV 1 C.2.2.2.2.1 (zGV zk26_6 zk26_7 zk26_8 zk1_5 zk26_9) rfl rfl rfl yd_X11_nextKey ⟨Nat.le_of_ble_eq_true rfl, Nat.le_of_ble_eq_true rfl⟩) (z_preV zNm0 hE hH zM_o rfl) rfl rfl hl.1 rfl (lv_room (Nat.le_of_ble_eq_true rfl)) dX11_onBits_49 ⟨Nat.le_refl 0, Nat.le_refl 0⟩) hE hH (fun H locs hH => ?_)
      refine lv_istore (lv' := [(4, .int u2), (3, .int t0), (0, .ref (q 32)), (1, .int x1)]) hx hb dX11_onBits_52 hl (by decide) rfl (fun ls hl => ?_)
      refine lv_iload hx hb dX11_onBits_54 (lv_at hl 0 rfl) ?_
      refine lv_iconst (v := (-1)) hx hb dX11_onBits_56 (by decide) ?_
      refine lv_icmp_ne (tgt := 65) hx hb dX11_onBits_57 (by decide) (fun c4 => ?_) (fun c4 => ?_)
      · replace h := zif_f c4 h
        refine lv_iload hx hb dX11_onBits_65 (lv_at hl 0 rfl) ?_
        exact bM_X11_onBits_67 C hE   t0 u2 S H locs ls hH (lv_sub hl [1] rfl) h
      · replace h := zif_t c4 h
        refine lv_bipush (v := 63) hx hb dX11_onBits_60 (by decide) ?_
        refine lv_goto (tgt := 67) hx hb dX11_onBits_62 (by decide) ?_
        exact bM_X11_onBits_67 C hE   t0 63 S H locs ls hH (lv_sub hl [1] rfl) h
    · replace h := zif_f c1_1 h
      by_cases c1_2 : x1 = 5
      · replace h := zif_t c1_2 h
        refine lv_tableIn (tgt := 47) hx hb dX11_onBits_12 (by rw [c1_2]; decide) (by rw [c1_2]; decide) (by rw [c1_2]; rfl) (by decide) ?_
        refine lv_aload_n hx hb dX11_onBits_47 rfl (lv_at hl 1 rfl) ?_
        refine lv_iload_n hx hb dX11_onBits_48 rfl (lv_at hl 0 rfl) ?_
        obtain ⟨u5, e6, h⟩ := zbd_s h
        refine z_calli (va_runV (As := [.int t0]) (rest := []) (z_fix C) (cM_X11_nextKey l D cI q H.size t0 S e6) (cwV 1 C.2.2.2.2.1 (zGV zk26_6 zk26_7 zk26_8 zk1_5 zk26_9) rfl rfl rfl yd_X11_nextKey ⟨Nat.le_of_ble_eq_true rfl, Nat.le_of_ble_eq_true rfl⟩) (z_preV zNm0 hE hH zM_o rfl) rfl rfl hl.1 rfl (lv_room (Nat.le_of_ble_eq_true rfl)) dX11_onBits_49 ⟨Nat.le_refl 0, Nat.le_refl 0⟩) hE hH (fun H locs hH => ?_)
        refine lv_istore (lv' := [(4, .int u5), (3, .int t0), (0, .ref (q 32)), (1, .int x1)]) hx hb dX11_onBits_52 hl (by decide) rfl (fun ls hl => ?_)
        refine lv_iload hx hb dX11_onBits_54 (lv_at hl 0 rfl) ?_
        refine lv_iconst (v := (-1)) hx hb dX11_onBits_56 (by decide) ?_
        refine lv_icmp_ne (tgt := 65) hx hb dX11_onBits_57 (by decide) (fun c7 => ?_) (fun c7 => ?_)
        · replace h := zif_f c7 h
          refine lv_iload hx hb dX11_onBits_65 (lv_at hl 0 rfl) ?_
          exact bM_X11_onBits_67 C hE   t0 u5 S H locs ls hH (lv_sub hl [1] rfl) h
        · replace h := zif_t c7 h
          refine lv_bipush (v := 63) hx hb dX11_onBits_60 (by decide) ?_
          refine lv_goto (tgt := 67) hx hb dX11_onBits_62 (by decide) ?_
          exact bM_X11_onBits_67 C hE   t0 63 S H locs ls hH (lv_sub hl [1] rfl) h
      · replace h := zif_f c1_2 h
        by_cases c1_3 : x1 = 6
        · replace h := zif_t c1_3 h
          refine lv_tableIn (tgt := 72) hx hb dX11_onBits_12 (by rw [c1_3]; decide) (by rw [c1_3]; decide) (by rw [c1_3]; rfl) (by decide) ?_
          refine lv_iconst (v := 0) hx hb dX11_onBits_72 (by decide) ?_
          cases h
          exact z_iret C hE hH dX11_onBits_73
        · replace h := zif_f c1_3 h
          have ec1_0 : ¬ (x1).toInt = 3 := zsw_ne c1_0
          have ec1_1 : ¬ (x1).toInt = 4 := zsw_ne c1_1
          have ec1_2 : ¬ (x1).toInt = 5 := zsw_ne c1_2
          have ec1_3 : ¬ (x1).toInt = 6 := zsw_ne c1_3
          refine lv_tableOut (tgt := 74) hx hb dX11_onBits_12 (by omega) (by decide) ?_
          refine lv_iconst (v := 1) hx hb dX11_onBits_74 (by decide) ?_
          cases h
          exact z_iret C hE hH dX11_onBits_75
set_option maxHeartbeats 4000000 in
set_option maxRecDepth 100000 in
theorem bM_X11_onBits {p : Program} {l : Launch} {e : Env} {s : State} {m : MethodId} {args : Array Value} {below : List Frame} {meth : Method} {c : Code} {D : va_G} {cI : ClassId} {q : Nat → Nat} {A : Nat → Prop} {res : Int32} (C : zCX p s m args meth c cX11_onBits 5 (some .int) zU RX11) (hE : zE D [(cI, .int)] [] A s) (x1 x2 : Int32) (S : zSt) (H : Heap) (locs : List Loc) (ls : Array Slot) (hH : zH D (zwM cI q) A s S H locs) (hl : lv_has ls 5 [(0, .ref (q 32)), (1, .int x1), (2, .int x2)]) (h : fM_X11_onBits  x1 x2 S = some res) : W p l e rmM_X11_onBits s m args below meth c H locs 0 0 (zQi below D (zwM cI q) [(cI, .int)] A args s res S) (F0 m 0 ls []) := by
  have hx := C.1
  have hb := C.2.1
  unfold fM_X11_onBits at h
  refine lv_iload_n hx hb dX11_onBits_0 rfl (lv_at hl 1 rfl) ?_
  refine lv_iconst (v := 5) hx hb dX11_onBits_1 (by decide) ?_
  refine lv_icmp_ne (tgt := 9) hx hb dX11_onBits_2 (by decide) (fun c1 => ?_) (fun c1 => ?_)
  · replace h := zif_f c1 h
    refine lv_iconst (v := 0) hx hb dX11_onBits_9 (by decide) ?_
    exact bM_X11_onBits_10 C hE   x1 0 S H locs ls hH (lv_sub hl [0, 1] rfl) h
  · replace h := zif_t c1 h
    refine lv_iload_n hx hb dX11_onBits_5 rfl (lv_at hl 2 rfl) ?_
    refine lv_goto (tgt := 10) hx hb dX11_onBits_6 (by decide) ?_
    exact bM_X11_onBits_10 C hE   x1 x2 S H locs ls hH (lv_sub hl [0, 1] rfl) h
set_option maxHeartbeats 4000000 in
set_option maxRecDepth 100000 in
theorem cM_X11_onBits (l : Launch) (D : va_G) (cI : ClassId) (q : Nat → Nat) (sz : Nat) (x1 : Int32) (x2 : Int32) (S : zSt) {res : Int32} (h : fM_X11_onBits x1 x2 S = some res) : zMi l yX11_onBits vsX11_onBits rmM_X11_onBits [.ref (q 32), .int x1, .int x2] D (zwM cI q) [(cI, .int)] [] sz S res S := by
  refine Met.ofW (cc := cX11_onBits) (maxL := 5) (ret := (some .int)) (by decide) rfl ?_
  intro p e s m args below meth c s₁ B hml hv
  obtain ⟨rfl, rfl, hP, hK, hD0, hN⟩ := hv
  have hl := lv_entry ([.ref (q 32), .int x1, .int x2]) (n := 5) (Nat.le_of_ble_eq_true rfl)
  rw [lg_entry_eq]
  generalize (lg_sl ([.ref (q 32), .int x1, .int x2]) ++ List.replicate (5 - (lg_sl ([.ref (q 32), .int x1, .int x2])).length) Slot.unset).toArray = ls at hl ⊢
  exact bM_X11_onBits ⟨B.exec, B.bytes, hml, findClass_of_methodNamed B.named, fun w h => atoms_spec (ws := vsX11_onBits) B.pre w (List.mem_cons_of_mem _ h), B.returns, B.notSynchronized⟩ ⟨hK, fun q h => Or.inr h, hN⟩ x1 x2 S s.heap [] ls ⟨hP, hD0.self, va_S.rf⟩ hl  h
def rmM_X11_roomOf : Room := { frames := 1, cells := 0, slots := 0, locals := 22 }
set_option maxHeartbeats 4000000 in
set_option maxRecDepth 100000 in
theorem bM_X11_roomOf {p : Program} {l : Launch} {e : Env} {s : State} {m : MethodId} {args : Array Value} {below : List Frame} {meth : Method} {c : Code} {D : va_G} {cI : ClassId} {q : Nat → Nat} {A : Nat → Prop} {res : Int32} (C : zCX p s m args meth c cX11_roomOf 2 (some .int) zU RX11) (hE : zE D [(cI, .int)] [] A s) (x1 : Int32) (S : zSt) (H : Heap) (locs : List Loc) (ls : Array Slot) (hH : zH D (zwM cI q) A s S H locs) (hl : lv_has ls 2 [(0, .ref (q 32)), (1, .int x1)]) (h : fM_X11_roomOf  x1 S = some res) : W p l e rmM_X11_roomOf s m args below meth c H locs 0 0 (zQi below D (zwM cI q) [(cI, .int)] A args s res S) (F0 m 0 ls []) := by
  have hx := C.1
  have hb := C.2.1
  unfold fM_X11_roomOf at h
  refine lv_iload_n hx hb dX11_roomOf_0 rfl (lv_at hl 1 rfl) ?_
  by_cases c1_0 : x1 = 2
  · replace h := zif_t c1_0 h
    refine lv_tableIn (tgt := 32) hx hb dX11_roomOf_1 (by rw [c1_0]; decide) (by rw [c1_0]; decide) (by rw [c1_0]; rfl) (by decide) ?_
    refine lv_aload_n hx hb dX11_roomOf_32 rfl (lv_at hl 0 rfl) ?_
    refine z_get C hE hH zM_o rfl zh_X11 21 (by decide) zk22_2 (fun _ h9 => h9) (v := .int (S.1 21)) rfl dX11_roomOf_33 ?_
    refine lv_iconst (v := 2) hx hb dX11_roomOf_36 (by decide) ?_
    refine lv_aload_n hx hb dX11_roomOf_37 rfl (lv_at hl 0 rfl) ?_
    refine z_get C hE hH zM_o rfl zh_X11 18 (by decide) zk22_1 (fun _ h9 => h9) (v := .int (S.1 18)) rfl dX11_roomOf_38 ?_
    refine lv_imul hx hb dX11_roomOf_41 ?_
    refine lv_iadd hx hb dX11_roomOf_42 ?_
    cases h
    exact z_iret C hE hH dX11_roomOf_43
  · replace h := zif_f c1_0 h
    by_cases c1_1 : x1 = 3
    · replace h := zif_t c1_1 h
      refine lv_tableIn (tgt := 44) hx hb dX11_roomOf_1 (by rw [c1_1]; decide) (by rw [c1_1]; decide) (by rw [c1_1]; rfl) (by decide) ?_
      refine lv_iconst (v := 4) hx hb dX11_roomOf_44 (by decide) ?_
      refine lv_aload_n hx hb dX11_roomOf_45 rfl (lv_at hl 0 rfl) ?_
      obtain ⟨u2, e3, h⟩ := zbd_s h
      refine z_calli (va_runV (As := []) (rest := [.int 4]) (z_fix C) (cM_X11_nodes l D cI q H.size  S e3) (cwV 0 C.2.2.2.2.1 (zGV zk22_9 zk22_10 zk22_11 zk1_5 zk22_12) rfl rfl rfl yd_X11_nodes ⟨Nat.le_of_ble_eq_true rfl, Nat.le_of_ble_eq_true rfl⟩) (z_preV zNm0 hE hH zM_o rfl) rfl rfl hl.1 rfl (lv_room (Nat.le_of_ble_eq_true rfl)) dX11_roomOf_46 ⟨Nat.le_refl 0, Nat.le_refl 0⟩) hE hH (fun H locs hH => ?_)
      refine lv_imul hx hb dX11_roomOf_49 ?_
      cases h
      exact z_iret C hE hH dX11_roomOf_50
    · replace h := zif_f c1_1 h
      by_cases c1_2 : x1 = 4
      · replace h := zif_t c1_2 h
        refine lv_tableIn (tgt := 54) hx hb dX11_roomOf_1 (by rw [c1_2]; decide) (by rw [c1_2]; decide) (by rw [c1_2]; rfl) (by decide) ?_
        refine lv_aload_n hx hb dX11_roomOf_54 rfl (lv_at hl 0 rfl) ?_
        refine z_get C hE hH zM_o rfl zh_X11 17 (by decide) zk6_1 (fun _ h9 => h9) (v := .ref (q 17)) rfl dX11_roomOf_55 ?_
        refine lv_iload_n hx hb dX11_roomOf_58 rfl (lv_at hl 1 rfl) ?_
        obtain ⟨g4, h⟩ := zgd_s h
        refine z_iald C hE hH zM_a17 (t0 := 0) rfl g4 dX11_roomOf_59 ?_
        cases h
        exact z_iret C hE hH dX11_roomOf_60
      · replace h := zif_f c1_2 h
        by_cases c1_3 : x1 = 5
        · replace h := zif_t c1_3 h
          refine lv_tableIn (tgt := 51) hx hb dX11_roomOf_1 (by rw [c1_3]; decide) (by rw [c1_3]; decide) (by rw [c1_3]; rfl) (by decide) ?_
          refine lv_bipush (v := 64) hx hb dX11_roomOf_51 (by decide) ?_
          cases h
          exact z_iret C hE hH dX11_roomOf_53
        · replace h := zif_f c1_3 h
          have ec1_0 : ¬ (x1).toInt = 2 := zsw_ne c1_0
          have ec1_1 : ¬ (x1).toInt = 3 := zsw_ne c1_1
          have ec1_2 : ¬ (x1).toInt = 4 := zsw_ne c1_2
          have ec1_3 : ¬ (x1).toInt = 5 := zsw_ne c1_3
          refine lv_tableOut (tgt := 54) hx hb dX11_roomOf_1 (by omega) (by decide) ?_
          refine lv_aload_n hx hb dX11_roomOf_54 rfl (lv_at hl 0 rfl) ?_
          refine z_get C hE hH zM_o rfl zh_X11 17 (by decide) zk6_1 (fun _ h9 => h9) (v := .ref (q 17)) rfl dX11_roomOf_55 ?_
          refine lv_iload_n hx hb dX11_roomOf_58 rfl (lv_at hl 1 rfl) ?_
          obtain ⟨g5, h⟩ := zgd_s h
          refine z_iald C hE hH zM_a17 (t0 := 0) rfl g5 dX11_roomOf_59 ?_
          cases h
          exact z_iret C hE hH dX11_roomOf_60
set_option maxHeartbeats 4000000 in
set_option maxRecDepth 100000 in
theorem cM_X11_roomOf (l : Launch) (D : va_G) (cI : ClassId) (q : Nat → Nat) (sz : Nat) (x1 : Int32) (S : zSt) {res : Int32} (h : fM_X11_roomOf x1 S = some res) : zMi l yX11_roomOf vsX11_roomOf rmM_X11_roomOf [.ref (q 32), .int x1] D (zwM cI q) [(cI, .int)] [] sz S res S := by
  refine Met.ofW (cc := cX11_roomOf) (maxL := 2) (ret := (some .int)) (by decide) rfl ?_
  intro p e s m args below meth c s₁ B hml hv
  obtain ⟨rfl, rfl, hP, hK, hD0, hN⟩ := hv
  have hl := lv_entry ([.ref (q 32), .int x1]) (n := 2) (Nat.le_of_ble_eq_true rfl)
  rw [lg_entry_eq]
  generalize (lg_sl ([.ref (q 32), .int x1]) ++ List.replicate (2 - (lg_sl ([.ref (q 32), .int x1])).length) Slot.unset).toArray = ls at hl ⊢
  exact bM_X11_roomOf ⟨B.exec, B.bytes, hml, findClass_of_methodNamed B.named, fun w h => atoms_spec (ws := vsX11_roomOf) B.pre w (List.mem_cons_of_mem _ h), B.returns, B.notSynchronized⟩ ⟨hK, fun q h => Or.inr h, hN⟩ x1 S s.heap [] ls ⟨hP, hD0.self, va_S.rf⟩ hl  h
def rmM_X11_step : Room := { frames := 3, cells := 0, slots := 0, locals := 75 }
set_option maxHeartbeats 4000000 in
set_option maxRecDepth 100000 in
theorem bM_X11_step_384 {p : Program} {l : Launch} {e : Env} {s : State} {m : MethodId} {args : Array Value} {below : List Frame} {meth : Method} {c : Code} {D : va_G} {cI : ClassId} {q : Nat → Nat} {A : Nat → Prop} {res : zSt} (C : zCX p s m args meth c cX11_step 8 none zU RX11) (hE : zE D [(cI, .int)] [] A s) (K324 : (Int32 → zSt → Option (zSt))) (hK324 : ∀ (x7 : Int32) (S : zSt) (H : Heap) (locs : List Loc) (ls : Array Slot), zH D (zwM cI q) A s S H locs → lv_has ls 8 [(0, .ref (q 32)), (7, .int x7)] → K324 x7 S = some res → W p l e rmM_X11_step s m args below meth c H locs 0 0 (zQv below D (zwM cI q) [(cI, .int)] A args s res) (F0 m 324 ls [])) (x7 t1 t2 : Int32) (S : zSt) (H : Heap) (locs : List Loc) (ls : Array Slot) (hH : zH D (zwM cI q) A s S H locs) (hl : lv_has ls 8 [(0, .ref (q 32)), (7, .int x7)]) (h : fM_X11_step_384 K324 x7 t1 t2 S = some res) : W p l e rmM_X11_step s m args below meth c H locs 0 0 (zQv below D (zwM cI q) [(cI, .int)] A args s res) (F0 m 384 ls [.int t2, .int t1, .ref (q 13)]) := by
  have hx := C.1
  have hb := C.2.1
  unfold fM_X11_step_384 at h
  obtain ⟨g1, h⟩ := zgd_s h
  refine z_iast C hE hH zM_a13 (t0 := 0) rfl g1 zM_r13 dX11_step_384 (fun H locs hH => ?_)
  refine lv_iinc (v := (x7 + 1)) (lv' := [(7, .int (x7 + 1)), (0, .ref (q 32))]) hx hb dX11_step_385 hl (k := 1) rfl rfl (by decide) rfl (fun ls hl => ?_)
  refine lv_goto (tgt := 324) hx hb dX11_step_388 (by decide) ?_
  exact hK324 (x7 + 1) (zsR S 13 t1.toNatClampNeg t2) H locs ls hH (lv_sub hl [1, 0] rfl) h
set_option maxHeartbeats 4000000 in
set_option maxRecDepth 100000 in
theorem bM_X11_step_324 {p : Program} {l : Launch} {e : Env} {s : State} {m : MethodId} {args : Array Value} {below : List Frame} {meth : Method} {c : Code} {D : va_G} {cI : ClassId} {q : Nat → Nat} {A : Nat → Prop} {res : zSt} (C : zCX p s m args meth c cX11_step 8 none zU RX11) (hE : zE D [(cI, .int)] [] A s) : ∀ (n : Nat) (x7 : Int32) (S : zSt) (H : Heap) (locs : List Loc) (ls : Array Slot), zH D (zwM cI q) A s S H locs → lv_has ls 8 [(0, .ref (q 32)), (7, .int x7)] → fM_X11_step_324  n x7 S = some res → W p l e rmM_X11_step s m args below meth c H locs 0 0 (zQv below D (zwM cI q) [(cI, .int)] A args s res) (F0 m 324 ls []) := by
  have hx := C.1
  have hb := C.2.1
  intro n
  induction n with
  | zero =>
    intro x7 S H locs ls hH hl  h
    cases h
  | succ n hK324 =>
    intro x7 S H locs ls hH hl  h
    rw [fM_X11_step_324] at h
    refine lv_iload hx hb dX11_step_324 (lv_at hl 1 rfl) ?_
    refine lv_bipush (v := 6) hx hb dX11_step_326 (by decide) ?_
    refine lv_icmp_ge (tgt := 391) hx hb dX11_step_328 (by decide) (fun c1 => ?_) (fun c1 => ?_)
    · replace h := zif_t c1 h
      cases h
      exact z_vret C hE hH dX11_step_391
    · replace h := zif_f c1 h
      refine lv_aload_n hx hb dX11_step_331 rfl (lv_at hl 0 rfl) ?_
      refine z_get C hE hH zM_o rfl zh_X11 12 (by decide) zk5_20 (fun _ h9 => h9) (v := .ref (q 12)) rfl dX11_step_332 ?_
      refine lv_iload hx hb dX11_step_335 (lv_at hl 1 rfl) ?_
      refine lv_aload_n hx hb dX11_step_337 rfl (lv_at hl 0 rfl) ?_
      refine lv_iload hx hb dX11_step_338 (lv_at hl 1 rfl) ?_
      obtain ⟨u2, e3, h⟩ := zbd_s h
      refine z_calli (va_runV (As := [.int x7]) (rest := [.int x7, .ref (q 12)]) (z_fix C) (cM_X11_roomOf l D cI q H.size x7 S e3) (cwV 1 C.2.2.2.2.1 (zGV zk22_5 zk22_6 zk22_7 zk1_5 zk22_8) rfl rfl rfl yd_X11_roomOf ⟨Nat.le_of_ble_eq_true rfl, Nat.le_of_ble_eq_true rfl⟩) (z_preV zNm0 hE hH zM_o rfl) rfl rfl hl.1 rfl (lv_room (Nat.le_of_ble_eq_true rfl)) dX11_step_340 ⟨Nat.le_refl 0, Nat.le_refl 0⟩) hE hH (fun H locs hH => ?_)
      obtain ⟨g4, h⟩ := zgd_s h
      refine z_iast C hE hH zM_a12 (t0 := 0) rfl g4 zM_r12 dX11_step_343 (fun H locs hH => ?_)
      refine lv_aload_n hx hb dX11_step_344 rfl (lv_at hl 0 rfl) ?_
      refine z_get C hE hH zM_o rfl zh_X11 13 (by decide) zk5_21 (fun _ h9 => h9) (v := .ref (q 13)) rfl dX11_step_345 ?_
      refine lv_iload hx hb dX11_step_348 (lv_at hl 1 rfl) ?_
      refine lv_aload_n hx hb dX11_step_350 rfl (lv_at hl 0 rfl) ?_
      refine z_get C hE hH zM_o rfl zh_X11 12 (by decide) zk5_20 (fun _ h9 => h9) (v := .ref (q 12)) rfl dX11_step_351 ?_
      refine lv_iload hx hb dX11_step_354 (lv_at hl 1 rfl) ?_
      obtain ⟨g5, h⟩ := zgd_s h
      refine z_iald C hE hH zM_a12 (t0 := 0) rfl g5 dX11_step_356 ?_
      refine lv_aload_n hx hb dX11_step_357 rfl (lv_at hl 0 rfl) ?_
      refine z_get C hE hH zM_o rfl zh_X11 13 (by decide) zk5_21 (fun _ h9 => h9) (v := .ref (q 13)) rfl dX11_step_358 ?_
      refine lv_iload hx hb dX11_step_361 (lv_at hl 1 rfl) ?_
      obtain ⟨g6, h⟩ := zgd_s h
      refine z_iald C hE hH zM_a13 (t0 := 0) rfl g6 dX11_step_363 ?_
      refine lv_icmp_le (tgt := 377) hx hb dX11_step_364 (by decide) (fun c7 => ?_) (fun c7 => ?_)
      · replace h := zif_t c7 h
        refine lv_aload_n hx hb dX11_step_377 rfl (lv_at hl 0 rfl) ?_
        refine z_get C hE hH zM_o rfl zh_X11 13 (by decide) zk5_21 (fun _ h9 => h9) (v := .ref (q 13)) rfl dX11_step_378 ?_
        refine lv_iload hx hb dX11_step_381 (lv_at hl 1 rfl) ?_
        obtain ⟨g8, h⟩ := zgd_s h
        refine z_iald C hE hH zM_a13 (t0 := 0) rfl g8 dX11_step_383 ?_
        exact bM_X11_step_384 C hE (fM_X11_step_324  n) hK324 x7 x7 (S.2 13 x7.toNatClampNeg) (zsR S 12 x7.toNatClampNeg u2) H locs ls hH (lv_sub hl [0, 1] rfl) h
      · replace h := zif_f c7 h
        refine lv_aload_n hx hb dX11_step_367 rfl (lv_at hl 0 rfl) ?_
        refine z_get C hE hH zM_o rfl zh_X11 12 (by decide) zk5_20 (fun _ h9 => h9) (v := .ref (q 12)) rfl dX11_step_368 ?_
        refine lv_iload hx hb dX11_step_371 (lv_at hl 1 rfl) ?_
        obtain ⟨g9, h⟩ := zgd_s h
        refine z_iald C hE hH zM_a12 (t0 := 0) rfl g9 dX11_step_373 ?_
        refine lv_goto (tgt := 384) hx hb dX11_step_374 (by decide) ?_
        exact bM_X11_step_384 C hE (fM_X11_step_324  n) hK324 x7 x7 ((zsR S 12 x7.toNatClampNeg u2).2 12 x7.toNatClampNeg) (zsR S 12 x7.toNatClampNeg u2) H locs ls hH (lv_sub hl [0, 1] rfl) h
set_option maxHeartbeats 4000000 in
set_option maxRecDepth 100000 in
theorem bM_X11_step_311 {p : Program} {l : Launch} {e : Env} {s : State} {m : MethodId} {args : Array Value} {below : List Frame} {meth : Method} {c : Code} {D : va_G} {cI : ClassId} {q : Nat → Nat} {A : Nat → Prop} {res : zSt} (C : zCX p s m args meth c cX11_step 8 none zU RX11) (hE : zE D [(cI, .int)] [] A s) (x1 : Int32) (S : zSt) (H : Heap) (locs : List Loc) (ls : Array Slot) (hH : zH D (zwM cI q) A s S H locs) (hl : lv_has ls 8 [(0, .ref (q 32)), (1, .int x1)]) (h : fM_X11_step_311  x1 S = some res) : W p l e rmM_X11_step s m args below meth c H locs 0 0 (zQv below D (zwM cI q) [(cI, .int)] A args s res) (F0 m 311 ls []) := by
  have hx := C.1
  have hb := C.2.1
  unfold fM_X11_step_311 at h
  refine lv_aload_n hx hb dX11_step_311 rfl (lv_at hl 0 rfl) ?_
  refine z_get C hE hH zM_o rfl zh_X11 10 (by decide) zk5_18 (fun _ h9 => h9) (v := .ref (q 10)) rfl dX11_step_312 ?_
  refine lv_iload_n hx hb dX11_step_315 rfl (lv_at hl 1 rfl) ?_
  refine lv_aload_n hx hb dX11_step_316 rfl (lv_at hl 0 rfl) ?_
  refine z_get C hE hH zM_o rfl zh_X11 18 (by decide) zk22_1 (fun _ h9 => h9) (v := .int (S.1 18)) rfl dX11_step_317 ?_
  obtain ⟨g1, h⟩ := zgd_s h
  refine z_iast C hE hH zM_a10 (t0 := 0) rfl g1 zM_r10 dX11_step_320 (fun H locs hH => ?_)
  refine lv_iconst (v := 0) hx hb dX11_step_321 (by decide) ?_
  refine lv_istore (lv' := [(7, .int 0), (0, .ref (q 32)), (1, .int x1)]) hx hb dX11_step_322 hl (by decide) rfl (fun ls hl => ?_)
  exact bM_X11_step_324 C hE   1000 0 (zsR S 10 x1.toNatClampNeg (S.1 18)) H locs ls hH (lv_sub hl [1, 0] rfl) h
set_option maxHeartbeats 4000000 in
set_option maxRecDepth 100000 in
theorem bM_X11_step_260 {p : Program} {l : Launch} {e : Env} {s : State} {m : MethodId} {args : Array Value} {below : List Frame} {meth : Method} {c : Code} {D : va_G} {cI : ClassId} {q : Nat → Nat} {A : Nat → Prop} {res : zSt} (C : zCX p s m args meth c cX11_step 8 none zU RX11) (hE : zE D [(cI, .int)] [] A s) (x1 t1 t2 : Int32) (S : zSt) (H : Heap) (locs : List Loc) (ls : Array Slot) (hH : zH D (zwM cI q) A s S H locs) (hl : lv_has ls 8 [(0, .ref (q 32)), (1, .int x1)]) (h : fM_X11_step_260  x1 t1 t2 S = some res) : W p l e rmM_X11_step s m args below meth c H locs 0 0 (zQv below D (zwM cI q) [(cI, .int)] A args s res) (F0 m 260 ls [.int t2, .int t1, .ref (q 9)]) := by
  have hx := C.1
  have hb := C.2.1
  unfold fM_X11_step_260 at h
  obtain ⟨g1, h⟩ := zgd_s h
  refine z_iast C hE hH zM_a9 (t0 := 0) rfl g1 zM_r9 dX11_step_260 (fun H locs hH => ?_)
  refine lv_goto (tgt := 311) hx hb dX11_step_261 (by decide) ?_
  exact bM_X11_step_311 C hE   x1 (zsR S 9 t1.toNatClampNeg t2) H locs ls hH (lv_sub hl [0, 1] rfl) h
set_option maxHeartbeats 4000000 in
set_option maxRecDepth 100000 in
theorem bM_X11_step_189 {p : Program} {l : Launch} {e : Env} {s : State} {m : MethodId} {args : Array Value} {below : List Frame} {meth : Method} {c : Code} {D : va_G} {cI : ClassId} {q : Nat → Nat} {A : Nat → Prop} {res : zSt} (C : zCX p s m args meth c cX11_step 8 none zU RX11) (hE : zE D [(cI, .int)] [] A s) (x1 x2 x3 x4 x5 : Int32) (S : zSt) (H : Heap) (locs : List Loc) (ls : Array Slot) (hH : zH D (zwM cI q) A s S H locs) (hl : lv_has ls 8 [(0, .ref (q 32)), (1, .int x1), (2, .int x2), (3, .int x3), (4, .int x4), (5, .int x5)]) (h : fM_X11_step_189  x1 x2 x3 x4 x5 S = some res) : W p l e rmM_X11_step s m args below meth c H locs 0 0 (zQv below D (zwM cI q) [(cI, .int)] A args s res) (F0 m 189 ls []) := by
  have hx := C.1
  have hb := C.2.1
  unfold fM_X11_step_189 at h
  refine lv_iload_n hx hb dX11_step_189 rfl (lv_at hl 2 rfl) ?_
  by_cases c1_0 : x2 = 0
  · replace h := zif_t c1_0 h
    refine lv_tableIn (tgt := 232) hx hb dX11_step_190 (by rw [c1_0]; decide) (by rw [c1_0]; decide) (by rw [c1_0]; rfl) (by decide) ?_
    refine lv_aload_n hx hb dX11_step_232 rfl (lv_at hl 0 rfl) ?_
    refine z_get C hE hH zM_o rfl zh_X11 9 (by decide) zk5_17 (fun _ h9 => h9) (v := .ref (q 9)) rfl dX11_step_233 ?_
    refine lv_iload_n hx hb dX11_step_236 rfl (lv_at hl 1 rfl) ?_
    refine lv_aload_n hx hb dX11_step_237 rfl (lv_at hl 0 rfl) ?_
    refine z_get C hE hH zM_o rfl zh_X11 18 (by decide) zk22_1 (fun _ h9 => h9) (v := .int (S.1 18)) rfl dX11_step_238 ?_
    obtain ⟨g2, h⟩ := zgd_s h
    refine z_iast C hE hH zM_a9 (t0 := 0) rfl g2 zM_r9 dX11_step_241 (fun H locs hH => ?_)
    refine lv_goto (tgt := 311) hx hb dX11_step_242 (by decide) ?_
    exact bM_X11_step_311 C hE   x1 (zsR S 9 x1.toNatClampNeg (S.1 18)) H locs ls hH (lv_sub hl [0, 1] rfl) h
  · replace h := zif_f c1_0 h
    by_cases c1_1 : x2 = 1
    · replace h := zif_t c1_1 h
      refine lv_tableIn (tgt := 245) hx hb dX11_step_190 (by rw [c1_1]; decide) (by rw [c1_1]; decide) (by rw [c1_1]; rfl) (by decide) ?_
      refine lv_aload_n hx hb dX11_step_245 rfl (lv_at hl 0 rfl) ?_
      refine z_get C hE hH zM_o rfl zh_X11 9 (by decide) zk5_17 (fun _ h9 => h9) (v := .ref (q 9)) rfl dX11_step_246 ?_
      refine lv_iload_n hx hb dX11_step_249 rfl (lv_at hl 1 rfl) ?_
      refine lv_iload hx hb dX11_step_250 (lv_at hl 5 rfl) ?_
      refine lv_if_le (tgt := 259) hx hb dX11_step_252 (by decide) (fun c3 => ?_) (fun c3 => ?_)
      · replace h := zif_t c3 h
        refine lv_iconst (v := 0) hx hb dX11_step_259 (by decide) ?_
        exact bM_X11_step_260 C hE   x1 x1 0 S H locs ls hH (lv_sub hl [0, 1] rfl) h
      · replace h := zif_f c3 h
        refine lv_iconst (v := 1) hx hb dX11_step_255 (by decide) ?_
        refine lv_goto (tgt := 260) hx hb dX11_step_256 (by decide) ?_
        exact bM_X11_step_260 C hE   x1 x1 1 S H locs ls hH (lv_sub hl [0, 1] rfl) h
    · replace h := zif_f c1_1 h
      by_cases c1_2 : x2 = 2
      · replace h := zif_t c1_2 h
        refine lv_tableIn (tgt := 245) hx hb dX11_step_190 (by rw [c1_2]; decide) (by rw [c1_2]; decide) (by rw [c1_2]; rfl) (by decide) ?_
        refine lv_aload_n hx hb dX11_step_245 rfl (lv_at hl 0 rfl) ?_
        refine z_get C hE hH zM_o rfl zh_X11 9 (by decide) zk5_17 (fun _ h9 => h9) (v := .ref (q 9)) rfl dX11_step_246 ?_
        refine lv_iload_n hx hb dX11_step_249 rfl (lv_at hl 1 rfl) ?_
        refine lv_iload hx hb dX11_step_250 (lv_at hl 5 rfl) ?_
        refine lv_if_le (tgt := 259) hx hb dX11_step_252 (by decide) (fun c4 => ?_) (fun c4 => ?_)
        · replace h := zif_t c4 h
          refine lv_iconst (v := 0) hx hb dX11_step_259 (by decide) ?_
          exact bM_X11_step_260 C hE   x1 x1 0 S H locs ls hH (lv_sub hl [0, 1] rfl) h
        · replace h := zif_f c4 h
          refine lv_iconst (v := 1) hx hb dX11_step_255 (by decide) ?_
          refine lv_goto (tgt := 260) hx hb dX11_step_256 (by decide) ?_
          exact bM_X11_step_260 C hE   x1 x1 1 S H locs ls hH (lv_sub hl [0, 1] rfl) h
      · replace h := zif_f c1_2 h
        by_cases c1_3 : x2 = 3
        · replace h := zif_t c1_3 h
          refine lv_tableIn (tgt := 232) hx hb dX11_step_190 (by rw [c1_3]; decide) (by rw [c1_3]; decide) (by rw [c1_3]; rfl) (by decide) ?_
          refine lv_aload_n hx hb dX11_step_232 rfl (lv_at hl 0 rfl) ?_
          refine z_get C hE hH zM_o rfl zh_X11 9 (by decide) zk5_17 (fun _ h9 => h9) (v := .ref (q 9)) rfl dX11_step_233 ?_
          refine lv_iload_n hx hb dX11_step_236 rfl (lv_at hl 1 rfl) ?_
          refine lv_aload_n hx hb dX11_step_237 rfl (lv_at hl 0 rfl) ?_
          refine z_get C hE hH zM_o rfl zh_X11 18 (by decide) zk22_1 (fun _ h9 => h9) (v := .int (S.1 18)) rfl dX11_step_238 ?_
          obtain ⟨g5, h⟩ := zgd_s h
          refine z_iast C hE hH zM_a9 (t0 := 0) rfl g5 zM_r9 dX11_step_241 (fun H locs hH => ?_)
          refine lv_goto (tgt := 311) hx hb dX11_step_242 (by decide) ?_
          exact bM_X11_step_311 C hE   x1 (zsR S 9 x1.toNatClampNeg (S.1 18)) H locs ls hH (lv_sub hl [0, 1] rfl) h
        · replace h := zif_f c1_3 h
          by_cases c1_4 : x2 = 4
          · replace h := zif_t c1_4 h
            refine lv_tableIn (tgt := 264) hx hb dX11_step_190 (by rw [c1_4]; decide) (by rw [c1_4]; decide) (by rw [c1_4]; rfl) (by decide) ?_
            refine lv_aload_n hx hb dX11_step_264 rfl (lv_at hl 0 rfl) ?_
            refine z_get C hE hH zM_o rfl zh_X11 9 (by decide) zk5_17 (fun _ h9 => h9) (v := .ref (q 9)) rfl dX11_step_265 ?_
            refine lv_iload_n hx hb dX11_step_268 rfl (lv_at hl 1 rfl) ?_
            refine lv_aload_n hx hb dX11_step_269 rfl (lv_at hl 0 rfl) ?_
            refine lv_iconst (v := 0) hx hb dX11_step_270 (by decide) ?_
            obtain ⟨u6, e7, h⟩ := zbd_s h
            refine z_calli (va_runV (As := [.int 0]) (rest := [.int x1, .ref (q 9)]) (z_fix C) (cM_X11_nextKey l D cI q H.size 0 S e7) (cwV 1 C.2.2.2.2.1 (zGV zk26_6 zk26_7 zk26_8 zk1_5 zk26_9) rfl rfl rfl yd_X11_nextKey ⟨Nat.le_of_ble_eq_true rfl, Nat.le_of_ble_eq_true rfl⟩) (z_preV zNm0 hE hH zM_o rfl) rfl rfl hl.1 rfl (lv_room (Nat.le_of_ble_eq_true rfl)) dX11_step_271 ⟨Nat.le_refl 0, Nat.le_refl 0⟩) hE hH (fun H locs hH => ?_)
            obtain ⟨g8, h⟩ := zgd_s h
            refine z_iast C hE hH zM_a9 (t0 := 0) rfl g8 zM_r9 dX11_step_274 (fun H locs hH => ?_)
            refine lv_goto (tgt := 311) hx hb dX11_step_275 (by decide) ?_
            exact bM_X11_step_311 C hE   x1 (zsR S 9 x1.toNatClampNeg u6) H locs ls hH (lv_sub hl [0, 1] rfl) h
          · replace h := zif_f c1_4 h
            by_cases c1_5 : x2 = 5
            · replace h := zif_t c1_5 h
              refine lv_tableIn (tgt := 278) hx hb dX11_step_190 (by rw [c1_5]; decide) (by rw [c1_5]; decide) (by rw [c1_5]; rfl) (by decide) ?_
              refine lv_aload_n hx hb dX11_step_278 rfl (lv_at hl 0 rfl) ?_
              refine z_get C hE hH zM_o rfl zh_X11 9 (by decide) zk5_17 (fun _ h9 => h9) (v := .ref (q 9)) rfl dX11_step_279 ?_
              refine lv_iload_n hx hb dX11_step_282 rfl (lv_at hl 1 rfl) ?_
              refine lv_aload_n hx hb dX11_step_283 rfl (lv_at hl 0 rfl) ?_
              refine lv_iload_n hx hb dX11_step_284 rfl (lv_at hl 3 rfl) ?_
              obtain ⟨u9, e10, h⟩ := zbd_s h
              refine z_calli (va_runV (As := [.int x3]) (rest := [.int x1, .ref (q 9)]) (z_fix C) (cM_X11_nextKey l D cI q H.size x3 S e10) (cwV 1 C.2.2.2.2.1 (zGV zk26_6 zk26_7 zk26_8 zk1_5 zk26_9) rfl rfl rfl yd_X11_nextKey ⟨Nat.le_of_ble_eq_true rfl, Nat.le_of_ble_eq_true rfl⟩) (z_preV zNm0 hE hH zM_o rfl) rfl rfl hl.1 rfl (lv_room (Nat.le_of_ble_eq_true rfl)) dX11_step_285 ⟨Nat.le_refl 0, Nat.le_refl 0⟩) hE hH (fun H locs hH => ?_)
              obtain ⟨g11, h⟩ := zgd_s h
              refine z_iast C hE hH zM_a9 (t0 := 0) rfl g11 zM_r9 dX11_step_288 (fun H locs hH => ?_)
              refine lv_goto (tgt := 311) hx hb dX11_step_289 (by decide) ?_
              exact bM_X11_step_311 C hE   x1 (zsR S 9 x1.toNatClampNeg u9) H locs ls hH (lv_sub hl [0, 1] rfl) h
            · replace h := zif_f c1_5 h
              by_cases c1_6 : x2 = 6
              · replace h := zif_t c1_6 h
                refine lv_tableIn (tgt := 292) hx hb dX11_step_190 (by rw [c1_6]; decide) (by rw [c1_6]; decide) (by rw [c1_6]; rfl) (by decide) ?_
                refine lv_aload_n hx hb dX11_step_292 rfl (lv_at hl 0 rfl) ?_
                refine z_get C hE hH zM_o rfl zh_X11 9 (by decide) zk5_17 (fun _ h9 => h9) (v := .ref (q 9)) rfl dX11_step_293 ?_
                refine lv_iload_n hx hb dX11_step_296 rfl (lv_at hl 1 rfl) ?_
                refine lv_iload hx hb dX11_step_297 (lv_at hl 4 rfl) ?_
                obtain ⟨g12, h⟩ := zgd_s h
                refine z_iast C hE hH zM_a9 (t0 := 0) rfl g12 zM_r9 dX11_step_299 (fun H locs hH => ?_)
                refine lv_goto (tgt := 311) hx hb dX11_step_300 (by decide) ?_
                exact bM_X11_step_311 C hE   x1 (zsR S 9 x1.toNatClampNeg x4) H locs ls hH (lv_sub hl [0, 1] rfl) h
              · replace h := zif_f c1_6 h
                have ec1_0 : ¬ (x2).toInt = 0 := zsw_ne c1_0
                have ec1_1 : ¬ (x2).toInt = 1 := zsw_ne c1_1
                have ec1_2 : ¬ (x2).toInt = 2 := zsw_ne c1_2
                have ec1_3 : ¬ (x2).toInt = 3 := zsw_ne c1_3
                have ec1_4 : ¬ (x2).toInt = 4 := zsw_ne c1_4
                have ec1_5 : ¬ (x2).toInt = 5 := zsw_ne c1_5
                have ec1_6 : ¬ (x2).toInt = 6 := zsw_ne c1_6
                refine lv_tableOut (tgt := 303) hx hb dX11_step_190 (by omega) (by decide) ?_
                refine lv_aload_n hx hb dX11_step_303 rfl (lv_at hl 0 rfl) ?_
                refine z_get C hE hH zM_o rfl zh_X11 9 (by decide) zk5_17 (fun _ h9 => h9) (v := .ref (q 9)) rfl dX11_step_304 ?_
                refine lv_iload_n hx hb dX11_step_307 rfl (lv_at hl 1 rfl) ?_
                refine lv_iload hx hb dX11_step_308 (lv_at hl 5 rfl) ?_
                obtain ⟨g13, h⟩ := zgd_s h
                refine z_iast C hE hH zM_a9 (t0 := 0) rfl g13 zM_r9 dX11_step_310 (fun H locs hH => ?_)
                exact bM_X11_step_311 C hE   x1 (zsR S 9 x1.toNatClampNeg x5) H locs ls hH (lv_sub hl [0, 1] rfl) h
set_option maxHeartbeats 4000000 in
set_option maxRecDepth 100000 in
theorem bM_X11_step_159 {p : Program} {l : Launch} {e : Env} {s : State} {m : MethodId} {args : Array Value} {below : List Frame} {meth : Method} {c : Code} {D : va_G} {cI : ClassId} {q : Nat → Nat} {A : Nat → Prop} {res : zSt} (C : zCX p s m args meth c cX11_step 8 none zU RX11) (hE : zE D [(cI, .int)] [] A s) (x1 x2 x3 x4 x5 : Int32) (S : zSt) (H : Heap) (locs : List Loc) (ls : Array Slot) (hH : zH D (zwM cI q) A s S H locs) (hl : lv_has ls 8 [(0, .ref (q 32)), (1, .int x1), (2, .int x2), (3, .int x3), (4, .int x4), (5, .int x5)]) (h : fM_X11_step_159  x1 x2 x3 x4 x5 S = some res) : W p l e rmM_X11_step s m args below meth c H locs 0 0 (zQv below D (zwM cI q) [(cI, .int)] A args s res) (F0 m 159 ls []) := by
  have hx := C.1
  have hb := C.2.1
  unfold fM_X11_step_159 at h
  refine lv_iload_n hx hb dX11_step_159 rfl (lv_at hl 2 rfl) ?_
  refine lv_iconst (v := 2) hx hb dX11_step_160 (by decide) ?_
  refine lv_icmp_ne (tgt := 189) hx hb dX11_step_161 (by decide) (fun c1 => ?_) (fun c1 => ?_)
  · replace h := zif_f c1 h
    exact bM_X11_step_189 C hE   x1 x2 x3 x4 x5 S H locs ls hH (lv_sub hl [0, 1, 2, 3, 4, 5] rfl) h
  · replace h := zif_t c1 h
    refine lv_iload hx hb dX11_step_164 (lv_at hl 5 rfl) ?_
    refine lv_if_le (tgt := 189) hx hb dX11_step_166 (by decide) (fun c2 => ?_) (fun c2 => ?_)
    · replace h := zif_t c2 h
      exact bM_X11_step_189 C hE   x1 x2 x3 x4 x5 S H locs ls hH (lv_sub hl [0, 1, 2, 3, 4, 5] rfl) h
    · replace h := zif_f c2 h
      refine lv_aload_n hx hb dX11_step_169 rfl (lv_at hl 0 rfl) ?_
      refine lv_dup hx hb dX11_step_170 rfl ?_
      refine z_get C hE hH zM_o rfl zh_X11 18 (by decide) zk22_1 (fun _ h9 => h9) (v := .int (S.1 18)) rfl dX11_step_171 ?_
      refine lv_iconst (v := 1) hx hb dX11_step_174 (by decide) ?_
      refine lv_isub hx hb dX11_step_175 ?_
      refine z_put C hE hH zM_o rfl zh_X11 tyX11_ok nmX11 18 (by decide) zk22_1 (fun _ h9 => h9) rfl (ty := .int) rfl rfl rfl (Nat.le_of_ble_eq_true rfl) zM_i18 dX11_step_176 (fun H locs hH => ?_)
      refine lv_aload_n hx hb dX11_step_179 rfl (lv_at hl 0 rfl) ?_
      refine z_get C hE hH zM_o rfl zh_X11 24 (by decide) zk6_5 (fun _ h9 => h9) (v := .ref (q 24)) rfl dX11_step_180 ?_
      refine lv_iload_n hx hb dX11_step_183 rfl (lv_at hl 3 rfl) ?_
      refine lv_dup2_11 hx hb dX11_step_184 rfl rfl ?_
      obtain ⟨g3, h⟩ := zgd_s h
      refine z_iald C hE hH zM_a24 (t0 := 0) rfl g3 dX11_step_185 ?_
      refine lv_iconst (v := 1) hx hb dX11_step_186 (by decide) ?_
      refine lv_isub hx hb dX11_step_187 ?_
      obtain ⟨g4, h⟩ := zgd_s h
      refine z_iast C hE hH zM_a24 (t0 := 0) rfl g4 zM_r24 dX11_step_188 (fun H locs hH => ?_)
      exact bM_X11_step_189 C hE   x1 x2 x3 x4 x5 (zsR (zsI S 18 ((S.1 18) - 1)) 24 x3.toNatClampNeg ((S.2 24 x3.toNatClampNeg) - 1)) H locs ls hH (lv_sub hl [0, 1, 2, 3, 4, 5] rfl) h
set_option maxHeartbeats 4000000 in
set_option maxRecDepth 100000 in
theorem bM_X11_step_31 {p : Program} {l : Launch} {e : Env} {s : State} {m : MethodId} {args : Array Value} {below : List Frame} {meth : Method} {c : Code} {D : va_G} {cI : ClassId} {q : Nat → Nat} {A : Nat → Prop} {res : zSt} (C : zCX p s m args meth c cX11_step 8 none zU RX11) (hE : zE D [(cI, .int)] [] A s) (x1 x2 x3 t0 : Int32) (S : zSt) (H : Heap) (locs : List Loc) (ls : Array Slot) (hH : zH D (zwM cI q) A s S H locs) (hl : lv_has ls 8 [(0, .ref (q 32)), (1, .int x1), (2, .int x2), (3, .int x3)]) (h : fM_X11_step_31  x1 x2 x3 t0 S = some res) : W p l e rmM_X11_step s m args below meth c H locs 0 0 (zQv below D (zwM cI q) [(cI, .int)] A args s res) (F0 m 31 ls [.int t0]) := by
  have hx := C.1
  have hb := C.2.1
  unfold fM_X11_step_31 at h
  refine lv_istore (lv' := [(4, .int t0), (0, .ref (q 32)), (1, .int x1), (2, .int x2), (3, .int x3)]) hx hb dX11_step_31 hl (by decide) rfl (fun ls hl => ?_)
  refine lv_aload_n hx hb dX11_step_33 rfl (lv_at hl 1 rfl) ?_
  refine z_get C hE hH zM_o rfl zh_X11 24 (by decide) zk6_5 (fun _ h9 => h9) (v := .ref (q 24)) rfl dX11_step_34 ?_
  refine lv_iload_n hx hb dX11_step_37 rfl (lv_at hl 4 rfl) ?_
  obtain ⟨g1, h⟩ := zgd_s h
  refine z_iald C hE hH zM_a24 (t0 := 0) rfl g1 dX11_step_38 ?_
  refine lv_istore (lv' := [(5, .int (S.2 24 x3.toNatClampNeg)), (4, .int t0), (0, .ref (q 32)), (1, .int x1), (2, .int x2), (3, .int x3)]) hx hb dX11_step_39 hl (by decide) rfl (fun ls hl => ?_)
  refine lv_bipush (v := 6) hx hb dX11_step_41 (by decide) ?_
  refine lv_iload_n hx hb dX11_step_43 rfl (lv_at hl 3 rfl) ?_
  refine lv_imul hx hb dX11_step_44 ?_
  refine lv_istore (lv' := [(6, .int (6 * x1)), (5, .int (S.2 24 x3.toNatClampNeg)), (4, .int t0), (0, .ref (q 32)), (1, .int x1), (2, .int x2), (3, .int x3)]) hx hb dX11_step_45 hl (by decide) rfl (fun ls hl => ?_)
  refine lv_aload_n hx hb dX11_step_47 rfl (lv_at hl 3 rfl) ?_
  refine z_get C hE hH zM_o rfl zh_X11 11 (by decide) zk5_19 (fun _ h9 => h9) (v := .ref (q 11)) rfl dX11_step_48 ?_
  refine lv_iload hx hb dX11_step_51 (lv_at hl 0 rfl) ?_
  refine lv_aload_n hx hb dX11_step_53 rfl (lv_at hl 3 rfl) ?_
  refine lv_iload_n hx hb dX11_step_54 rfl (lv_at hl 5 rfl) ?_
  refine lv_iload_n hx hb dX11_step_55 rfl (lv_at hl 6 rfl) ?_
  obtain ⟨u2, e3, h⟩ := zbd_s h
  refine z_calli (va_runV (As := [.int x2, .int x3]) (rest := [.int (6 * x1), .ref (q 11)]) (z_fix C) (cM_X11_onRow l D cI q H.size x2 x3 S e3) (cwV 2 C.2.2.2.2.1 (zGV zk22_17 zk22_18 zk22_19 zk1_5 zk22_20) rfl rfl rfl yd_X11_onRow ⟨Nat.le_of_ble_eq_true rfl, Nat.le_of_ble_eq_true rfl⟩) (z_preV zNm0 hE hH zM_o rfl) rfl rfl hl.1 rfl (lv_room (Nat.le_of_ble_eq_true rfl)) dX11_step_56 ⟨Nat.le_refl 0, Nat.le_refl 0⟩) hE hH (fun H locs hH => ?_)
  obtain ⟨g4, h⟩ := zgd_s h
  refine z_iast C hE hH zM_a11 (t0 := 0) rfl g4 zM_r11 dX11_step_59 (fun H locs hH => ?_)
  refine lv_aload_n hx hb dX11_step_60 rfl (lv_at hl 3 rfl) ?_
  refine z_get C hE hH zM_o rfl zh_X11 11 (by decide) zk5_19 (fun _ h9 => h9) (v := .ref (q 11)) rfl dX11_step_61 ?_
  refine lv_iload hx hb dX11_step_64 (lv_at hl 0 rfl) ?_
  refine lv_iconst (v := 1) hx hb dX11_step_66 (by decide) ?_
  refine lv_iadd hx hb dX11_step_67 ?_
  refine lv_aload_n hx hb dX11_step_68 rfl (lv_at hl 3 rfl) ?_
  refine lv_iload_n hx hb dX11_step_69 rfl (lv_at hl 5 rfl) ?_
  refine lv_iload_n hx hb dX11_step_70 rfl (lv_at hl 6 rfl) ?_
  obtain ⟨u5, e6, h⟩ := zbd_s h
  refine z_calli (va_runV (As := [.int x2, .int x3]) (rest := [.int ((6 * x1) + 1), .ref (q 11)]) (z_fix C) (cM_X11_onSorted l D cI q H.size x2 x3 (zsR u2.2 11 (6 * x1).toNatClampNeg u2.1) e6) (cwV 2 C.2.2.2.2.1 (zGV zk23_11 zk23_12 zk23_13 zk1_5 zk23_14) rfl rfl rfl yd_X11_onSorted ⟨Nat.le_of_ble_eq_true rfl, Nat.le_of_ble_eq_true rfl⟩) (z_preV zNm0 hE hH zM_o rfl) rfl rfl hl.1 rfl (lv_room (Nat.le_of_ble_eq_true rfl)) dX11_step_71 ⟨Nat.le_refl 0, Nat.le_refl 0⟩) hE hH (fun H locs hH => ?_)
  obtain ⟨g7, h⟩ := zgd_s h
  refine z_iast C hE hH zM_a11 (t0 := 0) rfl g7 zM_r11 dX11_step_74 (fun H locs hH => ?_)
  refine lv_aload_n hx hb dX11_step_75 rfl (lv_at hl 3 rfl) ?_
  refine z_get C hE hH zM_o rfl zh_X11 11 (by decide) zk5_19 (fun _ h9 => h9) (v := .ref (q 11)) rfl dX11_step_76 ?_
  refine lv_iload hx hb dX11_step_79 (lv_at hl 0 rfl) ?_
  refine lv_iconst (v := 2) hx hb dX11_step_81 (by decide) ?_
  refine lv_iadd hx hb dX11_step_82 ?_
  refine lv_aload_n hx hb dX11_step_83 rfl (lv_at hl 3 rfl) ?_
  refine lv_iload_n hx hb dX11_step_84 rfl (lv_at hl 5 rfl) ?_
  refine lv_iload_n hx hb dX11_step_85 rfl (lv_at hl 6 rfl) ?_
  obtain ⟨u8, e9, h⟩ := zbd_s h
  refine z_calli (va_runV (As := [.int x2, .int x3]) (rest := [.int ((6 * x1) + 2), .ref (q 11)]) (z_fix C) (cM_X11_onHash l D cI q H.size x2 x3 (zsR u5.2 11 ((6 * x1) + 1).toNatClampNeg u5.1) e9) (cwV 2 C.2.2.2.2.1 (zGV zk23_20 zk23_21 zk23_22 zk1_5 zk23_23) rfl rfl rfl yd_X11_onHash ⟨Nat.le_of_ble_eq_true rfl, Nat.le_of_ble_eq_true rfl⟩) (z_preV zNm0 hE hH zM_o rfl) rfl rfl hl.1 rfl (lv_room (Nat.le_of_ble_eq_true rfl)) dX11_step_86 ⟨Nat.le_refl 0, Nat.le_refl 0⟩) hE hH (fun H locs hH => ?_)
  obtain ⟨g10, h⟩ := zgd_s h
  refine z_iast C hE hH zM_a11 (t0 := 0) rfl g10 zM_r11 dX11_step_89 (fun H locs hH => ?_)
  refine lv_aload_n hx hb dX11_step_90 rfl (lv_at hl 3 rfl) ?_
  refine z_get C hE hH zM_o rfl zh_X11 11 (by decide) zk5_19 (fun _ h9 => h9) (v := .ref (q 11)) rfl dX11_step_91 ?_
  refine lv_iload hx hb dX11_step_94 (lv_at hl 0 rfl) ?_
  refine lv_iconst (v := 3) hx hb dX11_step_96 (by decide) ?_
  refine lv_iadd hx hb dX11_step_97 ?_
  refine lv_aload_n hx hb dX11_step_98 rfl (lv_at hl 3 rfl) ?_
  refine lv_iload_n hx hb dX11_step_99 rfl (lv_at hl 5 rfl) ?_
  refine lv_iload_n hx hb dX11_step_100 rfl (lv_at hl 6 rfl) ?_
  obtain ⟨u11, e12, h⟩ := zbd_s h
  refine z_calli (va_runV (As := [.int x2, .int x3]) (rest := [.int ((6 * x1) + 3), .ref (q 11)]) (z_fix C) (cM_X11_onTree l D cI q H.size x2 x3 (zsR u8.2 11 ((6 * x1) + 2).toNatClampNeg u8.1) e12) (cwV 2 C.2.2.2.2.1 (zGV zk24_16 zk24_17 zk24_18 zk1_5 zk24_19) rfl rfl rfl yd_X11_onTree ⟨Nat.le_of_ble_eq_true rfl, Nat.le_of_ble_eq_true rfl⟩) (z_preV zNm0 hE hH zM_o rfl) rfl rfl hl.1 rfl (lv_room (Nat.le_of_ble_eq_true rfl)) dX11_step_101 ⟨Nat.le_refl 0, Nat.le_refl 0⟩) hE hH (fun H locs hH => ?_)
  obtain ⟨g13, h⟩ := zgd_s h
  refine z_iast C hE hH zM_a11 (t0 := 0) rfl g13 zM_r11 dX11_step_104 (fun H locs hH => ?_)
  refine lv_aload_n hx hb dX11_step_105 rfl (lv_at hl 3 rfl) ?_
  refine z_get C hE hH zM_o rfl zh_X11 11 (by decide) zk5_19 (fun _ h9 => h9) (v := .ref (q 11)) rfl dX11_step_106 ?_
  refine lv_iload hx hb dX11_step_109 (lv_at hl 0 rfl) ?_
  refine lv_iconst (v := 4) hx hb dX11_step_111 (by decide) ?_
  refine lv_iadd hx hb dX11_step_112 ?_
  refine lv_aload_n hx hb dX11_step_113 rfl (lv_at hl 3 rfl) ?_
  refine lv_iload_n hx hb dX11_step_114 rfl (lv_at hl 5 rfl) ?_
  refine lv_iload_n hx hb dX11_step_115 rfl (lv_at hl 6 rfl) ?_
  obtain ⟨u14, e15, h⟩ := zbd_s h
  refine z_calli (va_runV (As := [.int x2, .int x3]) (rest := [.int ((6 * x1) + 4), .ref (q 11)]) (z_fix C) (cM_X11_onHeap l D cI q H.size x2 x3 (zsR u11.2 11 ((6 * x1) + 3).toNatClampNeg u11.1) e15) (cwV 2 C.2.2.2.2.1 (zGV zk25_14 zk25_15 zk25_16 zk1_5 zk25_17) rfl rfl rfl yd_X11_onHeap ⟨Nat.le_of_ble_eq_true rfl, Nat.le_of_ble_eq_true rfl⟩) (z_preV zNm0 hE hH zM_o rfl) rfl rfl hl.1 rfl (lv_room (Nat.le_of_ble_eq_true rfl)) dX11_step_116 ⟨Nat.le_refl 0, Nat.le_refl 0⟩) hE hH (fun H locs hH => ?_)
  obtain ⟨g16, h⟩ := zgd_s h
  refine z_iast C hE hH zM_a11 (t0 := 0) rfl g16 zM_r11 dX11_step_119 (fun H locs hH => ?_)
  refine lv_aload_n hx hb dX11_step_120 rfl (lv_at hl 3 rfl) ?_
  refine z_get C hE hH zM_o rfl zh_X11 11 (by decide) zk5_19 (fun _ h9 => h9) (v := .ref (q 11)) rfl dX11_step_121 ?_
  refine lv_iload hx hb dX11_step_124 (lv_at hl 0 rfl) ?_
  refine lv_iconst (v := 5) hx hb dX11_step_126 (by decide) ?_
  refine lv_iadd hx hb dX11_step_127 ?_
  refine lv_aload_n hx hb dX11_step_128 rfl (lv_at hl 3 rfl) ?_
  refine lv_iload_n hx hb dX11_step_129 rfl (lv_at hl 5 rfl) ?_
  refine lv_iload_n hx hb dX11_step_130 rfl (lv_at hl 6 rfl) ?_
  obtain ⟨u17, e18, h⟩ := zbd_s h
  refine z_calli (va_runV (As := [.int x2, .int x3]) (rest := [.int ((6 * x1) + 5), .ref (q 11)]) (z_fix C) (cM_X11_onBits l D cI q H.size x2 x3 (zsR u14.2 11 ((6 * x1) + 4).toNatClampNeg u14.1) e18) (cwV 2 C.2.2.2.2.1 (zGV zk26_2 zk26_3 zk26_4 zk1_5 zk26_5) rfl rfl rfl yd_X11_onBits ⟨Nat.le_of_ble_eq_true rfl, Nat.le_of_ble_eq_true rfl⟩) (z_preV zNm0 hE hH zM_o rfl) rfl rfl hl.1 rfl (lv_room (Nat.le_of_ble_eq_true rfl)) dX11_step_131 ⟨Nat.le_refl 0, Nat.le_refl 0⟩) hE hH (fun H locs hH => ?_)
  obtain ⟨g19, h⟩ := zgd_s h
  refine z_iast C hE hH zM_a11 (t0 := 0) rfl g19 zM_r11 dX11_step_134 (fun H locs hH => ?_)
  refine lv_iload_n hx hb dX11_step_135 rfl (lv_at hl 5 rfl) ?_
  refine lv_if_ne (tgt := 159) hx hb dX11_step_136 (by decide) (fun c20 => ?_) (fun c20 => ?_)
  · replace h := zif_f c20 h
    exact bM_X11_step_159 C hE   x1 x2 x3 t0 (S.2 24 x3.toNatClampNeg) (zsR (zsR u14.2 11 ((6 * x1) + 4).toNatClampNeg u14.1) 11 ((6 * x1) + 5).toNatClampNeg u17) H locs ls hH (lv_sub hl [3, 4, 5, 6, 2, 1] rfl) h
  · replace h := zif_t c20 h
    refine lv_aload_n hx hb dX11_step_139 rfl (lv_at hl 3 rfl) ?_
    refine lv_dup hx hb dX11_step_140 rfl ?_
    refine z_get C hE hH zM_o rfl zh_X11 18 (by decide) zk22_1 (fun _ h9 => h9) (v := .int (u14.2.1 18)) rfl dX11_step_141 ?_
    refine lv_iconst (v := 1) hx hb dX11_step_144 (by decide) ?_
    refine lv_iadd hx hb dX11_step_145 ?_
    refine z_put C hE hH zM_o rfl zh_X11 tyX11_ok nmX11 18 (by decide) zk22_1 (fun _ h9 => h9) rfl (ty := .int) rfl rfl rfl (Nat.le_of_ble_eq_true rfl) zM_i18 dX11_step_146 (fun H locs hH => ?_)
    refine lv_aload_n hx hb dX11_step_149 rfl (lv_at hl 3 rfl) ?_
    refine z_get C hE hH zM_o rfl zh_X11 24 (by decide) zk6_5 (fun _ h9 => h9) (v := .ref (q 24)) rfl dX11_step_150 ?_
    refine lv_iload_n hx hb dX11_step_153 rfl (lv_at hl 6 rfl) ?_
    refine lv_dup2_11 hx hb dX11_step_154 rfl rfl ?_
    obtain ⟨g21, h⟩ := zgd_s h
    refine z_iald C hE hH zM_a24 (t0 := 0) rfl g21 dX11_step_155 ?_
    refine lv_iconst (v := 1) hx hb dX11_step_156 (by decide) ?_
    refine lv_iadd hx hb dX11_step_157 ?_
    obtain ⟨g22, h⟩ := zgd_s h
    refine z_iast C hE hH zM_a24 (t0 := 0) rfl g22 zM_r24 dX11_step_158 (fun H locs hH => ?_)
    exact bM_X11_step_159 C hE   x1 x2 x3 t0 (S.2 24 x3.toNatClampNeg) (zsR (zsI (zsR (zsR u14.2 11 ((6 * x1) + 4).toNatClampNeg u14.1) 11 ((6 * x1) + 5).toNatClampNeg u17) 18 ((u14.2.1 18) + 1)) 24 x3.toNatClampNeg ((u14.2.2 24 x3.toNatClampNeg) + 1)) H locs ls hH (lv_sub hl [3, 4, 5, 6, 2, 1] rfl) h
set_option maxHeartbeats 4000000 in
set_option maxRecDepth 100000 in
theorem bM_X11_step {p : Program} {l : Launch} {e : Env} {s : State} {m : MethodId} {args : Array Value} {below : List Frame} {meth : Method} {c : Code} {D : va_G} {cI : ClassId} {q : Nat → Nat} {A : Nat → Prop} {res : zSt} (C : zCX p s m args meth c cX11_step 8 none zU RX11) (hE : zE D [(cI, .int)] [] A s) (x1 : Int32) (S : zSt) (H : Heap) (locs : List Loc) (ls : Array Slot) (hH : zH D (zwM cI q) A s S H locs) (hl : lv_has ls 8 [(0, .ref (q 32)), (1, .int x1)]) (h : fM_X11_step  x1 S = some res) : W p l e rmM_X11_step s m args below meth c H locs 0 0 (zQv below D (zwM cI q) [(cI, .int)] A args s res) (F0 m 0 ls []) := by
  have hx := C.1
  have hb := C.2.1
  unfold fM_X11_step at h
  refine lv_aload_n hx hb dX11_step_0 rfl (lv_at hl 0 rfl) ?_
  refine z_get C hE hH zM_o rfl zh_X11 0 (by decide) zk5_13 (fun _ h9 => h9) (v := .ref (q 0)) rfl dX11_step_1 ?_
  refine lv_iload_n hx hb dX11_step_4 rfl (lv_at hl 1 rfl) ?_
  obtain ⟨g1, h⟩ := zgd_s h
  refine z_iald C hE hH zM_a0 (t0 := 0) rfl g1 dX11_step_5 ?_
  refine lv_istore_n (lv' := [(2, .int (S.2 0 x1.toNatClampNeg)), (0, .ref (q 32)), (1, .int x1)]) hx hb dX11_step_6 rfl hl (by decide) rfl (fun ls hl => ?_)
  refine lv_aload_n hx hb dX11_step_7 rfl (lv_at hl 1 rfl) ?_
  refine z_get C hE hH zM_o rfl zh_X11 1 (by decide) zk5_14 (fun _ h9 => h9) (v := .ref (q 1)) rfl dX11_step_8 ?_
  refine lv_iload_n hx hb dX11_step_11 rfl (lv_at hl 2 rfl) ?_
  obtain ⟨g2, h⟩ := zgd_s h
  refine z_iald C hE hH zM_a1 (t0 := 0) rfl g2 dX11_step_12 ?_
  refine lv_istore_n (lv' := [(3, .int (S.2 1 x1.toNatClampNeg)), (2, .int (S.2 0 x1.toNatClampNeg)), (0, .ref (q 32)), (1, .int x1)]) hx hb dX11_step_13 rfl hl (by decide) rfl (fun ls hl => ?_)
  refine lv_aload_n hx hb dX11_step_14 rfl (lv_at hl 2 rfl) ?_
  refine z_get C hE hH zM_o rfl zh_X11 18 (by decide) zk22_1 (fun _ h9 => h9) (v := .int (S.1 18)) rfl dX11_step_15 ?_
  refine lv_if_ne (tgt := 25) hx hb dX11_step_18 (by decide) (fun c3 => ?_) (fun c3 => ?_)
  · replace h := zif_f c3 h
    refine lv_aload_n hx hb dX11_step_25 rfl (lv_at hl 2 rfl) ?_
    refine z_get C hE hH zM_o rfl zh_X11 14 (by decide) zk5_22 (fun _ h9 => h9) (v := .ref (q 14)) rfl dX11_step_26 ?_
    refine lv_iconst (v := 0) hx hb dX11_step_29 (by decide) ?_
    obtain ⟨g4, h⟩ := zgd_s h
    refine z_iald C hE hH zM_a14 (t0 := 0) rfl g4 dX11_step_30 ?_
    exact bM_X11_step_31 C hE   x1 (S.2 0 x1.toNatClampNeg) (S.2 1 x1.toNatClampNeg) (S.2 14 (0 : Int32).toNatClampNeg) S H locs ls hH (lv_sub hl [2, 3, 1, 0] rfl) h
  · replace h := zif_t c3 h
    refine lv_iconst (v := (-1)) hx hb dX11_step_21 (by decide) ?_
    refine lv_goto (tgt := 31) hx hb dX11_step_22 (by decide) ?_
    exact bM_X11_step_31 C hE   x1 (S.2 0 x1.toNatClampNeg) (S.2 1 x1.toNatClampNeg) (-1) S H locs ls hH (lv_sub hl [2, 3, 1, 0] rfl) h
set_option maxHeartbeats 4000000 in
set_option maxRecDepth 100000 in
theorem cM_X11_step (l : Launch) (D : va_G) (cI : ClassId) (q : Nat → Nat) (sz : Nat) (x1 : Int32) (S : zSt) {res : zSt} (h : fM_X11_step x1 S = some res) : zMv l yX11_step vsX11_step rmM_X11_step [.ref (q 32), .int x1] D (zwM cI q) [(cI, .int)] [] sz S res := by
  refine Met.ofW (cc := cX11_step) (maxL := 8) (ret := none) (by decide) rfl ?_
  intro p e s m args below meth c s₁ B hml hv
  obtain ⟨rfl, rfl, hP, hK, hD0, hN⟩ := hv
  have hl := lv_entry ([.ref (q 32), .int x1]) (n := 8) (Nat.le_of_ble_eq_true rfl)
  rw [lg_entry_eq]
  generalize (lg_sl ([.ref (q 32), .int x1]) ++ List.replicate (8 - (lg_sl ([.ref (q 32), .int x1])).length) Slot.unset).toArray = ls at hl ⊢
  exact bM_X11_step ⟨B.exec, B.bytes, hml, findClass_of_methodNamed B.named, fun w h => atoms_spec (ws := vsX11_step) B.pre w (List.mem_cons_of_mem _ h), B.returns, B.notSynchronized⟩ ⟨hK, fun q h => Or.inr h, hN⟩ x1 S s.heap [] ls ⟨hP, hD0.self, va_S.rf⟩ hl  h

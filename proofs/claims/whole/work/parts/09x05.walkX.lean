def rmX_X10_asksFirst : Room := { frames := 0, cells := 0, slots := 0, locals := 0 }
set_option maxHeartbeats 4000000 in
set_option maxRecDepth 100000 in
theorem bX_X10_asksFirst_2 {p : Program} {l : Launch} {e : Env} {s : State} {m : MethodId} {args : Array Value} {below : List Frame} {meth : Method} {c : Code} {D : va_G} {cI cS cW : ClassId} {q : Nat → Nat} {A : Nat → Prop} {res : Int32} (C : zCX p s m args meth c cX10_asksFirst 2 (some .boolean) zU RX10) (hE : zE D (zyX cI cS cW) znX A s) : ∀ (n : Nat) (x1 : Int32) (S : zSt) (H : Heap) (locs : List Loc) (ls : Array Slot), zH D (zwX cI cS cW q) A s S H locs → lv_has ls 2 [(0, .ref (q 6)), (1, .int x1)] → fX_X10_asksFirst_2  n x1 S = some res → W p l e rmX_X10_asksFirst s m args below meth c H locs 0 0 (zQi below D (zwX cI cS cW q) (zyX cI cS cW) A args s res S) (F0 m 2 ls []) := by
  have hx := C.1
  have hb := C.2.1
  intro n
  induction n with
  | zero =>
    intro x1 S H locs ls hH hl  h
    cases h
  | succ n hK2 =>
    intro x1 S H locs ls hH hl  h
    rw [fX_X10_asksFirst_2] at h
    refine lv_iload_n hx hb dX10_asksFirst_2 rfl (lv_at hl 1 rfl) ?_
    refine lv_aload_n hx hb dX10_asksFirst_3 rfl (lv_at hl 0 rfl) ?_
    refine z_get C hE hH zX_o6 rfl zh_X10 6 (by decide) zk2_15 (fun _ h9 => h9) (v := .int (S.1 0)) rfl dX10_asksFirst_4 ?_
    refine lv_icmp_ge (tgt := 29) hx hb dX10_asksFirst_7 (by decide) (fun c1 => ?_) (fun c1 => ?_)
    · replace h := zif_t c1 h
      refine lv_iconst (v := 0) hx hb dX10_asksFirst_29 (by decide) ?_
      cases h
      exact z_zret (v := 0) C hE hH zb_0 dX10_asksFirst_30
    · replace h := zif_f c1 h
      refine lv_aload_n hx hb dX10_asksFirst_10 rfl (lv_at hl 0 rfl) ?_
      refine z_get C hE hH zX_o6 rfl zh_X10 2 (by decide) zk2_11 (fun _ h9 => h9) (v := .ref (q 28)) rfl dX10_asksFirst_11 ?_
      refine lv_iload_n hx hb dX10_asksFirst_14 rfl (lv_at hl 1 rfl) ?_
      obtain ⟨g2, h⟩ := zgd_s h
      refine z_iald C hE hH zX_a28 (t0 := 0) rfl g2 dX10_asksFirst_15 ?_
      refine lv_bipush (v := 6) hx hb dX10_asksFirst_16 (by decide) ?_
      refine lv_icmp_ne (tgt := 23) hx hb dX10_asksFirst_18 (by decide) (fun c3 => ?_) (fun c3 => ?_)
      · replace h := zif_f c3 h
        refine lv_iinc (v := (x1 + 1)) (lv' := [(1, .int (x1 + 1)), (0, .ref (q 6))]) hx hb dX10_asksFirst_23 hl (k := 1) rfl rfl (by decide) rfl (fun ls hl => ?_)
        refine lv_goto (tgt := 2) hx hb dX10_asksFirst_26 (by decide) ?_
        exact hK2 (x1 + 1) S H locs ls hH (lv_sub hl [1, 0] rfl) h
      · replace h := zif_t c3 h
        refine lv_iconst (v := 1) hx hb dX10_asksFirst_21 (by decide) ?_
        cases h
        exact z_zret (v := 1) C hE hH zb_1 dX10_asksFirst_22
set_option maxHeartbeats 4000000 in
set_option maxRecDepth 100000 in
theorem bX_X10_asksFirst {p : Program} {l : Launch} {e : Env} {s : State} {m : MethodId} {args : Array Value} {below : List Frame} {meth : Method} {c : Code} {D : va_G} {cI cS cW : ClassId} {q : Nat → Nat} {A : Nat → Prop} {res : Int32} (C : zCX p s m args meth c cX10_asksFirst 2 (some .boolean) zU RX10) (hE : zE D (zyX cI cS cW) znX A s) (S : zSt) (H : Heap) (locs : List Loc) (ls : Array Slot) (hH : zH D (zwX cI cS cW q) A s S H locs) (hl : lv_has ls 2 [(0, .ref (q 6))]) (h : fX_X10_asksFirst   S = some res) : W p l e rmX_X10_asksFirst s m args below meth c H locs 0 0 (zQi below D (zwX cI cS cW q) (zyX cI cS cW) A args s res S) (F0 m 0 ls []) := by
  have hx := C.1
  have hb := C.2.1
  unfold fX_X10_asksFirst at h
  refine lv_iconst (v := 0) hx hb dX10_asksFirst_0 (by decide) ?_
  refine lv_istore_n (lv' := [(1, .int 0), (0, .ref (q 6))]) hx hb dX10_asksFirst_1 rfl hl (by decide) rfl (fun ls hl => ?_)
  exact bX_X10_asksFirst_2 C hE   1000 0 S H locs ls hH (lv_sub hl [1, 0] rfl) h
set_option maxHeartbeats 4000000 in
set_option maxRecDepth 100000 in
theorem cX_X10_asksFirst (l : Launch) (D : va_G) (cI cS cW : ClassId) (q : Nat → Nat) (sz : Nat) (S : zSt) {res : Int32} (h : fX_X10_asksFirst  S = some res) : zMi l yX10_asksFirst vsX10_asksFirst rmX_X10_asksFirst [.ref (q 6)] D (zwX cI cS cW q) (zyX cI cS cW) znX sz S res S := by
  refine Met.ofW (cc := cX10_asksFirst) (maxL := 2) (ret := (some .boolean)) (by decide) rfl ?_
  intro p e s m args below meth c s₁ B hml hv
  obtain ⟨rfl, rfl, hP, hK, hD0, hN⟩ := hv
  have hl := lv_entry ([.ref (q 6)]) (n := 2) (Nat.le_of_ble_eq_true rfl)
  rw [lg_entry_eq]
  generalize (lg_sl ([.ref (q 6)]) ++ List.replicate (2 - (lg_sl ([.ref (q 6)])).length) Slot.unset).toArray = ls at hl ⊢
  exact bX_X10_asksFirst ⟨B.exec, B.bytes, hml, findClass_of_methodNamed B.named, fun w h => atoms_spec (ws := vsX10_asksFirst) B.pre w (List.mem_cons_of_mem _ h), B.returns, B.notSynchronized⟩ ⟨hK, fun q h => Or.inr h, hN⟩  S s.heap [] ls ⟨hP, hD0.self, va_S.rf⟩ hl  h
def rmX_X10_offered : Room := { frames := 1, cells := 0, slots := 0, locals := 21 }
set_option maxHeartbeats 4000000 in
set_option maxRecDepth 100000 in
theorem bX_X10_offered_44 {p : Program} {l : Launch} {e : Env} {s : State} {m : MethodId} {args : Array Value} {below : List Frame} {meth : Method} {c : Code} {D : va_G} {cI cS cW : ClassId} {q : Nat → Nat} {A : Nat → Prop} {res : Int32} (C : zCX p s m args meth c cX10_offered 1 (some .int) zU RX10) (hE : zE D (zyX cI cS cW) znX A s) (t0 t1 : Int32) (S : zSt) (H : Heap) (locs : List Loc) (ls : Array Slot) (hH : zH D (zwX cI cS cW q) A s S H locs) (hl : lv_has ls 1 []) (h : fX_X10_offered_44  t0 t1 S = some res) : W p l e rmX_X10_offered s m args below meth c H locs 0 0 (zQi below D (zwX cI cS cW q) (zyX cI cS cW) A args s res S) (F0 m 44 ls [.int t1, .int t0]) := by
  have hx := C.1
  have hb := C.2.1
  unfold fX_X10_offered_44 at h
  refine lv_iand hx hb dX10_offered_44 ?_
  cases h
  exact z_iret C hE hH dX10_offered_45
set_option maxHeartbeats 4000000 in
set_option maxRecDepth 100000 in
theorem bX_X10_offered_30 {p : Program} {l : Launch} {e : Env} {s : State} {m : MethodId} {args : Array Value} {below : List Frame} {meth : Method} {c : Code} {D : va_G} {cI cS cW : ClassId} {q : Nat → Nat} {A : Nat → Prop} {res : Int32} (C : zCX p s m args meth c cX10_offered 1 (some .int) zU RX10) (hE : zE D (zyX cI cS cW) znX A s) (t0 t1 : Int32) (S : zSt) (H : Heap) (locs : List Loc) (ls : Array Slot) (hH : zH D (zwX cI cS cW q) A s S H locs) (hl : lv_has ls 1 [(0, .ref (q 6))]) (h : fX_X10_offered_30  t0 t1 S = some res) : W p l e rmX_X10_offered s m args below meth c H locs 0 0 (zQi below D (zwX cI cS cW q) (zyX cI cS cW) A args s res S) (F0 m 30 ls [.int t1, .int t0]) := by
  have hx := C.1
  have hb := C.2.1
  unfold fX_X10_offered_30 at h
  refine lv_iand hx hb dX10_offered_30 ?_
  refine lv_aload_n hx hb dX10_offered_31 rfl (lv_at hl 0 rfl) ?_
  obtain ⟨u1, e2, h⟩ := zbd_s h
  refine z_calli (va_runV (As := []) (rest := [.int (t0 &&& t1)]) (z_fix C) (cX_X10_asksFirst l D cI cS cW q H.size   S e2) (cwV 0 C.2.2.2.2.1 (zGV zk31_0 zk31_1 zk31_2 zk1_2 zk31_3) rfl rfl rfl yd_X10_asksFirst ⟨Nat.le_of_ble_eq_true rfl, Nat.le_of_ble_eq_true rfl⟩) (z_preV (zNmX hE) hE hH zX_o6 rfl) rfl rfl hl.1 rfl (lv_room (Nat.le_of_ble_eq_true rfl)) dX10_offered_32 ⟨Nat.le_refl 0, Nat.le_refl 0⟩) hE hH (fun H locs hH => ?_)
  refine lv_if_eq (tgt := 42) hx hb dX10_offered_35 (by decide) (fun c3 => ?_) (fun c3 => ?_)
  · replace h := zif_t c3 h
    refine lv_bipush (v := 63) hx hb dX10_offered_42 (by decide) ?_
    exact bX_X10_offered_44 C hE   (t0 &&& t1) 63 S H locs ls hH (lv_sub hl [] rfl) h
  · replace h := zif_f c3 h
    refine lv_iconst (v := 1) hx hb dX10_offered_38 (by decide) ?_
    refine lv_goto (tgt := 44) hx hb dX10_offered_39 (by decide) ?_
    exact bX_X10_offered_44 C hE   (t0 &&& t1) 1 S H locs ls hH (lv_sub hl [] rfl) h
set_option maxHeartbeats 4000000 in
set_option maxRecDepth 100000 in
theorem bX_X10_offered_16 {p : Program} {l : Launch} {e : Env} {s : State} {m : MethodId} {args : Array Value} {below : List Frame} {meth : Method} {c : Code} {D : va_G} {cI cS cW : ClassId} {q : Nat → Nat} {A : Nat → Prop} {res : Int32} (C : zCX p s m args meth c cX10_offered 1 (some .int) zU RX10) (hE : zE D (zyX cI cS cW) znX A s) (t0 t1 : Int32) (S : zSt) (H : Heap) (locs : List Loc) (ls : Array Slot) (hH : zH D (zwX cI cS cW q) A s S H locs) (hl : lv_has ls 1 [(0, .ref (q 6))]) (h : fX_X10_offered_16  t0 t1 S = some res) : W p l e rmX_X10_offered s m args below meth c H locs 0 0 (zQi below D (zwX cI cS cW q) (zyX cI cS cW) A args s res S) (F0 m 16 ls [.int t1, .int t0]) := by
  have hx := C.1
  have hb := C.2.1
  unfold fX_X10_offered_16 at h
  refine lv_iand hx hb dX10_offered_16 ?_
  refine lv_aload_n hx hb dX10_offered_17 rfl (lv_at hl 0 rfl) ?_
  refine z_get C hE hH zX_o6 rfl zh_X10 8 (by decide) zk2_17 (fun _ h9 => h9) (v := .int (S.1 2)) rfl dX10_offered_18 ?_
  refine lv_if_eq (tgt := 28) hx hb dX10_offered_21 (by decide) (fun c1 => ?_) (fun c1 => ?_)
  · replace h := zif_t c1 h
    refine lv_bipush (v := 63) hx hb dX10_offered_28 (by decide) ?_
    exact bX_X10_offered_30 C hE   (t0 &&& t1) 63 S H locs ls hH (lv_sub hl [0] rfl) h
  · replace h := zif_f c1 h
    refine lv_iconst (v := 1) hx hb dX10_offered_24 (by decide) ?_
    refine lv_goto (tgt := 30) hx hb dX10_offered_25 (by decide) ?_
    exact bX_X10_offered_30 C hE   (t0 &&& t1) 1 S H locs ls hH (lv_sub hl [0] rfl) h
set_option maxHeartbeats 4000000 in
set_option maxRecDepth 100000 in
theorem bX_X10_offered {p : Program} {l : Launch} {e : Env} {s : State} {m : MethodId} {args : Array Value} {below : List Frame} {meth : Method} {c : Code} {D : va_G} {cI cS cW : ClassId} {q : Nat → Nat} {A : Nat → Prop} {res : Int32} (C : zCX p s m args meth c cX10_offered 1 (some .int) zU RX10) (hE : zE D (zyX cI cS cW) znX A s) (S : zSt) (H : Heap) (locs : List Loc) (ls : Array Slot) (hH : zH D (zwX cI cS cW q) A s S H locs) (hl : lv_has ls 1 [(0, .ref (q 6))]) (h : fX_X10_offered   S = some res) : W p l e rmX_X10_offered s m args below meth c H locs 0 0 (zQi below D (zwX cI cS cW q) (zyX cI cS cW) A args s res S) (F0 m 0 ls []) := by
  have hx := C.1
  have hb := C.2.1
  unfold fX_X10_offered at h
  refine lv_bipush (v := 63) hx hb dX10_offered_0 (by decide) ?_
  refine lv_aload_n hx hb dX10_offered_2 rfl (lv_at hl 0 rfl) ?_
  refine z_get C hE hH zX_o6 rfl zh_X10 7 (by decide) zk2_16 (fun _ h9 => h9) (v := .int (S.1 1)) rfl dX10_offered_3 ?_
  refine lv_if_eq (tgt := 14) hx hb dX10_offered_6 (by decide) (fun c1 => ?_) (fun c1 => ?_)
  · replace h := zif_t c1 h
    refine lv_bipush (v := 63) hx hb dX10_offered_14 (by decide) ?_
    exact bX_X10_offered_16 C hE   63 63 S H locs ls hH (lv_sub hl [0] rfl) h
  · replace h := zif_f c1 h
    refine lv_bipush (v := 42) hx hb dX10_offered_9 (by decide) ?_
    refine lv_goto (tgt := 16) hx hb dX10_offered_11 (by decide) ?_
    exact bX_X10_offered_16 C hE   63 42 S H locs ls hH (lv_sub hl [0] rfl) h
set_option maxHeartbeats 4000000 in
set_option maxRecDepth 100000 in
theorem cX_X10_offered (l : Launch) (D : va_G) (cI cS cW : ClassId) (q : Nat → Nat) (sz : Nat) (S : zSt) {res : Int32} (h : fX_X10_offered  S = some res) : zMi l yX10_offered vsX10_offered rmX_X10_offered [.ref (q 6)] D (zwX cI cS cW q) (zyX cI cS cW) znX sz S res S := by
  refine Met.ofW (cc := cX10_offered) (maxL := 1) (ret := (some .int)) (by decide) rfl ?_
  intro p e s m args below meth c s₁ B hml hv
  obtain ⟨rfl, rfl, hP, hK, hD0, hN⟩ := hv
  have hl := lv_entry ([.ref (q 6)]) (n := 1) (Nat.le_of_ble_eq_true rfl)
  rw [lg_entry_eq]
  generalize (lg_sl ([.ref (q 6)]) ++ List.replicate (1 - (lg_sl ([.ref (q 6)])).length) Slot.unset).toArray = ls at hl ⊢
  exact bX_X10_offered ⟨B.exec, B.bytes, hml, findClass_of_methodNamed B.named, fun w h => atoms_spec (ws := vsX10_offered) B.pre w (List.mem_cons_of_mem _ h), B.returns, B.notSynchronized⟩ ⟨hK, fun q h => Or.inr h, hN⟩  S s.heap [] ls ⟨hP, hD0.self, va_S.rf⟩ hl  h
def rmX_X10_isIn : Room := { frames := 0, cells := 0, slots := 0, locals := 0 }
set_option maxHeartbeats 4000000 in
set_option maxRecDepth 100000 in
theorem bX_X10_isIn {p : Program} {l : Launch} {e : Env} {s : State} {m : MethodId} {args : Array Value} {below : List Frame} {meth : Method} {c : Code} {D : va_G} {cI cS cW : ClassId} {q : Nat → Nat} {A : Nat → Prop} {res : Int32} (C : zCX p s m args meth c cX10_isIn 2 (some .boolean) zU RX10) (hE : zE D (zyX cI cS cW) znX A s) (x0 x1 : Int32) (S : zSt) (H : Heap) (locs : List Loc) (ls : Array Slot) (hH : zH D (zwX cI cS cW q) A s S H locs) (hl : lv_has ls 2 [(0, .int x0), (1, .int x1)]) (h : fX_X10_isIn  x0 x1 S = some res) : W p l e rmX_X10_isIn s m args below meth c H locs 0 0 (zQi below D (zwX cI cS cW q) (zyX cI cS cW) A args s res S) (F0 m 0 ls []) := by
  have hx := C.1
  have hb := C.2.1
  unfold fX_X10_isIn at h
  refine lv_iload_n hx hb dX10_isIn_0 rfl (lv_at hl 0 rfl) ?_
  refine lv_iload_n hx hb dX10_isIn_1 rfl (lv_at hl 1 rfl) ?_
  refine lv_ishr hx hb dX10_isIn_2 ?_
  refine lv_iconst (v := 1) hx hb dX10_isIn_3 (by decide) ?_
  refine lv_iand hx hb dX10_isIn_4 ?_
  refine lv_iconst (v := 1) hx hb dX10_isIn_5 (by decide) ?_
  refine lv_icmp_ne (tgt := 13) hx hb dX10_isIn_6 (by decide) (fun c1 => ?_) (fun c1 => ?_)
  · replace h := zif_f c1 h
    refine lv_iconst (v := 0) hx hb dX10_isIn_13 (by decide) ?_
    cases h
    exact z_zret (v := 0) C hE hH zb_0 dX10_isIn_14
  · replace h := zif_t c1 h
    refine lv_iconst (v := 1) hx hb dX10_isIn_9 (by decide) ?_
    refine lv_goto (tgt := 14) hx hb dX10_isIn_10 (by decide) ?_
    cases h
    exact z_zret (v := 1) C hE hH zb_1 dX10_isIn_14
set_option maxHeartbeats 4000000 in
set_option maxRecDepth 100000 in
theorem cX_X10_isIn (l : Launch) (D : va_G) (cI cS cW : ClassId) (q : Nat → Nat) (sz : Nat) (x0 : Int32) (x1 : Int32) (S : zSt) {res : Int32} (h : fX_X10_isIn x0 x1 S = some res) : zMi l yX10_isIn vsX10_isIn rmX_X10_isIn [.int x0, .int x1] D (zwX cI cS cW q) (zyX cI cS cW) znX sz S res S := by
  refine Met.ofW (cc := cX10_isIn) (maxL := 2) (ret := (some .boolean)) (by decide) rfl ?_
  intro p e s m args below meth c s₁ B hml hv
  obtain ⟨rfl, rfl, hP, hK, hD0, hN⟩ := hv
  have hl := lv_entry ([.int x0, .int x1]) (n := 2) (Nat.le_of_ble_eq_true rfl)
  rw [lg_entry_eq]
  generalize (lg_sl ([.int x0, .int x1]) ++ List.replicate (2 - (lg_sl ([.int x0, .int x1])).length) Slot.unset).toArray = ls at hl ⊢
  exact bX_X10_isIn ⟨B.exec, B.bytes, hml, findClass_of_methodNamed B.named, fun w h => atoms_spec (ws := vsX10_isIn) B.pre w (List.mem_cons_of_mem _ h), B.returns, B.notSynchronized⟩ ⟨hK, fun q h => Or.inr h, hN⟩ x0 x1 S s.heap [] ls ⟨hP, hD0.self, va_S.rf⟩ hl  h
def rmX_X10_sum : Room := { frames := 2, cells := 0, slots := 0, locals := 43 }
set_option maxHeartbeats 4000000 in
set_option maxRecDepth 100000 in
theorem bX_X10_sum_61 {p : Program} {l : Launch} {e : Env} {s : State} {m : MethodId} {args : Array Value} {below : List Frame} {meth : Method} {c : Code} {D : va_G} {cI cS cW : ClassId} {q : Nat → Nat} {A : Nat → Prop} {res : Int32} (C : zCX p s m args meth c cX10_sum 4 (some .int) zU RX10) (hE : zE D (zyX cI cS cW) znX A s) (t0 : Int32) (S : zSt) (H : Heap) (locs : List Loc) (ls : Array Slot) (hH : zH D (zwX cI cS cW q) A s S H locs) (hl : lv_has ls 4 []) (h : fX_X10_sum_61  t0 S = some res) : W p l e rmX_X10_sum s m args below meth c H locs 0 0 (zQi below D (zwX cI cS cW q) (zyX cI cS cW) A args s res S) (F0 m 61 ls [.int t0]) := by
  have hx := C.1
  have hb := C.2.1
  unfold fX_X10_sum_61 at h
  cases h
  exact z_iret C hE hH dX10_sum_61
set_option maxHeartbeats 4000000 in
set_option maxRecDepth 100000 in
theorem bX_X10_sum_56 {p : Program} {l : Launch} {e : Env} {s : State} {m : MethodId} {args : Array Value} {below : List Frame} {meth : Method} {c : Code} {D : va_G} {cI cS cW : ClassId} {q : Nat → Nat} {A : Nat → Prop} {res : Int32} (C : zCX p s m args meth c cX10_sum 4 (some .int) zU RX10) (hE : zE D (zyX cI cS cW) znX A s) (j3 : Nat) (S : zSt) (H : Heap) (locs : List Loc) (ls : Array Slot) (hH : zH D (zwX cI cS cW q) A s S H locs) (hl : lv_has ls 4 [(3, .ref (q j3))]) (hj_j3 : j3 < 6) (h : fX_X10_sum_56  j3 S = some res) : W p l e rmX_X10_sum s m args below meth c H locs 0 0 (zQi below D (zwX cI cS cW q) (zyX cI cS cW) A args s res S) (F0 m 56 ls []) := by
  have hx := C.1
  have hb := C.2.1
  unfold fX_X10_sum_56 at h
  refine lv_aload_n hx hb dX10_sum_56 rfl (lv_at hl 0 rfl) ?_
  refine lv_iconst (v := 0) hx hb dX10_sum_57 (by decide) ?_
  obtain ⟨u1, e2, hh⟩ := zbd_s h
  clear h
  rcases z6 hj_j3 with rfl | rfl | rfl | rfl | rfl | rfl
  · have h := hh
    refine z_calli (va_runU (As := [.int 0]) (rest := []) (z_fix C) (cX_X7_stepsSince_Row l D cI cS cW q H.size  0 S (fX_d_stepsSince_0.symm.trans e2)) (va_cwU 1 C.2.2.2.2.1 (zGU (x := ⟨"WhichShelf$Shelf", "stepsSince", "(I)I"⟩) (owner := "WhichShelf$Shelf") zk29_2 zk29_3 zk29_10 zk29_5 zk3_13 zk29_6) rfl rfl rfl rfl ydu_X7_stepsSince ⟨Nat.le_of_ble_eq_true rfl, Nat.le_of_ble_eq_true rfl⟩) (z_preV (zNmX hE) hE hH zX_o0 rfl) rfl rfl hl.1 rfl (lv_room (Nat.le_of_ble_eq_true rfl)) dX10_sum_58 ⟨Nat.le_refl 0, Nat.le_refl 0⟩) hE hH (fun H locs hH => ?_)
    exact bX_X10_sum_61 C hE   u1 S H locs ls hH (lv_sub hl [] rfl) h
  · have h := hh
    refine z_calli (va_runU (As := [.int 0]) (rest := []) (z_fix C) (cX_X7_stepsSince_Sorted l D cI cS cW q H.size  0 S (fX_d_stepsSince_1.symm.trans e2)) (va_cwU 1 C.2.2.2.2.1 (zGU (x := ⟨"WhichShelf$Shelf", "stepsSince", "(I)I"⟩) (owner := "WhichShelf$Shelf") zk29_2 zk29_3 zk29_11 zk29_5 zk3_13 zk29_6) rfl rfl rfl rfl ydu_X7_stepsSince ⟨Nat.le_of_ble_eq_true rfl, Nat.le_of_ble_eq_true rfl⟩) (z_preV (zNmX hE) hE hH zX_o1 rfl) rfl rfl hl.1 rfl (lv_room (Nat.le_of_ble_eq_true rfl)) dX10_sum_58 ⟨Nat.le_refl 0, Nat.le_refl 0⟩) hE hH (fun H locs hH => ?_)
    exact bX_X10_sum_61 C hE   u1 S H locs ls hH (lv_sub hl [] rfl) h
  · have h := hh
    refine z_calli (va_runU (As := [.int 0]) (rest := []) (z_fix C) (cX_X7_stepsSince_Hash l D cI cS cW q H.size  0 S (fX_d_stepsSince_2.symm.trans e2)) (va_cwU 1 C.2.2.2.2.1 (zGU (x := ⟨"WhichShelf$Shelf", "stepsSince", "(I)I"⟩) (owner := "WhichShelf$Shelf") zk29_2 zk29_3 zk29_8 zk29_5 zk3_13 zk29_6) rfl rfl rfl rfl ydu_X7_stepsSince ⟨Nat.le_of_ble_eq_true rfl, Nat.le_of_ble_eq_true rfl⟩) (z_preV (zNmX hE) hE hH zX_o2 rfl) rfl rfl hl.1 rfl (lv_room (Nat.le_of_ble_eq_true rfl)) dX10_sum_58 ⟨Nat.le_refl 0, Nat.le_refl 0⟩) hE hH (fun H locs hH => ?_)
    exact bX_X10_sum_61 C hE   u1 S H locs ls hH (lv_sub hl [] rfl) h
  · have h := hh
    refine z_calli (va_runU (As := [.int 0]) (rest := []) (z_fix C) (cX_X7_stepsSince_Tree l D cI cS cW q H.size  0 S (fX_d_stepsSince_3.symm.trans e2)) (va_cwU 1 C.2.2.2.2.1 (zGU (x := ⟨"WhichShelf$Shelf", "stepsSince", "(I)I"⟩) (owner := "WhichShelf$Shelf") zk29_2 zk29_3 zk29_12 zk29_5 zk3_13 zk29_6) rfl rfl rfl rfl ydu_X7_stepsSince ⟨Nat.le_of_ble_eq_true rfl, Nat.le_of_ble_eq_true rfl⟩) (z_preV (zNmX hE) hE hH zX_o3 rfl) rfl rfl hl.1 rfl (lv_room (Nat.le_of_ble_eq_true rfl)) dX10_sum_58 ⟨Nat.le_refl 0, Nat.le_refl 0⟩) hE hH (fun H locs hH => ?_)
    exact bX_X10_sum_61 C hE   u1 S H locs ls hH (lv_sub hl [] rfl) h
  · have h := hh
    refine z_calli (va_runU (As := [.int 0]) (rest := []) (z_fix C) (cX_X7_stepsSince_Heap l D cI cS cW q H.size  0 S (fX_d_stepsSince_4.symm.trans e2)) (va_cwU 1 C.2.2.2.2.1 (zGU (x := ⟨"WhichShelf$Shelf", "stepsSince", "(I)I"⟩) (owner := "WhichShelf$Shelf") zk29_2 zk29_3 zk29_9 zk29_5 zk3_13 zk29_6) rfl rfl rfl rfl ydu_X7_stepsSince ⟨Nat.le_of_ble_eq_true rfl, Nat.le_of_ble_eq_true rfl⟩) (z_preV (zNmX hE) hE hH zX_o4 rfl) rfl rfl hl.1 rfl (lv_room (Nat.le_of_ble_eq_true rfl)) dX10_sum_58 ⟨Nat.le_refl 0, Nat.le_refl 0⟩) hE hH (fun H locs hH => ?_)
    exact bX_X10_sum_61 C hE   u1 S H locs ls hH (lv_sub hl [] rfl) h
  · have h := hh
    refine z_calli (va_runU (As := [.int 0]) (rest := []) (z_fix C) (cX_X7_stepsSince_Bits l D cI cS cW q H.size  0 S (fX_d_stepsSince_5.symm.trans e2)) (va_cwU 1 C.2.2.2.2.1 (zGU (x := ⟨"WhichShelf$Shelf", "stepsSince", "(I)I"⟩) (owner := "WhichShelf$Shelf") zk29_2 zk29_3 zk29_4 zk29_5 zk3_13 zk29_6) rfl rfl rfl rfl ydu_X7_stepsSince ⟨Nat.le_of_ble_eq_true rfl, Nat.le_of_ble_eq_true rfl⟩) (z_preV (zNmX hE) hE hH zX_o5 rfl) rfl rfl hl.1 rfl (lv_room (Nat.le_of_ble_eq_true rfl)) dX10_sum_58 ⟨Nat.le_refl 0, Nat.le_refl 0⟩) hE hH (fun H locs hH => ?_)
    exact bX_X10_sum_61 C hE   u1 S H locs ls hH (lv_sub hl [] rfl) h
set_option maxHeartbeats 4000000 in
set_option maxRecDepth 100000 in
theorem bX_X10_sum_66 {p : Program} {l : Launch} {e : Env} {s : State} {m : MethodId} {args : Array Value} {below : List Frame} {meth : Method} {c : Code} {D : va_G} {cI cS cW : ClassId} {q : Nat → Nat} {A : Nat → Prop} {res : Int32} (C : zCX p s m args meth c cX10_sum 4 (some .int) zU RX10) (hE : zE D (zyX cI cS cW) znX A s) (t0 : Int32) (S : zSt) (H : Heap) (locs : List Loc) (ls : Array Slot) (hH : zH D (zwX cI cS cW q) A s S H locs) (hl : lv_has ls 4 []) (h : fX_X10_sum_66  t0 S = some res) : W p l e rmX_X10_sum s m args below meth c H locs 0 0 (zQi below D (zwX cI cS cW q) (zyX cI cS cW) A args s res S) (F0 m 66 ls [.int t0]) := by
  have hx := C.1
  have hb := C.2.1
  unfold fX_X10_sum_66 at h
  cases h
  exact z_iret C hE hH dX10_sum_66
set_option maxHeartbeats 4000000 in
set_option maxRecDepth 100000 in
theorem bX_X10_sum_62 {p : Program} {l : Launch} {e : Env} {s : State} {m : MethodId} {args : Array Value} {below : List Frame} {meth : Method} {c : Code} {D : va_G} {cI cS cW : ClassId} {q : Nat → Nat} {A : Nat → Prop} {res : Int32} (C : zCX p s m args meth c cX10_sum 4 (some .int) zU RX10) (hE : zE D (zyX cI cS cW) znX A s) (j3 : Nat) (S : zSt) (H : Heap) (locs : List Loc) (ls : Array Slot) (hH : zH D (zwX cI cS cW q) A s S H locs) (hl : lv_has ls 4 [(3, .ref (q j3))]) (hj_j3 : j3 < 6) (h : fX_X10_sum_62  j3 S = some res) : W p l e rmX_X10_sum s m args below meth c H locs 0 0 (zQi below D (zwX cI cS cW q) (zyX cI cS cW) A args s res S) (F0 m 62 ls []) := by
  have hx := C.1
  have hb := C.2.1
  unfold fX_X10_sum_62 at h
  refine lv_aload_n hx hb dX10_sum_62 rfl (lv_at hl 0 rfl) ?_
  obtain ⟨u1, e2, hh⟩ := zbd_s h
  clear h
  rcases z6 hj_j3 with rfl | rfl | rfl | rfl | rfl | rfl
  · have h := hh
    refine z_calli (va_runU (As := []) (rest := []) (z_fix C) (cX_X7_worstSteps_Row l D cI cS cW q H.size   S (fX_d_worstSteps_0.symm.trans e2)) (va_cwU 0 C.2.2.2.2.1 (zGU (x := ⟨"WhichShelf$Shelf", "worstSteps", "()I"⟩) (owner := "WhichShelf$Shelf") zk29_13 zk29_14 zk30_6 zk29_16 zk3_13 zk29_17) rfl rfl rfl rfl ydu_X7_worstSteps ⟨Nat.le_of_ble_eq_true rfl, Nat.le_of_ble_eq_true rfl⟩) (z_preV (zNmX hE) hE hH zX_o0 rfl) rfl rfl hl.1 rfl (lv_room (Nat.le_of_ble_eq_true rfl)) dX10_sum_63 ⟨Nat.le_refl 0, Nat.le_refl 0⟩) hE hH (fun H locs hH => ?_)
    exact bX_X10_sum_66 C hE   u1 S H locs ls hH (lv_sub hl [] rfl) h
  · have h := hh
    refine z_calli (va_runU (As := []) (rest := []) (z_fix C) (cX_X7_worstSteps_Sorted l D cI cS cW q H.size   S (fX_d_worstSteps_1.symm.trans e2)) (va_cwU 0 C.2.2.2.2.1 (zGU (x := ⟨"WhichShelf$Shelf", "worstSteps", "()I"⟩) (owner := "WhichShelf$Shelf") zk29_13 zk29_14 zk30_7 zk29_16 zk3_13 zk29_17) rfl rfl rfl rfl ydu_X7_worstSteps ⟨Nat.le_of_ble_eq_true rfl, Nat.le_of_ble_eq_true rfl⟩) (z_preV (zNmX hE) hE hH zX_o1 rfl) rfl rfl hl.1 rfl (lv_room (Nat.le_of_ble_eq_true rfl)) dX10_sum_63 ⟨Nat.le_refl 0, Nat.le_refl 0⟩) hE hH (fun H locs hH => ?_)
    exact bX_X10_sum_66 C hE   u1 S H locs ls hH (lv_sub hl [] rfl) h
  · have h := hh
    refine z_calli (va_runU (As := []) (rest := []) (z_fix C) (cX_X7_worstSteps_Hash l D cI cS cW q H.size   S (fX_d_worstSteps_2.symm.trans e2)) (va_cwU 0 C.2.2.2.2.1 (zGU (x := ⟨"WhichShelf$Shelf", "worstSteps", "()I"⟩) (owner := "WhichShelf$Shelf") zk29_13 zk29_14 zk30_4 zk29_16 zk3_13 zk29_17) rfl rfl rfl rfl ydu_X7_worstSteps ⟨Nat.le_of_ble_eq_true rfl, Nat.le_of_ble_eq_true rfl⟩) (z_preV (zNmX hE) hE hH zX_o2 rfl) rfl rfl hl.1 rfl (lv_room (Nat.le_of_ble_eq_true rfl)) dX10_sum_63 ⟨Nat.le_refl 0, Nat.le_refl 0⟩) hE hH (fun H locs hH => ?_)
    exact bX_X10_sum_66 C hE   u1 S H locs ls hH (lv_sub hl [] rfl) h
  · have h := hh
    refine z_calli (va_runU (As := []) (rest := []) (z_fix C) (cX_X7_worstSteps_Tree l D cI cS cW q H.size   S (fX_d_worstSteps_3.symm.trans e2)) (va_cwU 0 C.2.2.2.2.1 (zGU (x := ⟨"WhichShelf$Shelf", "worstSteps", "()I"⟩) (owner := "WhichShelf$Shelf") zk29_13 zk29_14 zk30_8 zk29_16 zk3_13 zk29_17) rfl rfl rfl rfl ydu_X7_worstSteps ⟨Nat.le_of_ble_eq_true rfl, Nat.le_of_ble_eq_true rfl⟩) (z_preV (zNmX hE) hE hH zX_o3 rfl) rfl rfl hl.1 rfl (lv_room (Nat.le_of_ble_eq_true rfl)) dX10_sum_63 ⟨Nat.le_refl 0, Nat.le_refl 0⟩) hE hH (fun H locs hH => ?_)
    exact bX_X10_sum_66 C hE   u1 S H locs ls hH (lv_sub hl [] rfl) h
  · have h := hh
    refine z_calli (va_runU (As := []) (rest := []) (z_fix C) (cX_X7_worstSteps_Heap l D cI cS cW q H.size   S (fX_d_worstSteps_4.symm.trans e2)) (va_cwU 0 C.2.2.2.2.1 (zGU (x := ⟨"WhichShelf$Shelf", "worstSteps", "()I"⟩) (owner := "WhichShelf$Shelf") zk29_13 zk29_14 zk30_5 zk29_16 zk3_13 zk29_17) rfl rfl rfl rfl ydu_X7_worstSteps ⟨Nat.le_of_ble_eq_true rfl, Nat.le_of_ble_eq_true rfl⟩) (z_preV (zNmX hE) hE hH zX_o4 rfl) rfl rfl hl.1 rfl (lv_room (Nat.le_of_ble_eq_true rfl)) dX10_sum_63 ⟨Nat.le_refl 0, Nat.le_refl 0⟩) hE hH (fun H locs hH => ?_)
    exact bX_X10_sum_66 C hE   u1 S H locs ls hH (lv_sub hl [] rfl) h
  · have h := hh
    refine z_calli (va_runU (As := []) (rest := []) (z_fix C) (cX_X7_worstSteps_Bits l D cI cS cW q H.size   S (fX_d_worstSteps_5.symm.trans e2)) (va_cwU 0 C.2.2.2.2.1 (zGU (x := ⟨"WhichShelf$Shelf", "worstSteps", "()I"⟩) (owner := "WhichShelf$Shelf") zk29_13 zk29_14 zk29_15 zk29_16 zk3_13 zk29_17) rfl rfl rfl rfl ydu_X7_worstSteps ⟨Nat.le_of_ble_eq_true rfl, Nat.le_of_ble_eq_true rfl⟩) (z_preV (zNmX hE) hE hH zX_o5 rfl) rfl rfl hl.1 rfl (lv_room (Nat.le_of_ble_eq_true rfl)) dX10_sum_63 ⟨Nat.le_refl 0, Nat.le_refl 0⟩) hE hH (fun H locs hH => ?_)
    exact bX_X10_sum_66 C hE   u1 S H locs ls hH (lv_sub hl [] rfl) h
set_option maxHeartbeats 4000000 in
set_option maxRecDepth 100000 in
theorem bX_X10_sum_71 {p : Program} {l : Launch} {e : Env} {s : State} {m : MethodId} {args : Array Value} {below : List Frame} {meth : Method} {c : Code} {D : va_G} {cI cS cW : ClassId} {q : Nat → Nat} {A : Nat → Prop} {res : Int32} (C : zCX p s m args meth c cX10_sum 4 (some .int) zU RX10) (hE : zE D (zyX cI cS cW) znX A s) (t0 : Int32) (S : zSt) (H : Heap) (locs : List Loc) (ls : Array Slot) (hH : zH D (zwX cI cS cW q) A s S H locs) (hl : lv_has ls 4 []) (h : fX_X10_sum_71  t0 S = some res) : W p l e rmX_X10_sum s m args below meth c H locs 0 0 (zQi below D (zwX cI cS cW q) (zyX cI cS cW) A args s res S) (F0 m 71 ls [.int t0]) := by
  have hx := C.1
  have hb := C.2.1
  unfold fX_X10_sum_71 at h
  cases h
  exact z_iret C hE hH dX10_sum_71
set_option maxHeartbeats 4000000 in
set_option maxRecDepth 100000 in
theorem bX_X10_sum_67 {p : Program} {l : Launch} {e : Env} {s : State} {m : MethodId} {args : Array Value} {below : List Frame} {meth : Method} {c : Code} {D : va_G} {cI cS cW : ClassId} {q : Nat → Nat} {A : Nat → Prop} {res : Int32} (C : zCX p s m args meth c cX10_sum 4 (some .int) zU RX10) (hE : zE D (zyX cI cS cW) znX A s) (j3 : Nat) (S : zSt) (H : Heap) (locs : List Loc) (ls : Array Slot) (hH : zH D (zwX cI cS cW q) A s S H locs) (hl : lv_has ls 4 [(3, .ref (q j3))]) (hj_j3 : j3 < 6) (h : fX_X10_sum_67  j3 S = some res) : W p l e rmX_X10_sum s m args below meth c H locs 0 0 (zQi below D (zwX cI cS cW q) (zyX cI cS cW) A args s res S) (F0 m 67 ls []) := by
  have hx := C.1
  have hb := C.2.1
  unfold fX_X10_sum_67 at h
  refine lv_aload_n hx hb dX10_sum_67 rfl (lv_at hl 0 rfl) ?_
  obtain ⟨u1, e2, hh⟩ := zbd_s h
  clear h
  rcases z6 hj_j3 with rfl | rfl | rfl | rfl | rfl | rfl
  · have h := hh
    refine z_calli (va_runU (As := []) (rest := []) (z_fix C) (cX_X7_worstCall_Row l D cI cS cW q H.size   S (fX_d_worstCall_0.symm.trans e2)) (va_cwU 0 C.2.2.2.2.1 (zGU (x := ⟨"WhichShelf$Shelf", "worstCall", "()I"⟩) (owner := "WhichShelf$Shelf") zk30_9 zk29_19 zk30_1 zk29_21 zk3_13 zk29_22) rfl rfl rfl rfl ydu_X7_worstCall ⟨Nat.le_of_ble_eq_true rfl, Nat.le_of_ble_eq_true rfl⟩) (z_preV (zNmX hE) hE hH zX_o0 rfl) rfl rfl hl.1 rfl (lv_room (Nat.le_of_ble_eq_true rfl)) dX10_sum_68 ⟨Nat.le_refl 0, Nat.le_refl 0⟩) hE hH (fun H locs hH => ?_)
    exact bX_X10_sum_71 C hE   u1 S H locs ls hH (lv_sub hl [] rfl) h
  · have h := hh
    refine z_calli (va_runU (As := []) (rest := []) (z_fix C) (cX_X7_worstCall_Sorted l D cI cS cW q H.size   S (fX_d_worstCall_1.symm.trans e2)) (va_cwU 0 C.2.2.2.2.1 (zGU (x := ⟨"WhichShelf$Shelf", "worstCall", "()I"⟩) (owner := "WhichShelf$Shelf") zk30_9 zk29_19 zk30_2 zk29_21 zk3_13 zk29_22) rfl rfl rfl rfl ydu_X7_worstCall ⟨Nat.le_of_ble_eq_true rfl, Nat.le_of_ble_eq_true rfl⟩) (z_preV (zNmX hE) hE hH zX_o1 rfl) rfl rfl hl.1 rfl (lv_room (Nat.le_of_ble_eq_true rfl)) dX10_sum_68 ⟨Nat.le_refl 0, Nat.le_refl 0⟩) hE hH (fun H locs hH => ?_)
    exact bX_X10_sum_71 C hE   u1 S H locs ls hH (lv_sub hl [] rfl) h
  · have h := hh
    refine z_calli (va_runU (As := []) (rest := []) (z_fix C) (cX_X7_worstCall_Hash l D cI cS cW q H.size   S (fX_d_worstCall_2.symm.trans e2)) (va_cwU 0 C.2.2.2.2.1 (zGU (x := ⟨"WhichShelf$Shelf", "worstCall", "()I"⟩) (owner := "WhichShelf$Shelf") zk30_9 zk29_19 zk29_23 zk29_21 zk3_13 zk29_22) rfl rfl rfl rfl ydu_X7_worstCall ⟨Nat.le_of_ble_eq_true rfl, Nat.le_of_ble_eq_true rfl⟩) (z_preV (zNmX hE) hE hH zX_o2 rfl) rfl rfl hl.1 rfl (lv_room (Nat.le_of_ble_eq_true rfl)) dX10_sum_68 ⟨Nat.le_refl 0, Nat.le_refl 0⟩) hE hH (fun H locs hH => ?_)
    exact bX_X10_sum_71 C hE   u1 S H locs ls hH (lv_sub hl [] rfl) h
  · have h := hh
    refine z_calli (va_runU (As := []) (rest := []) (z_fix C) (cX_X7_worstCall_Tree l D cI cS cW q H.size   S (fX_d_worstCall_3.symm.trans e2)) (va_cwU 0 C.2.2.2.2.1 (zGU (x := ⟨"WhichShelf$Shelf", "worstCall", "()I"⟩) (owner := "WhichShelf$Shelf") zk30_9 zk29_19 zk30_3 zk29_21 zk3_13 zk29_22) rfl rfl rfl rfl ydu_X7_worstCall ⟨Nat.le_of_ble_eq_true rfl, Nat.le_of_ble_eq_true rfl⟩) (z_preV (zNmX hE) hE hH zX_o3 rfl) rfl rfl hl.1 rfl (lv_room (Nat.le_of_ble_eq_true rfl)) dX10_sum_68 ⟨Nat.le_refl 0, Nat.le_refl 0⟩) hE hH (fun H locs hH => ?_)
    exact bX_X10_sum_71 C hE   u1 S H locs ls hH (lv_sub hl [] rfl) h
  · have h := hh
    refine z_calli (va_runU (As := []) (rest := []) (z_fix C) (cX_X7_worstCall_Heap l D cI cS cW q H.size   S (fX_d_worstCall_4.symm.trans e2)) (va_cwU 0 C.2.2.2.2.1 (zGU (x := ⟨"WhichShelf$Shelf", "worstCall", "()I"⟩) (owner := "WhichShelf$Shelf") zk30_9 zk29_19 zk30_0 zk29_21 zk3_13 zk29_22) rfl rfl rfl rfl ydu_X7_worstCall ⟨Nat.le_of_ble_eq_true rfl, Nat.le_of_ble_eq_true rfl⟩) (z_preV (zNmX hE) hE hH zX_o4 rfl) rfl rfl hl.1 rfl (lv_room (Nat.le_of_ble_eq_true rfl)) dX10_sum_68 ⟨Nat.le_refl 0, Nat.le_refl 0⟩) hE hH (fun H locs hH => ?_)
    exact bX_X10_sum_71 C hE   u1 S H locs ls hH (lv_sub hl [] rfl) h
  · have h := hh
    refine z_calli (va_runU (As := []) (rest := []) (z_fix C) (cX_X7_worstCall_Bits l D cI cS cW q H.size   S (fX_d_worstCall_5.symm.trans e2)) (va_cwU 0 C.2.2.2.2.1 (zGU (x := ⟨"WhichShelf$Shelf", "worstCall", "()I"⟩) (owner := "WhichShelf$Shelf") zk30_9 zk29_19 zk29_20 zk29_21 zk3_13 zk29_22) rfl rfl rfl rfl ydu_X7_worstCall ⟨Nat.le_of_ble_eq_true rfl, Nat.le_of_ble_eq_true rfl⟩) (z_preV (zNmX hE) hE hH zX_o5 rfl) rfl rfl hl.1 rfl (lv_room (Nat.le_of_ble_eq_true rfl)) dX10_sum_68 ⟨Nat.le_refl 0, Nat.le_refl 0⟩) hE hH (fun H locs hH => ?_)
    exact bX_X10_sum_71 C hE   u1 S H locs ls hH (lv_sub hl [] rfl) h
set_option maxHeartbeats 4000000 in
set_option maxRecDepth 100000 in
theorem bX_X10_sum_76 {p : Program} {l : Launch} {e : Env} {s : State} {m : MethodId} {args : Array Value} {below : List Frame} {meth : Method} {c : Code} {D : va_G} {cI cS cW : ClassId} {q : Nat → Nat} {A : Nat → Prop} {res : Int32} (C : zCX p s m args meth c cX10_sum 4 (some .int) zU RX10) (hE : zE D (zyX cI cS cW) znX A s) (t0 : Int32) (S : zSt) (H : Heap) (locs : List Loc) (ls : Array Slot) (hH : zH D (zwX cI cS cW q) A s S H locs) (hl : lv_has ls 4 []) (h : fX_X10_sum_76  t0 S = some res) : W p l e rmX_X10_sum s m args below meth c H locs 0 0 (zQi below D (zwX cI cS cW q) (zyX cI cS cW) A args s res S) (F0 m 76 ls [.int t0]) := by
  have hx := C.1
  have hb := C.2.1
  unfold fX_X10_sum_76 at h
  cases h
  exact z_iret C hE hH dX10_sum_76
set_option maxHeartbeats 4000000 in
set_option maxRecDepth 100000 in
theorem bX_X10_sum_72 {p : Program} {l : Launch} {e : Env} {s : State} {m : MethodId} {args : Array Value} {below : List Frame} {meth : Method} {c : Code} {D : va_G} {cI cS cW : ClassId} {q : Nat → Nat} {A : Nat → Prop} {res : Int32} (C : zCX p s m args meth c cX10_sum 4 (some .int) zU RX10) (hE : zE D (zyX cI cS cW) znX A s) (j3 : Nat) (S : zSt) (H : Heap) (locs : List Loc) (ls : Array Slot) (hH : zH D (zwX cI cS cW q) A s S H locs) (hl : lv_has ls 4 [(3, .ref (q j3))]) (hj_j3 : j3 < 6) (h : fX_X10_sum_72  j3 S = some res) : W p l e rmX_X10_sum s m args below meth c H locs 0 0 (zQi below D (zwX cI cS cW q) (zyX cI cS cW) A args s res S) (F0 m 72 ls []) := by
  have hx := C.1
  have hb := C.2.1
  unfold fX_X10_sum_72 at h
  refine lv_aload_n hx hb dX10_sum_72 rfl (lv_at hl 0 rfl) ?_
  obtain ⟨u1, e2, hh⟩ := zbd_s h
  clear h
  rcases z6 hj_j3 with rfl | rfl | rfl | rfl | rfl | rfl
  · have h := hh
    refine z_calli (va_runU (As := []) (rest := []) (z_fix C) (cX_X7_greatestRoom_Row l D cI cS cW q H.size   S (fX_d_greatestRoom_0.symm.trans e2)) (va_cwU 0 C.2.2.2.2.1 (zGU (x := ⟨"WhichShelf$Shelf", "greatestRoom", "()I"⟩) (owner := "WhichShelf$Shelf") zk30_10 zk30_11 zk30_17 zk30_13 zk3_13 zk30_14) rfl rfl rfl rfl ydu_X7_greatestRoom ⟨Nat.le_of_ble_eq_true rfl, Nat.le_of_ble_eq_true rfl⟩) (z_preV (zNmX hE) hE hH zX_o0 rfl) rfl rfl hl.1 rfl (lv_room (Nat.le_of_ble_eq_true rfl)) dX10_sum_73 ⟨Nat.le_refl 0, Nat.le_refl 0⟩) hE hH (fun H locs hH => ?_)
    exact bX_X10_sum_76 C hE   u1 S H locs ls hH (lv_sub hl [] rfl) h
  · have h := hh
    refine z_calli (va_runU (As := []) (rest := []) (z_fix C) (cX_X7_greatestRoom_Sorted l D cI cS cW q H.size   S (fX_d_greatestRoom_1.symm.trans e2)) (va_cwU 0 C.2.2.2.2.1 (zGU (x := ⟨"WhichShelf$Shelf", "greatestRoom", "()I"⟩) (owner := "WhichShelf$Shelf") zk30_10 zk30_11 zk30_18 zk30_13 zk3_13 zk30_14) rfl rfl rfl rfl ydu_X7_greatestRoom ⟨Nat.le_of_ble_eq_true rfl, Nat.le_of_ble_eq_true rfl⟩) (z_preV (zNmX hE) hE hH zX_o1 rfl) rfl rfl hl.1 rfl (lv_room (Nat.le_of_ble_eq_true rfl)) dX10_sum_73 ⟨Nat.le_refl 0, Nat.le_refl 0⟩) hE hH (fun H locs hH => ?_)
    exact bX_X10_sum_76 C hE   u1 S H locs ls hH (lv_sub hl [] rfl) h
  · have h := hh
    refine z_calli (va_runU (As := []) (rest := []) (z_fix C) (cX_X7_greatestRoom_Hash l D cI cS cW q H.size   S (fX_d_greatestRoom_2.symm.trans e2)) (va_cwU 0 C.2.2.2.2.1 (zGU (x := ⟨"WhichShelf$Shelf", "greatestRoom", "()I"⟩) (owner := "WhichShelf$Shelf") zk30_10 zk30_11 zk30_15 zk30_13 zk3_13 zk30_14) rfl rfl rfl rfl ydu_X7_greatestRoom ⟨Nat.le_of_ble_eq_true rfl, Nat.le_of_ble_eq_true rfl⟩) (z_preV (zNmX hE) hE hH zX_o2 rfl) rfl rfl hl.1 rfl (lv_room (Nat.le_of_ble_eq_true rfl)) dX10_sum_73 ⟨Nat.le_refl 0, Nat.le_refl 0⟩) hE hH (fun H locs hH => ?_)
    exact bX_X10_sum_76 C hE   u1 S H locs ls hH (lv_sub hl [] rfl) h
  · have h := hh
    refine z_calli (va_runU (As := []) (rest := []) (z_fix C) (cX_X7_greatestRoom_Tree l D cI cS cW q H.size   S (fX_d_greatestRoom_3.symm.trans e2)) (va_cwU 0 C.2.2.2.2.1 (zGU (x := ⟨"WhichShelf$Shelf", "greatestRoom", "()I"⟩) (owner := "WhichShelf$Shelf") zk30_10 zk30_11 zk30_19 zk30_13 zk3_13 zk30_14) rfl rfl rfl rfl ydu_X7_greatestRoom ⟨Nat.le_of_ble_eq_true rfl, Nat.le_of_ble_eq_true rfl⟩) (z_preV (zNmX hE) hE hH zX_o3 rfl) rfl rfl hl.1 rfl (lv_room (Nat.le_of_ble_eq_true rfl)) dX10_sum_73 ⟨Nat.le_refl 0, Nat.le_refl 0⟩) hE hH (fun H locs hH => ?_)
    exact bX_X10_sum_76 C hE   u1 S H locs ls hH (lv_sub hl [] rfl) h
  · have h := hh
    refine z_calli (va_runU (As := []) (rest := []) (z_fix C) (cX_X7_greatestRoom_Heap l D cI cS cW q H.size   S (fX_d_greatestRoom_4.symm.trans e2)) (va_cwU 0 C.2.2.2.2.1 (zGU (x := ⟨"WhichShelf$Shelf", "greatestRoom", "()I"⟩) (owner := "WhichShelf$Shelf") zk30_10 zk30_11 zk30_16 zk30_13 zk3_13 zk30_14) rfl rfl rfl rfl ydu_X7_greatestRoom ⟨Nat.le_of_ble_eq_true rfl, Nat.le_of_ble_eq_true rfl⟩) (z_preV (zNmX hE) hE hH zX_o4 rfl) rfl rfl hl.1 rfl (lv_room (Nat.le_of_ble_eq_true rfl)) dX10_sum_73 ⟨Nat.le_refl 0, Nat.le_refl 0⟩) hE hH (fun H locs hH => ?_)
    exact bX_X10_sum_76 C hE   u1 S H locs ls hH (lv_sub hl [] rfl) h
  · have h := hh
    refine z_calli (va_runU (As := []) (rest := []) (z_fix C) (cX_X7_greatestRoom_Bits l D cI cS cW q H.size   S (fX_d_greatestRoom_5.symm.trans e2)) (va_cwU 0 C.2.2.2.2.1 (zGU (x := ⟨"WhichShelf$Shelf", "greatestRoom", "()I"⟩) (owner := "WhichShelf$Shelf") zk30_10 zk30_11 zk30_12 zk30_13 zk3_13 zk30_14) rfl rfl rfl rfl ydu_X7_greatestRoom ⟨Nat.le_of_ble_eq_true rfl, Nat.le_of_ble_eq_true rfl⟩) (z_preV (zNmX hE) hE hH zX_o5 rfl) rfl rfl hl.1 rfl (lv_room (Nat.le_of_ble_eq_true rfl)) dX10_sum_73 ⟨Nat.le_refl 0, Nat.le_refl 0⟩) hE hH (fun H locs hH => ?_)
    exact bX_X10_sum_76 C hE   u1 S H locs ls hH (lv_sub hl [] rfl) h
set_option maxHeartbeats 4000000 in
set_option maxRecDepth 100000 in
theorem bX_X10_sum_77 {p : Program} {l : Launch} {e : Env} {s : State} {m : MethodId} {args : Array Value} {below : List Frame} {meth : Method} {c : Code} {D : va_G} {cI cS cW : ClassId} {q : Nat → Nat} {A : Nat → Prop} {res : Int32} (C : zCX p s m args meth c cX10_sum 4 (some .int) zU RX10) (hE : zE D (zyX cI cS cW) znX A s) (x1 : Int32) (S : zSt) (H : Heap) (locs : List Loc) (ls : Array Slot) (hH : zH D (zwX cI cS cW q) A s S H locs) (hl : lv_has ls 4 [(0, .ref (q 6)), (1, .int x1)]) (h : fX_X10_sum_77  x1 S = some res) : W p l e rmX_X10_sum s m args below meth c H locs 0 0 (zQi below D (zwX cI cS cW q) (zyX cI cS cW) A args s res S) (F0 m 77 ls []) := by
  have hx := C.1
  have hb := C.2.1
  unfold fX_X10_sum_77 at h
  refine lv_aload_n hx hb dX10_sum_77 rfl (lv_at hl 0 rfl) ?_
  obtain ⟨u1, e2, h⟩ := zbd_s h
  refine z_calli (va_runV (As := []) (rest := []) (z_fix C) (cX_X10_offered l D cI cS cW q H.size   S e2) (cwV 0 C.2.2.2.2.1 (zGV zk30_20 zk30_21 zk30_22 zk1_2 zk30_23) rfl rfl rfl yd_X10_offered ⟨Nat.le_of_ble_eq_true rfl, Nat.le_of_ble_eq_true rfl⟩) (z_preV (zNmX hE) hE hH zX_o6 rfl) rfl rfl hl.1 rfl (lv_room (Nat.le_of_ble_eq_true rfl)) dX10_sum_78 ⟨Nat.le_refl 0, Nat.le_refl 0⟩) hE hH (fun H locs hH => ?_)
  refine lv_iload_n hx hb dX10_sum_81 rfl (lv_at hl 1 rfl) ?_
  obtain ⟨u3, e4, h⟩ := zbd_s h
  refine z_calli (va_runS (As := [.int u1, .int x1]) (rest := []) (z_fix C) (cX_X10_isIn l D cI cS cW q H.size  u1 x1 S e4) (va_cwS 2 C.2.2.2.2.1 (zGS zk31_4 zk31_5 zk1_2 zk31_6) rfl rfl rfl yd_X10_isIn ⟨Nat.le_of_ble_eq_true rfl, Nat.le_of_ble_eq_true rfl⟩) (z_preS (zNmX hE) hE hH) rfl rfl hl.1 rfl (lv_room (Nat.le_of_ble_eq_true rfl)) dX10_sum_82 ⟨Nat.le_refl 0, Nat.le_refl 0⟩) hE hH (fun H locs hH => ?_)
  refine lv_if_eq (tgt := 92) hx hb dX10_sum_85 (by decide) (fun c5 => ?_) (fun c5 => ?_)
  · replace h := zif_t c5 h
    refine lv_iconst (v := 0) hx hb dX10_sum_92 (by decide) ?_
    cases h
    exact z_iret C hE hH dX10_sum_93
  · replace h := zif_f c5 h
    refine lv_iconst (v := 1) hx hb dX10_sum_88 (by decide) ?_
    refine lv_goto (tgt := 93) hx hb dX10_sum_89 (by decide) ?_
    cases h
    exact z_iret C hE hH dX10_sum_93
set_option maxHeartbeats 4000000 in
set_option maxRecDepth 100000 in
theorem bX_X10_sum_98 {p : Program} {l : Launch} {e : Env} {s : State} {m : MethodId} {args : Array Value} {below : List Frame} {meth : Method} {c : Code} {D : va_G} {cI cS cW : ClassId} {q : Nat → Nat} {A : Nat → Prop} {res : Int32} (C : zCX p s m args meth c cX10_sum 4 (some .int) zU RX10) (hE : zE D (zyX cI cS cW) znX A s) (t0 : Int32) (S : zSt) (H : Heap) (locs : List Loc) (ls : Array Slot) (hH : zH D (zwX cI cS cW q) A s S H locs) (hl : lv_has ls 4 []) (h : fX_X10_sum_98  t0 S = some res) : W p l e rmX_X10_sum s m args below meth c H locs 0 0 (zQi below D (zwX cI cS cW q) (zyX cI cS cW) A args s res S) (F0 m 98 ls [.int t0]) := by
  have hx := C.1
  have hb := C.2.1
  unfold fX_X10_sum_98 at h
  cases h
  exact z_iret C hE hH dX10_sum_98
set_option maxHeartbeats 4000000 in
set_option maxRecDepth 100000 in
theorem bX_X10_sum_94 {p : Program} {l : Launch} {e : Env} {s : State} {m : MethodId} {args : Array Value} {below : List Frame} {meth : Method} {c : Code} {D : va_G} {cI cS cW : ClassId} {q : Nat → Nat} {A : Nat → Prop} {res : Int32} (C : zCX p s m args meth c cX10_sum 4 (some .int) zU RX10) (hE : zE D (zyX cI cS cW) znX A s) (j3 : Nat) (S : zSt) (H : Heap) (locs : List Loc) (ls : Array Slot) (hH : zH D (zwX cI cS cW q) A s S H locs) (hl : lv_has ls 4 [(3, .ref (q j3))]) (hj_j3 : j3 < 6) (h : fX_X10_sum_94  j3 S = some res) : W p l e rmX_X10_sum s m args below meth c H locs 0 0 (zQi below D (zwX cI cS cW q) (zyX cI cS cW) A args s res S) (F0 m 94 ls []) := by
  have hx := C.1
  have hb := C.2.1
  unfold fX_X10_sum_94 at h
  refine lv_aload_n hx hb dX10_sum_94 rfl (lv_at hl 0 rfl) ?_
  obtain ⟨u1, e2, hh⟩ := zbd_s h
  clear h
  rcases z6 hj_j3 with rfl | rfl | rfl | rfl | rfl | rfl
  · have h := hh
    refine z_calli (va_runU (As := []) (rest := []) (z_fix C) (cX_X4_room_Row l D cI cS cW q H.size   S (fX_d_room_0.symm.trans e2)) (va_cwA 0 C.2.2.2.2.1 (zGU (x := ⟨"WhichShelf$Shelf", "room", "()I"⟩) (owner := "WhichShelf$Shelf") zk31_7 zk16_17 zk17_3 zk17_1 zk3_6 zk17_2) rfl rfl rfl ((hE.2.2 _ znX_3).2) ydu_X7_room ⟨Nat.le_of_ble_eq_true rfl, Nat.le_of_ble_eq_true rfl⟩) (z_preV (zNmX hE) hE hH zX_o0 rfl) rfl rfl hl.1 rfl (lv_room (Nat.le_of_ble_eq_true rfl)) dX10_sum_95 ⟨Nat.le_refl 0, Nat.le_refl 0⟩) hE hH (fun H locs hH => ?_)
    exact bX_X10_sum_98 C hE   u1 S H locs ls hH (lv_sub hl [] rfl) h
  · have h := hh
    refine z_calli (va_runU (As := []) (rest := []) (z_fix C) (cX_X4_room_Sorted l D cI cS cW q H.size   S (fX_d_room_1.symm.trans e2)) (va_cwA 0 C.2.2.2.2.1 (zGU (x := ⟨"WhichShelf$Shelf", "room", "()I"⟩) (owner := "WhichShelf$Shelf") zk31_7 zk16_17 zk17_4 zk17_1 zk3_6 zk17_2) rfl rfl rfl ((hE.2.2 _ znX_3).2) ydu_X7_room ⟨Nat.le_of_ble_eq_true rfl, Nat.le_of_ble_eq_true rfl⟩) (z_preV (zNmX hE) hE hH zX_o1 rfl) rfl rfl hl.1 rfl (lv_room (Nat.le_of_ble_eq_true rfl)) dX10_sum_95 ⟨Nat.le_refl 0, Nat.le_refl 0⟩) hE hH (fun H locs hH => ?_)
    exact bX_X10_sum_98 C hE   u1 S H locs ls hH (lv_sub hl [] rfl) h
  · have h := hh
    refine z_calli (va_runU (As := []) (rest := []) (z_fix C) (cX_X2_room l D cI cS cW q H.size   S (fX_d_room_2.symm.trans e2)) (va_cwA 0 C.2.2.2.2.1 (zGU (x := ⟨"WhichShelf$Shelf", "room", "()I"⟩) (owner := "WhichShelf$Shelf") zk31_7 zk16_17 zk16_21 zk16_22 zk1_23 zk16_23) rfl rfl rfl ((hE.2.2 _ znX_3).2) ydu_X7_room ⟨Nat.le_of_ble_eq_true rfl, Nat.le_of_ble_eq_true rfl⟩) (z_preV (zNmX hE) hE hH zX_o2 rfl) rfl rfl hl.1 rfl (lv_room (Nat.le_of_ble_eq_true rfl)) dX10_sum_95 ⟨Nat.le_refl 0, Nat.le_refl 0⟩) hE hH (fun H locs hH => ?_)
    exact bX_X10_sum_98 C hE   u1 S H locs ls hH (lv_sub hl [] rfl) h
  · have h := hh
    refine z_calli (va_runU (As := []) (rest := []) (z_fix C) (cX_X9_room l D cI cS cW q H.size   S (fX_d_room_3.symm.trans e2)) (va_cwA 0 C.2.2.2.2.1 (zGU (x := ⟨"WhichShelf$Shelf", "room", "()I"⟩) (owner := "WhichShelf$Shelf") zk31_7 zk16_17 zk17_5 zk17_6 zk2_2 zk17_7) rfl rfl rfl ((hE.2.2 _ znX_3).2) ydu_X7_room ⟨Nat.le_of_ble_eq_true rfl, Nat.le_of_ble_eq_true rfl⟩) (z_preV (zNmX hE) hE hH zX_o3 rfl) rfl rfl hl.1 rfl (lv_room (Nat.le_of_ble_eq_true rfl)) dX10_sum_95 ⟨Nat.le_refl 0, Nat.le_refl 0⟩) hE hH (fun H locs hH => ?_)
    exact bX_X10_sum_98 C hE   u1 S H locs ls hH (lv_sub hl [] rfl) h
  · have h := hh
    refine z_calli (va_runU (As := []) (rest := []) (z_fix C) (cX_X4_room_Heap l D cI cS cW q H.size   S (fX_d_room_4.symm.trans e2)) (va_cwA 0 C.2.2.2.2.1 (zGU (x := ⟨"WhichShelf$Shelf", "room", "()I"⟩) (owner := "WhichShelf$Shelf") zk31_7 zk16_17 zk17_0 zk17_1 zk3_6 zk17_2) rfl rfl rfl ((hE.2.2 _ znX_3).2) ydu_X7_room ⟨Nat.le_of_ble_eq_true rfl, Nat.le_of_ble_eq_true rfl⟩) (z_preV (zNmX hE) hE hH zX_o4 rfl) rfl rfl hl.1 rfl (lv_room (Nat.le_of_ble_eq_true rfl)) dX10_sum_95 ⟨Nat.le_refl 0, Nat.le_refl 0⟩) hE hH (fun H locs hH => ?_)
    exact bX_X10_sum_98 C hE   u1 S H locs ls hH (lv_sub hl [] rfl) h
  · have h := hh
    refine z_calli (va_runU (As := []) (rest := []) (z_fix C) (cX_X0_room l D cI cS cW q H.size   S (fX_d_room_5.symm.trans e2)) (va_cwA 0 C.2.2.2.2.1 (zGU (x := ⟨"WhichShelf$Shelf", "room", "()I"⟩) (owner := "WhichShelf$Shelf") zk31_7 zk16_17 zk16_18 zk16_19 zk2_8 zk16_20) rfl rfl rfl ((hE.2.2 _ znX_3).2) ydu_X7_room ⟨Nat.le_of_ble_eq_true rfl, Nat.le_of_ble_eq_true rfl⟩) (z_preV (zNmX hE) hE hH zX_o5 rfl) rfl rfl hl.1 rfl (lv_room (Nat.le_of_ble_eq_true rfl)) dX10_sum_95 ⟨Nat.le_refl 0, Nat.le_refl 0⟩) hE hH (fun H locs hH => ?_)
    exact bX_X10_sum_98 C hE   u1 S H locs ls hH (lv_sub hl [] rfl) h
set_option maxHeartbeats 4000000 in
set_option maxRecDepth 100000 in
theorem bX_X10_sum_99 {p : Program} {l : Launch} {e : Env} {s : State} {m : MethodId} {args : Array Value} {below : List Frame} {meth : Method} {c : Code} {D : va_G} {cI cS cW : ClassId} {q : Nat → Nat} {A : Nat → Prop} {res : Int32} (C : zCX p s m args meth c cX10_sum 4 (some .int) zU RX10) (hE : zE D (zyX cI cS cW) znX A s) (S : zSt) (H : Heap) (locs : List Loc) (ls : Array Slot) (hH : zH D (zwX cI cS cW q) A s S H locs) (hl : lv_has ls 4 []) (h : fX_X10_sum_99   S = some res) : W p l e rmX_X10_sum s m args below meth c H locs 0 0 (zQi below D (zwX cI cS cW q) (zyX cI cS cW) A args s res S) (F0 m 99 ls []) := by
  have hx := C.1
  have hb := C.2.1
  unfold fX_X10_sum_99 at h
  refine lv_iconst (v := (-1)) hx hb dX10_sum_99 (by decide) ?_
  cases h
  exact z_iret C hE hH dX10_sum_100
set_option maxHeartbeats 4000000 in
set_option maxRecDepth 100000 in
theorem bX_X10_sum_15 {p : Program} {l : Launch} {e : Env} {s : State} {m : MethodId} {args : Array Value} {below : List Frame} {meth : Method} {c : Code} {D : va_G} {cI cS cW : ClassId} {q : Nat → Nat} {A : Nat → Prop} {res : Int32} (C : zCX p s m args meth c cX10_sum 4 (some .int) zU RX10) (hE : zE D (zyX cI cS cW) znX A s) (k0 : Nat) (x1 x2 : Int32) (S : zSt) (H : Heap) (locs : List Loc) (ls : Array Slot) (hH : zH D (zwX cI cS cW q) A s S H locs) (hl : lv_has ls 4 [(0, .ref (q 6)), (1, .int x1), (2, .int x2)]) (hj_k0 : k0 < 6) (h : fX_X10_sum_15  k0 x1 x2 S = some res) : W p l e rmX_X10_sum s m args below meth c H locs 0 0 (zQi below D (zwX cI cS cW q) (zyX cI cS cW) A args s res S) (F0 m 15 ls [.ref (q k0)]) := by
  have hx := C.1
  have hb := C.2.1
  unfold fX_X10_sum_15 at h
  refine lv_astore_n (lv' := [(3, .ref (q k0)), (0, .ref (q 6)), (1, .int x1), (2, .int x2)]) hx hb dX10_sum_15 rfl hl (by decide) rfl (fun ls hl => ?_)
  refine lv_iload_n hx hb dX10_sum_16 rfl (lv_at hl 3 rfl) ?_
  by_cases c1_0 : x2 = 0
  · replace h := zif_t c1_0 h
    refine lv_tableIn (tgt := 56) hx hb dX10_sum_17 (by rw [c1_0]; decide) (by rw [c1_0]; decide) (by rw [c1_0]; rfl) (by decide) ?_
    exact bX_X10_sum_56 C hE   k0 S H locs ls hH (lv_sub hl [0] rfl) (hj_k0) h
  · replace h := zif_f c1_0 h
    by_cases c1_1 : x2 = 1
    · replace h := zif_t c1_1 h
      refine lv_tableIn (tgt := 62) hx hb dX10_sum_17 (by rw [c1_1]; decide) (by rw [c1_1]; decide) (by rw [c1_1]; rfl) (by decide) ?_
      exact bX_X10_sum_62 C hE   k0 S H locs ls hH (lv_sub hl [0] rfl) (hj_k0) h
    · replace h := zif_f c1_1 h
      by_cases c1_2 : x2 = 2
      · replace h := zif_t c1_2 h
        refine lv_tableIn (tgt := 67) hx hb dX10_sum_17 (by rw [c1_2]; decide) (by rw [c1_2]; decide) (by rw [c1_2]; rfl) (by decide) ?_
        exact bX_X10_sum_67 C hE   k0 S H locs ls hH (lv_sub hl [0] rfl) (hj_k0) h
      · replace h := zif_f c1_2 h
        by_cases c1_3 : x2 = 3
        · replace h := zif_t c1_3 h
          refine lv_tableIn (tgt := 72) hx hb dX10_sum_17 (by rw [c1_3]; decide) (by rw [c1_3]; decide) (by rw [c1_3]; rfl) (by decide) ?_
          exact bX_X10_sum_72 C hE   k0 S H locs ls hH (lv_sub hl [0] rfl) (hj_k0) h
        · replace h := zif_f c1_3 h
          by_cases c1_4 : x2 = 4
          · replace h := zif_t c1_4 h
            refine lv_tableIn (tgt := 77) hx hb dX10_sum_17 (by rw [c1_4]; decide) (by rw [c1_4]; decide) (by rw [c1_4]; rfl) (by decide) ?_
            exact bX_X10_sum_77 C hE   x1 S H locs ls hH (lv_sub hl [1, 2] rfl) h
          · replace h := zif_f c1_4 h
            by_cases c1_5 : x2 = 5
            · replace h := zif_t c1_5 h
              refine lv_tableIn (tgt := 94) hx hb dX10_sum_17 (by rw [c1_5]; decide) (by rw [c1_5]; decide) (by rw [c1_5]; rfl) (by decide) ?_
              exact bX_X10_sum_94 C hE   k0 S H locs ls hH (lv_sub hl [0] rfl) (hj_k0) h
            · replace h := zif_f c1_5 h
              have ec1_0 : ¬ (x2).toInt = 0 := zsw_ne c1_0
              have ec1_1 : ¬ (x2).toInt = 1 := zsw_ne c1_1
              have ec1_2 : ¬ (x2).toInt = 2 := zsw_ne c1_2
              have ec1_3 : ¬ (x2).toInt = 3 := zsw_ne c1_3
              have ec1_4 : ¬ (x2).toInt = 4 := zsw_ne c1_4
              have ec1_5 : ¬ (x2).toInt = 5 := zsw_ne c1_5
              refine lv_tableOut (tgt := 99) hx hb dX10_sum_17 (by omega) (by decide) ?_
              exact bX_X10_sum_99 C hE   S H locs ls hH (lv_sub hl [] rfl) h
set_option maxHeartbeats 4000000 in
set_option maxRecDepth 100000 in
theorem bX_X10_sum {p : Program} {l : Launch} {e : Env} {s : State} {m : MethodId} {args : Array Value} {below : List Frame} {meth : Method} {c : Code} {D : va_G} {cI cS cW : ClassId} {q : Nat → Nat} {A : Nat → Prop} {res : Int32} (C : zCX p s m args meth c cX10_sum 4 (some .int) zU RX10) (hE : zE D (zyX cI cS cW) znX A s) (x1 x2 : Int32) (S : zSt) (H : Heap) (locs : List Loc) (ls : Array Slot) (hH : zH D (zwX cI cS cW q) A s S H locs) (hl : lv_has ls 4 [(0, .ref (q 6)), (1, .int x1), (2, .int x2)]) (h : fX_X10_sum  x1 x2 S = some res) : W p l e rmX_X10_sum s m args below meth c H locs 0 0 (zQi below D (zwX cI cS cW q) (zyX cI cS cW) A args s res S) (F0 m 0 ls []) := by
  have hx := C.1
  have hb := C.2.1
  unfold fX_X10_sum at h
  refine lv_iload_n hx hb dX10_sum_0 rfl (lv_at hl 1 rfl) ?_
  obtain ⟨u1, e2, h⟩ := zbd_s h
  refine z_calli (va_runS (As := [.int x1]) (rest := []) (z_fix C) (cX_X10_isShelf l D cI cS cW q H.size  x1 S e2) (va_cwS 1 C.2.2.2.2.1 (zGS zk27_10 zk27_11 zk1_2 zk27_12) rfl rfl rfl yd_X10_isShelf ⟨Nat.le_of_ble_eq_true rfl, Nat.le_of_ble_eq_true rfl⟩) (z_preS (zNmX hE) hE hH) rfl rfl hl.1 rfl (lv_room (Nat.le_of_ble_eq_true rfl)) dX10_sum_1 ⟨Nat.le_refl 0, Nat.le_refl 0⟩) hE hH (fun H locs hH => ?_)
  refine lv_if_ne (tgt := 9) hx hb dX10_sum_4 (by decide) (fun c3 => ?_) (fun c3 => ?_)
  · replace h := zif_f c3 h
    refine lv_aload_n hx hb dX10_sum_9 rfl (lv_at hl 0 rfl) ?_
    refine z_get C hE hH zX_o6 rfl zh_X10 1 (by decide) zk2_9 (fun _ h9 => h9) (v := .ref (q 8)) rfl dX10_sum_10 ?_
    refine lv_iload_n hx hb dX10_sum_13 rfl (lv_at hl 1 rfl) ?_
    obtain ⟨g4, h⟩ := zgd_s h
    refine z_aldq C hE hH zX_sh (t0 := 1) rfl g4 dX10_sum_14 ?_
    exact bX_X10_sum_15 C hE   x1.toNatClampNeg x1 x2 S H locs ls hH (lv_sub hl [0, 1, 2] rfl) (zin_lt g4) h
  · replace h := zif_t c3 h
    refine lv_iconst (v := (-1)) hx hb dX10_sum_7 (by decide) ?_
    cases h
    exact z_iret C hE hH dX10_sum_8
set_option maxHeartbeats 4000000 in
set_option maxRecDepth 100000 in
theorem cX_X10_sum (l : Launch) (D : va_G) (cI cS cW : ClassId) (q : Nat → Nat) (sz : Nat) (x1 : Int32) (x2 : Int32) (S : zSt) {res : Int32} (h : fX_X10_sum x1 x2 S = some res) : zMi l yX10_sum vsX10_sum rmX_X10_sum [.ref (q 6), .int x1, .int x2] D (zwX cI cS cW q) (zyX cI cS cW) znX sz S res S := by
  refine Met.ofW (cc := cX10_sum) (maxL := 4) (ret := (some .int)) (by decide) rfl ?_
  intro p e s m args below meth c s₁ B hml hv
  obtain ⟨rfl, rfl, hP, hK, hD0, hN⟩ := hv
  have hl := lv_entry ([.ref (q 6), .int x1, .int x2]) (n := 4) (Nat.le_of_ble_eq_true rfl)
  rw [lg_entry_eq]
  generalize (lg_sl ([.ref (q 6), .int x1, .int x2]) ++ List.replicate (4 - (lg_sl ([.ref (q 6), .int x1, .int x2])).length) Slot.unset).toArray = ls at hl ⊢
  exact bX_X10_sum ⟨B.exec, B.bytes, hml, findClass_of_methodNamed B.named, fun w h => atoms_spec (ws := vsX10_sum) B.pre w (List.mem_cons_of_mem _ h), B.returns, B.notSynchronized⟩ ⟨hK, fun q h => Or.inr h, hN⟩ x1 x2 S s.heap [] ls ⟨hP, hD0.self, va_S.rf⟩ hl  h
def rmX_X10_cheapestSince : Room := { frames := 2, cells := 0, slots := 0, locals := 36 }
set_option maxHeartbeats 4000000 in
set_option maxRecDepth 100000 in
theorem bX_X10_cheapestSince_49 {p : Program} {l : Launch} {e : Env} {s : State} {m : MethodId} {args : Array Value} {below : List Frame} {meth : Method} {c : Code} {D : va_G} {cI cS cW : ClassId} {q : Nat → Nat} {A : Nat → Prop} {res : Int32} (C : zCX p s m args meth c cX10_cheapestSince 7 (some .int) zU RX10) (hE : zE D (zyX cI cS cW) znX A s) (K8 : (Int32 → Int32 → Int32 → Int32 → Int32 → zSt → Option (Int32))) (hK8 : ∀ (x1 x2 x3 x4 x5 : Int32) (S : zSt) (H : Heap) (locs : List Loc) (ls : Array Slot), zH D (zwX cI cS cW q) A s S H locs → lv_has ls 7 [(0, .ref (q 6)), (1, .int x1), (2, .int x2), (3, .int x3), (4, .int x4), (5, .int x5)] → K8 x1 x2 x3 x4 x5 S = some res → W p l e rmX_X10_cheapestSince s m args below meth c H locs 0 0 (zQi below D (zwX cI cS cW q) (zyX cI cS cW) A args s res S) (F0 m 8 ls [])) (x1 x2 x5 x6 : Int32) (S : zSt) (H : Heap) (locs : List Loc) (ls : Array Slot) (hH : zH D (zwX cI cS cW q) A s S H locs) (hl : lv_has ls 7 [(0, .ref (q 6)), (1, .int x1), (2, .int x2), (5, .int x5), (6, .int x6)]) (h : fX_X10_cheapestSince_49 K8 x1 x2 x5 x6 S = some res) : W p l e rmX_X10_cheapestSince s m args below meth c H locs 0 0 (zQi below D (zwX cI cS cW q) (zyX cI cS cW) A args s res S) (F0 m 49 ls []) := by
  have hx := C.1
  have hb := C.2.1
  unfold fX_X10_cheapestSince_49 at h
  refine lv_iload hx hb dX10_cheapestSince_49 (lv_at hl 3 rfl) ?_
  refine lv_istore_n (lv' := [(3, .int x5), (0, .ref (q 6)), (1, .int x1), (2, .int x2), (5, .int x5), (6, .int x6)]) hx hb dX10_cheapestSince_51 rfl hl (by decide) rfl (fun ls hl => ?_)
  refine lv_iload hx hb dX10_cheapestSince_52 (lv_at hl 5 rfl) ?_
  refine lv_istore (lv' := [(4, .int x6), (3, .int x5), (0, .ref (q 6)), (1, .int x1), (2, .int x2), (5, .int x5), (6, .int x6)]) hx hb dX10_cheapestSince_54 hl (by decide) rfl (fun ls hl => ?_)
  refine lv_iinc (v := (x5 + 1)) (lv' := [(5, .int (x5 + 1)), (4, .int x6), (3, .int x5), (0, .ref (q 6)), (1, .int x1), (2, .int x2), (6, .int x6)]) hx hb dX10_cheapestSince_56 hl (k := 5) rfl rfl (by decide) rfl (fun ls hl => ?_)
  refine lv_goto (tgt := 8) hx hb dX10_cheapestSince_59 (by decide) ?_
  exact hK8 x1 x2 x5 x6 (x5 + 1) S H locs ls hH (lv_sub hl [3, 4, 5, 2, 1, 0] rfl) h
set_option maxHeartbeats 4000000 in
set_option maxRecDepth 100000 in
theorem bX_X10_cheapestSince_35 {p : Program} {l : Launch} {e : Env} {s : State} {m : MethodId} {args : Array Value} {below : List Frame} {meth : Method} {c : Code} {D : va_G} {cI cS cW : ClassId} {q : Nat → Nat} {A : Nat → Prop} {res : Int32} (C : zCX p s m args meth c cX10_cheapestSince 7 (some .int) zU RX10) (hE : zE D (zyX cI cS cW) znX A s) (K8 : (Int32 → Int32 → Int32 → Int32 → Int32 → zSt → Option (Int32))) (hK8 : ∀ (x1 x2 x3 x4 x5 : Int32) (S : zSt) (H : Heap) (locs : List Loc) (ls : Array Slot), zH D (zwX cI cS cW q) A s S H locs → lv_has ls 7 [(0, .ref (q 6)), (1, .int x1), (2, .int x2), (3, .int x3), (4, .int x4), (5, .int x5)] → K8 x1 x2 x3 x4 x5 S = some res → W p l e rmX_X10_cheapestSince s m args below meth c H locs 0 0 (zQi below D (zwX cI cS cW q) (zyX cI cS cW) A args s res S) (F0 m 8 ls [])) (x1 x2 x3 x4 x5 t0 : Int32) (S : zSt) (H : Heap) (locs : List Loc) (ls : Array Slot) (hH : zH D (zwX cI cS cW q) A s S H locs) (hl : lv_has ls 7 [(0, .ref (q 6)), (1, .int x1), (2, .int x2), (3, .int x3), (4, .int x4), (5, .int x5)]) (h : fX_X10_cheapestSince_35 K8 x1 x2 x3 x4 x5 t0 S = some res) : W p l e rmX_X10_cheapestSince s m args below meth c H locs 0 0 (zQi below D (zwX cI cS cW q) (zyX cI cS cW) A args s res S) (F0 m 35 ls [.int t0]) := by
  have hx := C.1
  have hb := C.2.1
  unfold fX_X10_cheapestSince_35 at h
  refine lv_istore (lv' := [(6, .int t0), (0, .ref (q 6)), (1, .int x1), (2, .int x2), (3, .int x3), (4, .int x4), (5, .int x5)]) hx hb dX10_cheapestSince_35 hl (by decide) rfl (fun ls hl => ?_)
  refine lv_iload_n hx hb dX10_cheapestSince_37 rfl (lv_at hl 4 rfl) ?_
  refine lv_iconst (v := (-1)) hx hb dX10_cheapestSince_38 (by decide) ?_
  refine lv_icmp_eq (tgt := 49) hx hb dX10_cheapestSince_39 (by decide) (fun c1 => ?_) (fun c1 => ?_)
  · replace h := zif_t c1 h
    exact bX_X10_cheapestSince_49 C hE K8 hK8 x1 x2 x5 t0 S H locs ls hH (lv_sub hl [1, 2, 3, 6, 0] rfl) h
  · replace h := zif_f c1 h
    refine lv_iload hx hb dX10_cheapestSince_42 (lv_at hl 0 rfl) ?_
    refine lv_iload hx hb dX10_cheapestSince_44 (lv_at hl 5 rfl) ?_
    refine lv_icmp_ge (tgt := 56) hx hb dX10_cheapestSince_46 (by decide) (fun c2 => ?_) (fun c2 => ?_)
    · replace h := zif_t c2 h
      refine lv_iinc (v := (x5 + 1)) (lv' := [(5, .int (x5 + 1)), (6, .int t0), (0, .ref (q 6)), (1, .int x1), (2, .int x2), (3, .int x3), (4, .int x4)]) hx hb dX10_cheapestSince_56 hl (k := 6) rfl rfl (by decide) rfl (fun ls hl => ?_)
      refine lv_goto (tgt := 8) hx hb dX10_cheapestSince_59 (by decide) ?_
      exact hK8 x1 x2 x3 x4 (x5 + 1) S H locs ls hH (lv_sub hl [2, 3, 4, 5, 6, 0] rfl) h
    · replace h := zif_f c2 h
      exact bX_X10_cheapestSince_49 C hE K8 hK8 x1 x2 x5 t0 S H locs ls hH (lv_sub hl [1, 2, 3, 6, 0] rfl) h
set_option maxHeartbeats 4000000 in
set_option maxRecDepth 100000 in
theorem bX_X10_cheapestSince_31 {p : Program} {l : Launch} {e : Env} {s : State} {m : MethodId} {args : Array Value} {below : List Frame} {meth : Method} {c : Code} {D : va_G} {cI cS cW : ClassId} {q : Nat → Nat} {A : Nat → Prop} {res : Int32} (C : zCX p s m args meth c cX10_cheapestSince 7 (some .int) zU RX10) (hE : zE D (zyX cI cS cW) znX A s) (K8 : (Int32 → Int32 → Int32 → Int32 → Int32 → zSt → Option (Int32))) (hK8 : ∀ (x1 x2 x3 x4 x5 : Int32) (S : zSt) (H : Heap) (locs : List Loc) (ls : Array Slot), zH D (zwX cI cS cW q) A s S H locs → lv_has ls 7 [(0, .ref (q 6)), (1, .int x1), (2, .int x2), (3, .int x3), (4, .int x4), (5, .int x5)] → K8 x1 x2 x3 x4 x5 S = some res → W p l e rmX_X10_cheapestSince s m args below meth c H locs 0 0 (zQi below D (zwX cI cS cW q) (zyX cI cS cW) A args s res S) (F0 m 8 ls [])) (k0 : Nat) (x1 x2 x3 x4 x5 : Int32) (S : zSt) (H : Heap) (locs : List Loc) (ls : Array Slot) (hH : zH D (zwX cI cS cW q) A s S H locs) (hl : lv_has ls 7 [(0, .ref (q 6)), (1, .int x1), (2, .int x2), (3, .int x3), (4, .int x4), (5, .int x5)]) (hj_k0 : k0 < 6) (h : fX_X10_cheapestSince_31 K8 k0 x1 x2 x3 x4 x5 S = some res) : W p l e rmX_X10_cheapestSince s m args below meth c H locs 0 0 (zQi below D (zwX cI cS cW q) (zyX cI cS cW) A args s res S) (F0 m 31 ls [.ref (q k0)]) := by
  have hx := C.1
  have hb := C.2.1
  unfold fX_X10_cheapestSince_31 at h
  refine lv_iload_n hx hb dX10_cheapestSince_31 rfl (lv_at hl 1 rfl) ?_
  obtain ⟨u1, e2, hh⟩ := zbd_s h
  clear h
  rcases z6 hj_k0 with rfl | rfl | rfl | rfl | rfl | rfl
  · have h := hh
    refine z_calli (va_runU (As := [.int x1]) (rest := []) (z_fix C) (cX_X7_stepsSince_Row l D cI cS cW q H.size  x1 S (fX_d_stepsSince_0.symm.trans e2)) (va_cwU 1 C.2.2.2.2.1 (zGU (x := ⟨"WhichShelf$Shelf", "stepsSince", "(I)I"⟩) (owner := "WhichShelf$Shelf") zk29_2 zk29_3 zk29_10 zk29_5 zk3_13 zk29_6) rfl rfl rfl rfl ydu_X7_stepsSince ⟨Nat.le_of_ble_eq_true rfl, Nat.le_of_ble_eq_true rfl⟩) (z_preV (zNmX hE) hE hH zX_o0 rfl) rfl rfl hl.1 rfl (lv_room (Nat.le_of_ble_eq_true rfl)) dX10_cheapestSince_32 ⟨Nat.le_refl 0, Nat.le_refl 0⟩) hE hH (fun H locs hH => ?_)
    exact bX_X10_cheapestSince_35 C hE K8 hK8 x1 x2 x3 x4 x5 u1 S H locs ls hH (lv_sub hl [0, 1, 2, 3, 4, 5] rfl) h
  · have h := hh
    refine z_calli (va_runU (As := [.int x1]) (rest := []) (z_fix C) (cX_X7_stepsSince_Sorted l D cI cS cW q H.size  x1 S (fX_d_stepsSince_1.symm.trans e2)) (va_cwU 1 C.2.2.2.2.1 (zGU (x := ⟨"WhichShelf$Shelf", "stepsSince", "(I)I"⟩) (owner := "WhichShelf$Shelf") zk29_2 zk29_3 zk29_11 zk29_5 zk3_13 zk29_6) rfl rfl rfl rfl ydu_X7_stepsSince ⟨Nat.le_of_ble_eq_true rfl, Nat.le_of_ble_eq_true rfl⟩) (z_preV (zNmX hE) hE hH zX_o1 rfl) rfl rfl hl.1 rfl (lv_room (Nat.le_of_ble_eq_true rfl)) dX10_cheapestSince_32 ⟨Nat.le_refl 0, Nat.le_refl 0⟩) hE hH (fun H locs hH => ?_)
    exact bX_X10_cheapestSince_35 C hE K8 hK8 x1 x2 x3 x4 x5 u1 S H locs ls hH (lv_sub hl [0, 1, 2, 3, 4, 5] rfl) h
  · have h := hh
    refine z_calli (va_runU (As := [.int x1]) (rest := []) (z_fix C) (cX_X7_stepsSince_Hash l D cI cS cW q H.size  x1 S (fX_d_stepsSince_2.symm.trans e2)) (va_cwU 1 C.2.2.2.2.1 (zGU (x := ⟨"WhichShelf$Shelf", "stepsSince", "(I)I"⟩) (owner := "WhichShelf$Shelf") zk29_2 zk29_3 zk29_8 zk29_5 zk3_13 zk29_6) rfl rfl rfl rfl ydu_X7_stepsSince ⟨Nat.le_of_ble_eq_true rfl, Nat.le_of_ble_eq_true rfl⟩) (z_preV (zNmX hE) hE hH zX_o2 rfl) rfl rfl hl.1 rfl (lv_room (Nat.le_of_ble_eq_true rfl)) dX10_cheapestSince_32 ⟨Nat.le_refl 0, Nat.le_refl 0⟩) hE hH (fun H locs hH => ?_)
    exact bX_X10_cheapestSince_35 C hE K8 hK8 x1 x2 x3 x4 x5 u1 S H locs ls hH (lv_sub hl [0, 1, 2, 3, 4, 5] rfl) h
  · have h := hh
    refine z_calli (va_runU (As := [.int x1]) (rest := []) (z_fix C) (cX_X7_stepsSince_Tree l D cI cS cW q H.size  x1 S (fX_d_stepsSince_3.symm.trans e2)) (va_cwU 1 C.2.2.2.2.1 (zGU (x := ⟨"WhichShelf$Shelf", "stepsSince", "(I)I"⟩) (owner := "WhichShelf$Shelf") zk29_2 zk29_3 zk29_12 zk29_5 zk3_13 zk29_6) rfl rfl rfl rfl ydu_X7_stepsSince ⟨Nat.le_of_ble_eq_true rfl, Nat.le_of_ble_eq_true rfl⟩) (z_preV (zNmX hE) hE hH zX_o3 rfl) rfl rfl hl.1 rfl (lv_room (Nat.le_of_ble_eq_true rfl)) dX10_cheapestSince_32 ⟨Nat.le_refl 0, Nat.le_refl 0⟩) hE hH (fun H locs hH => ?_)
    exact bX_X10_cheapestSince_35 C hE K8 hK8 x1 x2 x3 x4 x5 u1 S H locs ls hH (lv_sub hl [0, 1, 2, 3, 4, 5] rfl) h
  · have h := hh
    refine z_calli (va_runU (As := [.int x1]) (rest := []) (z_fix C) (cX_X7_stepsSince_Heap l D cI cS cW q H.size  x1 S (fX_d_stepsSince_4.symm.trans e2)) (va_cwU 1 C.2.2.2.2.1 (zGU (x := ⟨"WhichShelf$Shelf", "stepsSince", "(I)I"⟩) (owner := "WhichShelf$Shelf") zk29_2 zk29_3 zk29_9 zk29_5 zk3_13 zk29_6) rfl rfl rfl rfl ydu_X7_stepsSince ⟨Nat.le_of_ble_eq_true rfl, Nat.le_of_ble_eq_true rfl⟩) (z_preV (zNmX hE) hE hH zX_o4 rfl) rfl rfl hl.1 rfl (lv_room (Nat.le_of_ble_eq_true rfl)) dX10_cheapestSince_32 ⟨Nat.le_refl 0, Nat.le_refl 0⟩) hE hH (fun H locs hH => ?_)
    exact bX_X10_cheapestSince_35 C hE K8 hK8 x1 x2 x3 x4 x5 u1 S H locs ls hH (lv_sub hl [0, 1, 2, 3, 4, 5] rfl) h
  · have h := hh
    refine z_calli (va_runU (As := [.int x1]) (rest := []) (z_fix C) (cX_X7_stepsSince_Bits l D cI cS cW q H.size  x1 S (fX_d_stepsSince_5.symm.trans e2)) (va_cwU 1 C.2.2.2.2.1 (zGU (x := ⟨"WhichShelf$Shelf", "stepsSince", "(I)I"⟩) (owner := "WhichShelf$Shelf") zk29_2 zk29_3 zk29_4 zk29_5 zk3_13 zk29_6) rfl rfl rfl rfl ydu_X7_stepsSince ⟨Nat.le_of_ble_eq_true rfl, Nat.le_of_ble_eq_true rfl⟩) (z_preV (zNmX hE) hE hH zX_o5 rfl) rfl rfl hl.1 rfl (lv_room (Nat.le_of_ble_eq_true rfl)) dX10_cheapestSince_32 ⟨Nat.le_refl 0, Nat.le_refl 0⟩) hE hH (fun H locs hH => ?_)
    exact bX_X10_cheapestSince_35 C hE K8 hK8 x1 x2 x3 x4 x5 u1 S H locs ls hH (lv_sub hl [0, 1, 2, 3, 4, 5] rfl) h
set_option maxHeartbeats 4000000 in
set_option maxRecDepth 100000 in
theorem bX_X10_cheapestSince_8 {p : Program} {l : Launch} {e : Env} {s : State} {m : MethodId} {args : Array Value} {below : List Frame} {meth : Method} {c : Code} {D : va_G} {cI cS cW : ClassId} {q : Nat → Nat} {A : Nat → Prop} {res : Int32} (C : zCX p s m args meth c cX10_cheapestSince 7 (some .int) zU RX10) (hE : zE D (zyX cI cS cW) znX A s) : ∀ (n : Nat) (x1 x2 x3 x4 x5 : Int32) (S : zSt) (H : Heap) (locs : List Loc) (ls : Array Slot), zH D (zwX cI cS cW q) A s S H locs → lv_has ls 7 [(0, .ref (q 6)), (1, .int x1), (2, .int x2), (3, .int x3), (4, .int x4), (5, .int x5)] → fX_X10_cheapestSince_8  n x1 x2 x3 x4 x5 S = some res → W p l e rmX_X10_cheapestSince s m args below meth c H locs 0 0 (zQi below D (zwX cI cS cW q) (zyX cI cS cW) A args s res S) (F0 m 8 ls []) := by
  have hx := C.1
  have hb := C.2.1
  intro n
  induction n with
  | zero =>
    intro x1 x2 x3 x4 x5 S H locs ls hH hl  h
    cases h
  | succ n hK8 =>
    intro x1 x2 x3 x4 x5 S H locs ls hH hl  h
    rw [fX_X10_cheapestSince_8] at h
    refine lv_iload hx hb dX10_cheapestSince_8 (lv_at hl 5 rfl) ?_
    refine lv_bipush (v := 6) hx hb dX10_cheapestSince_10 (by decide) ?_
    refine lv_icmp_ge (tgt := 62) hx hb dX10_cheapestSince_12 (by decide) (fun c1 => ?_) (fun c1 => ?_)
    · replace h := zif_t c1 h
      refine lv_iload_n hx hb dX10_cheapestSince_62 rfl (lv_at hl 3 rfl) ?_
      cases h
      exact z_iret C hE hH dX10_cheapestSince_63
    · replace h := zif_f c1 h
      refine lv_iload_n hx hb dX10_cheapestSince_15 rfl (lv_at hl 2 rfl) ?_
      refine lv_iload hx hb dX10_cheapestSince_16 (lv_at hl 5 rfl) ?_
      obtain ⟨u2, e3, h⟩ := zbd_s h
      refine z_calli (va_runS (As := [.int x2, .int x5]) (rest := []) (z_fix C) (cX_X10_isIn l D cI cS cW q H.size  x2 x5 S e3) (va_cwS 2 C.2.2.2.2.1 (zGS zk31_4 zk31_5 zk1_2 zk31_6) rfl rfl rfl yd_X10_isIn ⟨Nat.le_of_ble_eq_true rfl, Nat.le_of_ble_eq_true rfl⟩) (z_preS (zNmX hE) hE hH) rfl rfl hl.1 rfl (lv_room (Nat.le_of_ble_eq_true rfl)) dX10_cheapestSince_18 ⟨Nat.le_refl 0, Nat.le_refl 0⟩) hE hH (fun H locs hH => ?_)
      refine lv_if_eq (tgt := 56) hx hb dX10_cheapestSince_21 (by decide) (fun c4 => ?_) (fun c4 => ?_)
      · replace h := zif_t c4 h
        refine lv_iinc (v := (x5 + 1)) (lv' := [(5, .int (x5 + 1)), (0, .ref (q 6)), (1, .int x1), (2, .int x2), (3, .int x3), (4, .int x4)]) hx hb dX10_cheapestSince_56 hl (k := 5) rfl rfl (by decide) rfl (fun ls hl => ?_)
        refine lv_goto (tgt := 8) hx hb dX10_cheapestSince_59 (by decide) ?_
        exact hK8 x1 x2 x3 x4 (x5 + 1) S H locs ls hH (lv_sub hl [1, 2, 3, 4, 5, 0] rfl) h
      · replace h := zif_f c4 h
        refine lv_aload_n hx hb dX10_cheapestSince_24 rfl (lv_at hl 0 rfl) ?_
        refine z_get C hE hH zX_o6 rfl zh_X10 1 (by decide) zk2_9 (fun _ h9 => h9) (v := .ref (q 8)) rfl dX10_cheapestSince_25 ?_
        refine lv_iload hx hb dX10_cheapestSince_28 (lv_at hl 5 rfl) ?_
        obtain ⟨g5, h⟩ := zgd_s h
        refine z_aldq C hE hH zX_sh (t0 := 1) rfl g5 dX10_cheapestSince_30 ?_
        exact bX_X10_cheapestSince_31 C hE (fX_X10_cheapestSince_8  n) hK8 x5.toNatClampNeg x1 x2 x3 x4 x5 S H locs ls hH (lv_sub hl [0, 1, 2, 3, 4, 5] rfl) (zin_lt g5) h
set_option maxHeartbeats 4000000 in
set_option maxRecDepth 100000 in
theorem bX_X10_cheapestSince {p : Program} {l : Launch} {e : Env} {s : State} {m : MethodId} {args : Array Value} {below : List Frame} {meth : Method} {c : Code} {D : va_G} {cI cS cW : ClassId} {q : Nat → Nat} {A : Nat → Prop} {res : Int32} (C : zCX p s m args meth c cX10_cheapestSince 7 (some .int) zU RX10) (hE : zE D (zyX cI cS cW) znX A s) (x1 x2 : Int32) (S : zSt) (H : Heap) (locs : List Loc) (ls : Array Slot) (hH : zH D (zwX cI cS cW q) A s S H locs) (hl : lv_has ls 7 [(0, .ref (q 6)), (1, .int x1), (2, .int x2)]) (h : fX_X10_cheapestSince  x1 x2 S = some res) : W p l e rmX_X10_cheapestSince s m args below meth c H locs 0 0 (zQi below D (zwX cI cS cW q) (zyX cI cS cW) A args s res S) (F0 m 0 ls []) := by
  have hx := C.1
  have hb := C.2.1
  unfold fX_X10_cheapestSince at h
  refine lv_iconst (v := (-1)) hx hb dX10_cheapestSince_0 (by decide) ?_
  refine lv_istore_n (lv' := [(3, .int (-1)), (0, .ref (q 6)), (1, .int x1), (2, .int x2)]) hx hb dX10_cheapestSince_1 rfl hl (by decide) rfl (fun ls hl => ?_)
  refine lv_iconst (v := 0) hx hb dX10_cheapestSince_2 (by decide) ?_
  refine lv_istore (lv' := [(4, .int 0), (3, .int (-1)), (0, .ref (q 6)), (1, .int x1), (2, .int x2)]) hx hb dX10_cheapestSince_3 hl (by decide) rfl (fun ls hl => ?_)
  refine lv_iconst (v := 0) hx hb dX10_cheapestSince_5 (by decide) ?_
  refine lv_istore (lv' := [(5, .int 0), (4, .int 0), (3, .int (-1)), (0, .ref (q 6)), (1, .int x1), (2, .int x2)]) hx hb dX10_cheapestSince_6 hl (by decide) rfl (fun ls hl => ?_)
  exact bX_X10_cheapestSince_8 C hE   1000 x1 x2 (-1) 0 0 S H locs ls hH (lv_sub hl [3, 4, 5, 2, 1, 0] rfl) h
set_option maxHeartbeats 4000000 in
set_option maxRecDepth 100000 in
theorem cX_X10_cheapestSince (l : Launch) (D : va_G) (cI cS cW : ClassId) (q : Nat → Nat) (sz : Nat) (x1 : Int32) (x2 : Int32) (S : zSt) {res : Int32} (h : fX_X10_cheapestSince x1 x2 S = some res) : zMi l yX10_cheapestSince vsX10_cheapestSince rmX_X10_cheapestSince [.ref (q 6), .int x1, .int x2] D (zwX cI cS cW q) (zyX cI cS cW) znX sz S res S := by
  refine Met.ofW (cc := cX10_cheapestSince) (maxL := 7) (ret := (some .int)) (by decide) rfl ?_
  intro p e s m args below meth c s₁ B hml hv
  obtain ⟨rfl, rfl, hP, hK, hD0, hN⟩ := hv
  have hl := lv_entry ([.ref (q 6), .int x1, .int x2]) (n := 7) (Nat.le_of_ble_eq_true rfl)
  rw [lg_entry_eq]
  generalize (lg_sl ([.ref (q 6), .int x1, .int x2]) ++ List.replicate (7 - (lg_sl ([.ref (q 6), .int x1, .int x2])).length) Slot.unset).toArray = ls at hl ⊢
  exact bX_X10_cheapestSince ⟨B.exec, B.bytes, hml, findClass_of_methodNamed B.named, fun w h => atoms_spec (ws := vsX10_cheapestSince) B.pre w (List.mem_cons_of_mem _ h), B.returns, B.notSynchronized⟩ ⟨hK, fun q h => Or.inr h, hN⟩ x1 x2 S s.heap [] ls ⟨hP, hD0.self, va_S.rf⟩ hl  h
def rmX_X7_isWithin_Row : Room := { frames := 2, cells := 0, slots := 0, locals := 43 }
set_option maxHeartbeats 4000000 in
set_option maxRecDepth 100000 in
theorem bX_X7_isWithin_Row_15 {p : Program} {l : Launch} {e : Env} {s : State} {m : MethodId} {args : Array Value} {below : List Frame} {meth : Method} {c : Code} {D : va_G} {cI cS cW : ClassId} {q : Nat → Nat} {A : Nat → Prop} {res : Int32} (C : zCX p s m args meth c cX7_isWithin 3 (some .boolean) zU RX7) (hE : zE D (zyX cI cS cW) znX A s) (x2 : Int32) (S : zSt) (H : Heap) (locs : List Loc) (ls : Array Slot) (hH : zH D (zwX cI cS cW q) A s S H locs) (hl : lv_has ls 3 [(0, .ref (q 0)), (2, .int x2)]) (h : fX_X7_isWithin_Row_15  x2 S = some res) : W p l e rmX_X7_isWithin_Row s m args below meth c H locs 0 0 (zQi below D (zwX cI cS cW q) (zyX cI cS cW) A args s res S) (F0 m 15 ls []) := by
  have hx := C.1
  have hb := C.2.1
  unfold fX_X7_isWithin_Row_15 at h
  refine lv_aload_n hx hb dX7_isWithin_15 rfl (lv_at hl 0 rfl) ?_
  obtain ⟨u1, e2, h⟩ := zbd_s h
  refine z_calli (va_runU (As := []) (rest := []) (z_fix C) (cX_X7_greatestRoom_Row l D cI cS cW q H.size   S e2) (va_cwU 0 C.2.2.2.2.1 (zGU (x := ⟨"WhichShelf$Shelf", "greatestRoom", "()I"⟩) (owner := "WhichShelf$Shelf") zk32_14 zk30_11 zk30_17 zk30_13 zk3_13 zk30_14) rfl rfl rfl rfl ydu_X7_greatestRoom ⟨Nat.le_of_ble_eq_true rfl, Nat.le_of_ble_eq_true rfl⟩) (z_preV (zNmX hE) hE hH zX_o0 rfl) rfl rfl hl.1 rfl (lv_room (Nat.le_of_ble_eq_true rfl)) dX7_isWithin_16 ⟨Nat.le_refl 0, Nat.le_refl 0⟩) hE hH (fun H locs hH => ?_)
  refine lv_iload_n hx hb dX7_isWithin_19 rfl (lv_at hl 1 rfl) ?_
  refine lv_icmp_gt (tgt := 27) hx hb dX7_isWithin_20 (by decide) (fun c3 => ?_) (fun c3 => ?_)
  · replace h := zif_t c3 h
    refine lv_iconst (v := 0) hx hb dX7_isWithin_27 (by decide) ?_
    cases h
    exact z_zret (v := 0) C hE hH zb_0 dX7_isWithin_28
  · replace h := zif_f c3 h
    refine lv_iconst (v := 1) hx hb dX7_isWithin_23 (by decide) ?_
    refine lv_goto (tgt := 28) hx hb dX7_isWithin_24 (by decide) ?_
    cases h
    exact z_zret (v := 1) C hE hH zb_1 dX7_isWithin_28
set_option maxHeartbeats 4000000 in
set_option maxRecDepth 100000 in
theorem bX_X7_isWithin_Row {p : Program} {l : Launch} {e : Env} {s : State} {m : MethodId} {args : Array Value} {below : List Frame} {meth : Method} {c : Code} {D : va_G} {cI cS cW : ClassId} {q : Nat → Nat} {A : Nat → Prop} {res : Int32} (C : zCX p s m args meth c cX7_isWithin 3 (some .boolean) zU RX7) (hE : zE D (zyX cI cS cW) znX A s) (x1 x2 : Int32) (S : zSt) (H : Heap) (locs : List Loc) (ls : Array Slot) (hH : zH D (zwX cI cS cW q) A s S H locs) (hl : lv_has ls 3 [(0, .ref (q 0)), (1, .int x1), (2, .int x2)]) (h : fX_X7_isWithin_Row  x1 x2 S = some res) : W p l e rmX_X7_isWithin_Row s m args below meth c H locs 0 0 (zQi below D (zwX cI cS cW q) (zyX cI cS cW) A args s res S) (F0 m 0 ls []) := by
  have hx := C.1
  have hb := C.2.1
  unfold fX_X7_isWithin_Row at h
  refine lv_aload_n hx hb dX7_isWithin_0 rfl (lv_at hl 0 rfl) ?_
  refine z_get C hE hH zX_o0 rfl zh_X6 6 (by decide) zk3_18 (fun _ h9 => h9) (v := .int (S.1 12)) rfl dX7_isWithin_1 ?_
  refine lv_if_eq (tgt := 15) hx hb dX7_isWithin_4 (by decide) (fun c1 => ?_) (fun c1 => ?_)
  · replace h := zif_t c1 h
    exact bX_X7_isWithin_Row_15 C hE   x2 S H locs ls hH (lv_sub hl [0, 2] rfl) h
  · replace h := zif_f c1 h
    refine lv_aload_n hx hb dX7_isWithin_7 rfl (lv_at hl 0 rfl) ?_
    obtain ⟨u2, e3, h⟩ := zbd_s h
    refine z_calli (va_runU (As := []) (rest := []) (z_fix C) (cX_X7_worstSteps_Row l D cI cS cW q H.size   S e3) (va_cwU 0 C.2.2.2.2.1 (zGU (x := ⟨"WhichShelf$Shelf", "worstSteps", "()I"⟩) (owner := "WhichShelf$Shelf") zk32_13 zk29_14 zk30_6 zk29_16 zk3_13 zk29_17) rfl rfl rfl rfl ydu_X7_worstSteps ⟨Nat.le_of_ble_eq_true rfl, Nat.le_of_ble_eq_true rfl⟩) (z_preV (zNmX hE) hE hH zX_o0 rfl) rfl rfl hl.1 rfl (lv_room (Nat.le_of_ble_eq_true rfl)) dX7_isWithin_8 ⟨Nat.le_refl 0, Nat.le_refl 0⟩) hE hH (fun H locs hH => ?_)
    refine lv_iload_n hx hb dX7_isWithin_11 rfl (lv_at hl 1 rfl) ?_
    refine lv_icmp_gt (tgt := 27) hx hb dX7_isWithin_12 (by decide) (fun c4 => ?_) (fun c4 => ?_)
    · replace h := zif_t c4 h
      refine lv_iconst (v := 0) hx hb dX7_isWithin_27 (by decide) ?_
      cases h
      exact z_zret (v := 0) C hE hH zb_0 dX7_isWithin_28
    · replace h := zif_f c4 h
      exact bX_X7_isWithin_Row_15 C hE   x2 S H locs ls hH (lv_sub hl [0, 2] rfl) h
set_option maxHeartbeats 4000000 in
set_option maxRecDepth 100000 in
theorem cX_X7_isWithin_Row (l : Launch) (D : va_G) (cI cS cW : ClassId) (q : Nat → Nat) (sz : Nat) (x1 : Int32) (x2 : Int32) (S : zSt) {res : Int32} (h : fX_X7_isWithin_Row x1 x2 S = some res) : zMi l yX7_isWithin vsX7_isWithin rmX_X7_isWithin_Row [.ref (q 0), .int x1, .int x2] D (zwX cI cS cW q) (zyX cI cS cW) znX sz S res S := by
  refine Met.ofW (cc := cX7_isWithin) (maxL := 3) (ret := (some .boolean)) (by decide) rfl ?_
  intro p e s m args below meth c s₁ B hml hv
  obtain ⟨rfl, rfl, hP, hK, hD0, hN⟩ := hv
  have hl := lv_entry ([.ref (q 0), .int x1, .int x2]) (n := 3) (Nat.le_of_ble_eq_true rfl)
  rw [lg_entry_eq]
  generalize (lg_sl ([.ref (q 0), .int x1, .int x2]) ++ List.replicate (3 - (lg_sl ([.ref (q 0), .int x1, .int x2])).length) Slot.unset).toArray = ls at hl ⊢
  exact bX_X7_isWithin_Row ⟨B.exec, B.bytes, hml, findClass_of_methodNamed B.named, fun w h => atoms_spec (ws := vsX7_isWithin) B.pre w (List.mem_cons_of_mem _ h), B.returns, B.notSynchronized⟩ ⟨hK, fun q h => Or.inr h, hN⟩ x1 x2 S s.heap [] ls ⟨hP, hD0.self, va_S.rf⟩ hl  h
def rmX_X7_isWithin_Sorted : Room := { frames := 2, cells := 0, slots := 0, locals := 43 }
set_option maxHeartbeats 4000000 in
set_option maxRecDepth 100000 in
theorem bX_X7_isWithin_Sorted_15 {p : Program} {l : Launch} {e : Env} {s : State} {m : MethodId} {args : Array Value} {below : List Frame} {meth : Method} {c : Code} {D : va_G} {cI cS cW : ClassId} {q : Nat → Nat} {A : Nat → Prop} {res : Int32} (C : zCX p s m args meth c cX7_isWithin 3 (some .boolean) zU RX7) (hE : zE D (zyX cI cS cW) znX A s) (x2 : Int32) (S : zSt) (H : Heap) (locs : List Loc) (ls : Array Slot) (hH : zH D (zwX cI cS cW q) A s S H locs) (hl : lv_has ls 3 [(0, .ref (q 1)), (2, .int x2)]) (h : fX_X7_isWithin_Sorted_15  x2 S = some res) : W p l e rmX_X7_isWithin_Sorted s m args below meth c H locs 0 0 (zQi below D (zwX cI cS cW q) (zyX cI cS cW) A args s res S) (F0 m 15 ls []) := by
  have hx := C.1
  have hb := C.2.1
  unfold fX_X7_isWithin_Sorted_15 at h
  refine lv_aload_n hx hb dX7_isWithin_15 rfl (lv_at hl 0 rfl) ?_
  obtain ⟨u1, e2, h⟩ := zbd_s h
  refine z_calli (va_runU (As := []) (rest := []) (z_fix C) (cX_X7_greatestRoom_Sorted l D cI cS cW q H.size   S e2) (va_cwU 0 C.2.2.2.2.1 (zGU (x := ⟨"WhichShelf$Shelf", "greatestRoom", "()I"⟩) (owner := "WhichShelf$Shelf") zk32_14 zk30_11 zk30_18 zk30_13 zk3_13 zk30_14) rfl rfl rfl rfl ydu_X7_greatestRoom ⟨Nat.le_of_ble_eq_true rfl, Nat.le_of_ble_eq_true rfl⟩) (z_preV (zNmX hE) hE hH zX_o1 rfl) rfl rfl hl.1 rfl (lv_room (Nat.le_of_ble_eq_true rfl)) dX7_isWithin_16 ⟨Nat.le_refl 0, Nat.le_refl 0⟩) hE hH (fun H locs hH => ?_)
  refine lv_iload_n hx hb dX7_isWithin_19 rfl (lv_at hl 1 rfl) ?_
  refine lv_icmp_gt (tgt := 27) hx hb dX7_isWithin_20 (by decide) (fun c3 => ?_) (fun c3 => ?_)
  · replace h := zif_t c3 h
    refine lv_iconst (v := 0) hx hb dX7_isWithin_27 (by decide) ?_
    cases h
    exact z_zret (v := 0) C hE hH zb_0 dX7_isWithin_28
  · replace h := zif_f c3 h
    refine lv_iconst (v := 1) hx hb dX7_isWithin_23 (by decide) ?_
    refine lv_goto (tgt := 28) hx hb dX7_isWithin_24 (by decide) ?_
    cases h
    exact z_zret (v := 1) C hE hH zb_1 dX7_isWithin_28
set_option maxHeartbeats 4000000 in
set_option maxRecDepth 100000 in
theorem bX_X7_isWithin_Sorted {p : Program} {l : Launch} {e : Env} {s : State} {m : MethodId} {args : Array Value} {below : List Frame} {meth : Method} {c : Code} {D : va_G} {cI cS cW : ClassId} {q : Nat → Nat} {A : Nat → Prop} {res : Int32} (C : zCX p s m args meth c cX7_isWithin 3 (some .boolean) zU RX7) (hE : zE D (zyX cI cS cW) znX A s) (x1 x2 : Int32) (S : zSt) (H : Heap) (locs : List Loc) (ls : Array Slot) (hH : zH D (zwX cI cS cW q) A s S H locs) (hl : lv_has ls 3 [(0, .ref (q 1)), (1, .int x1), (2, .int x2)]) (h : fX_X7_isWithin_Sorted  x1 x2 S = some res) : W p l e rmX_X7_isWithin_Sorted s m args below meth c H locs 0 0 (zQi below D (zwX cI cS cW q) (zyX cI cS cW) A args s res S) (F0 m 0 ls []) := by
  have hx := C.1
  have hb := C.2.1
  unfold fX_X7_isWithin_Sorted at h
  refine lv_aload_n hx hb dX7_isWithin_0 rfl (lv_at hl 0 rfl) ?_
  refine z_get C hE hH zX_o1 rfl zh_X8 6 (by decide) zk3_18 (fun _ h9 => h9) (v := .int (S.1 13)) rfl dX7_isWithin_1 ?_
  refine lv_if_eq (tgt := 15) hx hb dX7_isWithin_4 (by decide) (fun c1 => ?_) (fun c1 => ?_)
  · replace h := zif_t c1 h
    exact bX_X7_isWithin_Sorted_15 C hE   x2 S H locs ls hH (lv_sub hl [0, 2] rfl) h
  · replace h := zif_f c1 h
    refine lv_aload_n hx hb dX7_isWithin_7 rfl (lv_at hl 0 rfl) ?_
    obtain ⟨u2, e3, h⟩ := zbd_s h
    refine z_calli (va_runU (As := []) (rest := []) (z_fix C) (cX_X7_worstSteps_Sorted l D cI cS cW q H.size   S e3) (va_cwU 0 C.2.2.2.2.1 (zGU (x := ⟨"WhichShelf$Shelf", "worstSteps", "()I"⟩) (owner := "WhichShelf$Shelf") zk32_13 zk29_14 zk30_7 zk29_16 zk3_13 zk29_17) rfl rfl rfl rfl ydu_X7_worstSteps ⟨Nat.le_of_ble_eq_true rfl, Nat.le_of_ble_eq_true rfl⟩) (z_preV (zNmX hE) hE hH zX_o1 rfl) rfl rfl hl.1 rfl (lv_room (Nat.le_of_ble_eq_true rfl)) dX7_isWithin_8 ⟨Nat.le_refl 0, Nat.le_refl 0⟩) hE hH (fun H locs hH => ?_)
    refine lv_iload_n hx hb dX7_isWithin_11 rfl (lv_at hl 1 rfl) ?_
    refine lv_icmp_gt (tgt := 27) hx hb dX7_isWithin_12 (by decide) (fun c4 => ?_) (fun c4 => ?_)
    · replace h := zif_t c4 h
      refine lv_iconst (v := 0) hx hb dX7_isWithin_27 (by decide) ?_
      cases h
      exact z_zret (v := 0) C hE hH zb_0 dX7_isWithin_28
    · replace h := zif_f c4 h
      exact bX_X7_isWithin_Sorted_15 C hE   x2 S H locs ls hH (lv_sub hl [0, 2] rfl) h
set_option maxHeartbeats 4000000 in
set_option maxRecDepth 100000 in
theorem cX_X7_isWithin_Sorted (l : Launch) (D : va_G) (cI cS cW : ClassId) (q : Nat → Nat) (sz : Nat) (x1 : Int32) (x2 : Int32) (S : zSt) {res : Int32} (h : fX_X7_isWithin_Sorted x1 x2 S = some res) : zMi l yX7_isWithin vsX7_isWithin rmX_X7_isWithin_Sorted [.ref (q 1), .int x1, .int x2] D (zwX cI cS cW q) (zyX cI cS cW) znX sz S res S := by
  refine Met.ofW (cc := cX7_isWithin) (maxL := 3) (ret := (some .boolean)) (by decide) rfl ?_
  intro p e s m args below meth c s₁ B hml hv
  obtain ⟨rfl, rfl, hP, hK, hD0, hN⟩ := hv
  have hl := lv_entry ([.ref (q 1), .int x1, .int x2]) (n := 3) (Nat.le_of_ble_eq_true rfl)
  rw [lg_entry_eq]
  generalize (lg_sl ([.ref (q 1), .int x1, .int x2]) ++ List.replicate (3 - (lg_sl ([.ref (q 1), .int x1, .int x2])).length) Slot.unset).toArray = ls at hl ⊢
  exact bX_X7_isWithin_Sorted ⟨B.exec, B.bytes, hml, findClass_of_methodNamed B.named, fun w h => atoms_spec (ws := vsX7_isWithin) B.pre w (List.mem_cons_of_mem _ h), B.returns, B.notSynchronized⟩ ⟨hK, fun q h => Or.inr h, hN⟩ x1 x2 S s.heap [] ls ⟨hP, hD0.self, va_S.rf⟩ hl  h
def rmX_X7_isWithin_Hash : Room := { frames := 2, cells := 0, slots := 0, locals := 43 }
set_option maxHeartbeats 4000000 in
set_option maxRecDepth 100000 in
theorem bX_X7_isWithin_Hash_15 {p : Program} {l : Launch} {e : Env} {s : State} {m : MethodId} {args : Array Value} {below : List Frame} {meth : Method} {c : Code} {D : va_G} {cI cS cW : ClassId} {q : Nat → Nat} {A : Nat → Prop} {res : Int32} (C : zCX p s m args meth c cX7_isWithin 3 (some .boolean) zU RX7) (hE : zE D (zyX cI cS cW) znX A s) (x2 : Int32) (S : zSt) (H : Heap) (locs : List Loc) (ls : Array Slot) (hH : zH D (zwX cI cS cW q) A s S H locs) (hl : lv_has ls 3 [(0, .ref (q 2)), (2, .int x2)]) (h : fX_X7_isWithin_Hash_15  x2 S = some res) : W p l e rmX_X7_isWithin_Hash s m args below meth c H locs 0 0 (zQi below D (zwX cI cS cW q) (zyX cI cS cW) A args s res S) (F0 m 15 ls []) := by
  have hx := C.1
  have hb := C.2.1
  unfold fX_X7_isWithin_Hash_15 at h
  refine lv_aload_n hx hb dX7_isWithin_15 rfl (lv_at hl 0 rfl) ?_
  obtain ⟨u1, e2, h⟩ := zbd_s h
  refine z_calli (va_runU (As := []) (rest := []) (z_fix C) (cX_X7_greatestRoom_Hash l D cI cS cW q H.size   S e2) (va_cwU 0 C.2.2.2.2.1 (zGU (x := ⟨"WhichShelf$Shelf", "greatestRoom", "()I"⟩) (owner := "WhichShelf$Shelf") zk32_14 zk30_11 zk30_15 zk30_13 zk3_13 zk30_14) rfl rfl rfl rfl ydu_X7_greatestRoom ⟨Nat.le_of_ble_eq_true rfl, Nat.le_of_ble_eq_true rfl⟩) (z_preV (zNmX hE) hE hH zX_o2 rfl) rfl rfl hl.1 rfl (lv_room (Nat.le_of_ble_eq_true rfl)) dX7_isWithin_16 ⟨Nat.le_refl 0, Nat.le_refl 0⟩) hE hH (fun H locs hH => ?_)
  refine lv_iload_n hx hb dX7_isWithin_19 rfl (lv_at hl 1 rfl) ?_
  refine lv_icmp_gt (tgt := 27) hx hb dX7_isWithin_20 (by decide) (fun c3 => ?_) (fun c3 => ?_)
  · replace h := zif_t c3 h
    refine lv_iconst (v := 0) hx hb dX7_isWithin_27 (by decide) ?_
    cases h
    exact z_zret (v := 0) C hE hH zb_0 dX7_isWithin_28
  · replace h := zif_f c3 h
    refine lv_iconst (v := 1) hx hb dX7_isWithin_23 (by decide) ?_
    refine lv_goto (tgt := 28) hx hb dX7_isWithin_24 (by decide) ?_
    cases h
    exact z_zret (v := 1) C hE hH zb_1 dX7_isWithin_28
set_option maxHeartbeats 4000000 in
set_option maxRecDepth 100000 in
theorem bX_X7_isWithin_Hash {p : Program} {l : Launch} {e : Env} {s : State} {m : MethodId} {args : Array Value} {below : List Frame} {meth : Method} {c : Code} {D : va_G} {cI cS cW : ClassId} {q : Nat → Nat} {A : Nat → Prop} {res : Int32} (C : zCX p s m args meth c cX7_isWithin 3 (some .boolean) zU RX7) (hE : zE D (zyX cI cS cW) znX A s) (x1 x2 : Int32) (S : zSt) (H : Heap) (locs : List Loc) (ls : Array Slot) (hH : zH D (zwX cI cS cW q) A s S H locs) (hl : lv_has ls 3 [(0, .ref (q 2)), (1, .int x1), (2, .int x2)]) (h : fX_X7_isWithin_Hash  x1 x2 S = some res) : W p l e rmX_X7_isWithin_Hash s m args below meth c H locs 0 0 (zQi below D (zwX cI cS cW q) (zyX cI cS cW) A args s res S) (F0 m 0 ls []) := by
  have hx := C.1
  have hb := C.2.1
  unfold fX_X7_isWithin_Hash at h
  refine lv_aload_n hx hb dX7_isWithin_0 rfl (lv_at hl 0 rfl) ?_
  refine z_get C hE hH zX_o2 rfl zh_X2 6 (by decide) zk3_18 (fun _ h9 => h9) (v := .int (S.1 14)) rfl dX7_isWithin_1 ?_
  refine lv_if_eq (tgt := 15) hx hb dX7_isWithin_4 (by decide) (fun c1 => ?_) (fun c1 => ?_)
  · replace h := zif_t c1 h
    exact bX_X7_isWithin_Hash_15 C hE   x2 S H locs ls hH (lv_sub hl [0, 2] rfl) h
  · replace h := zif_f c1 h
    refine lv_aload_n hx hb dX7_isWithin_7 rfl (lv_at hl 0 rfl) ?_
    obtain ⟨u2, e3, h⟩ := zbd_s h
    refine z_calli (va_runU (As := []) (rest := []) (z_fix C) (cX_X7_worstSteps_Hash l D cI cS cW q H.size   S e3) (va_cwU 0 C.2.2.2.2.1 (zGU (x := ⟨"WhichShelf$Shelf", "worstSteps", "()I"⟩) (owner := "WhichShelf$Shelf") zk32_13 zk29_14 zk30_4 zk29_16 zk3_13 zk29_17) rfl rfl rfl rfl ydu_X7_worstSteps ⟨Nat.le_of_ble_eq_true rfl, Nat.le_of_ble_eq_true rfl⟩) (z_preV (zNmX hE) hE hH zX_o2 rfl) rfl rfl hl.1 rfl (lv_room (Nat.le_of_ble_eq_true rfl)) dX7_isWithin_8 ⟨Nat.le_refl 0, Nat.le_refl 0⟩) hE hH (fun H locs hH => ?_)
    refine lv_iload_n hx hb dX7_isWithin_11 rfl (lv_at hl 1 rfl) ?_
    refine lv_icmp_gt (tgt := 27) hx hb dX7_isWithin_12 (by decide) (fun c4 => ?_) (fun c4 => ?_)
    · replace h := zif_t c4 h
      refine lv_iconst (v := 0) hx hb dX7_isWithin_27 (by decide) ?_
      cases h
      exact z_zret (v := 0) C hE hH zb_0 dX7_isWithin_28
    · replace h := zif_f c4 h
      exact bX_X7_isWithin_Hash_15 C hE   x2 S H locs ls hH (lv_sub hl [0, 2] rfl) h
set_option maxHeartbeats 4000000 in
set_option maxRecDepth 100000 in
theorem cX_X7_isWithin_Hash (l : Launch) (D : va_G) (cI cS cW : ClassId) (q : Nat → Nat) (sz : Nat) (x1 : Int32) (x2 : Int32) (S : zSt) {res : Int32} (h : fX_X7_isWithin_Hash x1 x2 S = some res) : zMi l yX7_isWithin vsX7_isWithin rmX_X7_isWithin_Hash [.ref (q 2), .int x1, .int x2] D (zwX cI cS cW q) (zyX cI cS cW) znX sz S res S := by
  refine Met.ofW (cc := cX7_isWithin) (maxL := 3) (ret := (some .boolean)) (by decide) rfl ?_
  intro p e s m args below meth c s₁ B hml hv
  obtain ⟨rfl, rfl, hP, hK, hD0, hN⟩ := hv
  have hl := lv_entry ([.ref (q 2), .int x1, .int x2]) (n := 3) (Nat.le_of_ble_eq_true rfl)
  rw [lg_entry_eq]
  generalize (lg_sl ([.ref (q 2), .int x1, .int x2]) ++ List.replicate (3 - (lg_sl ([.ref (q 2), .int x1, .int x2])).length) Slot.unset).toArray = ls at hl ⊢
  exact bX_X7_isWithin_Hash ⟨B.exec, B.bytes, hml, findClass_of_methodNamed B.named, fun w h => atoms_spec (ws := vsX7_isWithin) B.pre w (List.mem_cons_of_mem _ h), B.returns, B.notSynchronized⟩ ⟨hK, fun q h => Or.inr h, hN⟩ x1 x2 S s.heap [] ls ⟨hP, hD0.self, va_S.rf⟩ hl  h
def rmX_X7_isWithin_Tree : Room := { frames := 2, cells := 0, slots := 0, locals := 43 }
set_option maxHeartbeats 4000000 in
set_option maxRecDepth 100000 in
theorem bX_X7_isWithin_Tree_15 {p : Program} {l : Launch} {e : Env} {s : State} {m : MethodId} {args : Array Value} {below : List Frame} {meth : Method} {c : Code} {D : va_G} {cI cS cW : ClassId} {q : Nat → Nat} {A : Nat → Prop} {res : Int32} (C : zCX p s m args meth c cX7_isWithin 3 (some .boolean) zU RX7) (hE : zE D (zyX cI cS cW) znX A s) (x2 : Int32) (S : zSt) (H : Heap) (locs : List Loc) (ls : Array Slot) (hH : zH D (zwX cI cS cW q) A s S H locs) (hl : lv_has ls 3 [(0, .ref (q 3)), (2, .int x2)]) (h : fX_X7_isWithin_Tree_15  x2 S = some res) : W p l e rmX_X7_isWithin_Tree s m args below meth c H locs 0 0 (zQi below D (zwX cI cS cW q) (zyX cI cS cW) A args s res S) (F0 m 15 ls []) := by
  have hx := C.1
  have hb := C.2.1
  unfold fX_X7_isWithin_Tree_15 at h
  refine lv_aload_n hx hb dX7_isWithin_15 rfl (lv_at hl 0 rfl) ?_
  obtain ⟨u1, e2, h⟩ := zbd_s h
  refine z_calli (va_runU (As := []) (rest := []) (z_fix C) (cX_X7_greatestRoom_Tree l D cI cS cW q H.size   S e2) (va_cwU 0 C.2.2.2.2.1 (zGU (x := ⟨"WhichShelf$Shelf", "greatestRoom", "()I"⟩) (owner := "WhichShelf$Shelf") zk32_14 zk30_11 zk30_19 zk30_13 zk3_13 zk30_14) rfl rfl rfl rfl ydu_X7_greatestRoom ⟨Nat.le_of_ble_eq_true rfl, Nat.le_of_ble_eq_true rfl⟩) (z_preV (zNmX hE) hE hH zX_o3 rfl) rfl rfl hl.1 rfl (lv_room (Nat.le_of_ble_eq_true rfl)) dX7_isWithin_16 ⟨Nat.le_refl 0, Nat.le_refl 0⟩) hE hH (fun H locs hH => ?_)
  refine lv_iload_n hx hb dX7_isWithin_19 rfl (lv_at hl 1 rfl) ?_
  refine lv_icmp_gt (tgt := 27) hx hb dX7_isWithin_20 (by decide) (fun c3 => ?_) (fun c3 => ?_)
  · replace h := zif_t c3 h
    refine lv_iconst (v := 0) hx hb dX7_isWithin_27 (by decide) ?_
    cases h
    exact z_zret (v := 0) C hE hH zb_0 dX7_isWithin_28
  · replace h := zif_f c3 h
    refine lv_iconst (v := 1) hx hb dX7_isWithin_23 (by decide) ?_
    refine lv_goto (tgt := 28) hx hb dX7_isWithin_24 (by decide) ?_
    cases h
    exact z_zret (v := 1) C hE hH zb_1 dX7_isWithin_28
set_option maxHeartbeats 4000000 in
set_option maxRecDepth 100000 in
theorem bX_X7_isWithin_Tree {p : Program} {l : Launch} {e : Env} {s : State} {m : MethodId} {args : Array Value} {below : List Frame} {meth : Method} {c : Code} {D : va_G} {cI cS cW : ClassId} {q : Nat → Nat} {A : Nat → Prop} {res : Int32} (C : zCX p s m args meth c cX7_isWithin 3 (some .boolean) zU RX7) (hE : zE D (zyX cI cS cW) znX A s) (x1 x2 : Int32) (S : zSt) (H : Heap) (locs : List Loc) (ls : Array Slot) (hH : zH D (zwX cI cS cW q) A s S H locs) (hl : lv_has ls 3 [(0, .ref (q 3)), (1, .int x1), (2, .int x2)]) (h : fX_X7_isWithin_Tree  x1 x2 S = some res) : W p l e rmX_X7_isWithin_Tree s m args below meth c H locs 0 0 (zQi below D (zwX cI cS cW q) (zyX cI cS cW) A args s res S) (F0 m 0 ls []) := by
  have hx := C.1
  have hb := C.2.1
  unfold fX_X7_isWithin_Tree at h
  refine lv_aload_n hx hb dX7_isWithin_0 rfl (lv_at hl 0 rfl) ?_
  refine z_get C hE hH zX_o3 rfl zh_X9 3 (by decide) zk3_18 (fun _ h9 => h9) (v := .int (S.1 15)) rfl dX7_isWithin_1 ?_
  refine lv_if_eq (tgt := 15) hx hb dX7_isWithin_4 (by decide) (fun c1 => ?_) (fun c1 => ?_)
  · replace h := zif_t c1 h
    exact bX_X7_isWithin_Tree_15 C hE   x2 S H locs ls hH (lv_sub hl [0, 2] rfl) h
  · replace h := zif_f c1 h
    refine lv_aload_n hx hb dX7_isWithin_7 rfl (lv_at hl 0 rfl) ?_
    obtain ⟨u2, e3, h⟩ := zbd_s h
    refine z_calli (va_runU (As := []) (rest := []) (z_fix C) (cX_X7_worstSteps_Tree l D cI cS cW q H.size   S e3) (va_cwU 0 C.2.2.2.2.1 (zGU (x := ⟨"WhichShelf$Shelf", "worstSteps", "()I"⟩) (owner := "WhichShelf$Shelf") zk32_13 zk29_14 zk30_8 zk29_16 zk3_13 zk29_17) rfl rfl rfl rfl ydu_X7_worstSteps ⟨Nat.le_of_ble_eq_true rfl, Nat.le_of_ble_eq_true rfl⟩) (z_preV (zNmX hE) hE hH zX_o3 rfl) rfl rfl hl.1 rfl (lv_room (Nat.le_of_ble_eq_true rfl)) dX7_isWithin_8 ⟨Nat.le_refl 0, Nat.le_refl 0⟩) hE hH (fun H locs hH => ?_)
    refine lv_iload_n hx hb dX7_isWithin_11 rfl (lv_at hl 1 rfl) ?_
    refine lv_icmp_gt (tgt := 27) hx hb dX7_isWithin_12 (by decide) (fun c4 => ?_) (fun c4 => ?_)
    · replace h := zif_t c4 h
      refine lv_iconst (v := 0) hx hb dX7_isWithin_27 (by decide) ?_
      cases h
      exact z_zret (v := 0) C hE hH zb_0 dX7_isWithin_28
    · replace h := zif_f c4 h
      exact bX_X7_isWithin_Tree_15 C hE   x2 S H locs ls hH (lv_sub hl [0, 2] rfl) h
set_option maxHeartbeats 4000000 in
set_option maxRecDepth 100000 in
theorem cX_X7_isWithin_Tree (l : Launch) (D : va_G) (cI cS cW : ClassId) (q : Nat → Nat) (sz : Nat) (x1 : Int32) (x2 : Int32) (S : zSt) {res : Int32} (h : fX_X7_isWithin_Tree x1 x2 S = some res) : zMi l yX7_isWithin vsX7_isWithin rmX_X7_isWithin_Tree [.ref (q 3), .int x1, .int x2] D (zwX cI cS cW q) (zyX cI cS cW) znX sz S res S := by
  refine Met.ofW (cc := cX7_isWithin) (maxL := 3) (ret := (some .boolean)) (by decide) rfl ?_
  intro p e s m args below meth c s₁ B hml hv
  obtain ⟨rfl, rfl, hP, hK, hD0, hN⟩ := hv
  have hl := lv_entry ([.ref (q 3), .int x1, .int x2]) (n := 3) (Nat.le_of_ble_eq_true rfl)
  rw [lg_entry_eq]
  generalize (lg_sl ([.ref (q 3), .int x1, .int x2]) ++ List.replicate (3 - (lg_sl ([.ref (q 3), .int x1, .int x2])).length) Slot.unset).toArray = ls at hl ⊢
  exact bX_X7_isWithin_Tree ⟨B.exec, B.bytes, hml, findClass_of_methodNamed B.named, fun w h => atoms_spec (ws := vsX7_isWithin) B.pre w (List.mem_cons_of_mem _ h), B.returns, B.notSynchronized⟩ ⟨hK, fun q h => Or.inr h, hN⟩ x1 x2 S s.heap [] ls ⟨hP, hD0.self, va_S.rf⟩ hl  h
def rmX_X7_isWithin_Heap : Room := { frames := 2, cells := 0, slots := 0, locals := 43 }
set_option maxHeartbeats 4000000 in
set_option maxRecDepth 100000 in
theorem bX_X7_isWithin_Heap_15 {p : Program} {l : Launch} {e : Env} {s : State} {m : MethodId} {args : Array Value} {below : List Frame} {meth : Method} {c : Code} {D : va_G} {cI cS cW : ClassId} {q : Nat → Nat} {A : Nat → Prop} {res : Int32} (C : zCX p s m args meth c cX7_isWithin 3 (some .boolean) zU RX7) (hE : zE D (zyX cI cS cW) znX A s) (x2 : Int32) (S : zSt) (H : Heap) (locs : List Loc) (ls : Array Slot) (hH : zH D (zwX cI cS cW q) A s S H locs) (hl : lv_has ls 3 [(0, .ref (q 4)), (2, .int x2)]) (h : fX_X7_isWithin_Heap_15  x2 S = some res) : W p l e rmX_X7_isWithin_Heap s m args below meth c H locs 0 0 (zQi below D (zwX cI cS cW q) (zyX cI cS cW) A args s res S) (F0 m 15 ls []) := by
  have hx := C.1
  have hb := C.2.1
  unfold fX_X7_isWithin_Heap_15 at h
  refine lv_aload_n hx hb dX7_isWithin_15 rfl (lv_at hl 0 rfl) ?_
  obtain ⟨u1, e2, h⟩ := zbd_s h
  refine z_calli (va_runU (As := []) (rest := []) (z_fix C) (cX_X7_greatestRoom_Heap l D cI cS cW q H.size   S e2) (va_cwU 0 C.2.2.2.2.1 (zGU (x := ⟨"WhichShelf$Shelf", "greatestRoom", "()I"⟩) (owner := "WhichShelf$Shelf") zk32_14 zk30_11 zk30_16 zk30_13 zk3_13 zk30_14) rfl rfl rfl rfl ydu_X7_greatestRoom ⟨Nat.le_of_ble_eq_true rfl, Nat.le_of_ble_eq_true rfl⟩) (z_preV (zNmX hE) hE hH zX_o4 rfl) rfl rfl hl.1 rfl (lv_room (Nat.le_of_ble_eq_true rfl)) dX7_isWithin_16 ⟨Nat.le_refl 0, Nat.le_refl 0⟩) hE hH (fun H locs hH => ?_)
  refine lv_iload_n hx hb dX7_isWithin_19 rfl (lv_at hl 1 rfl) ?_
  refine lv_icmp_gt (tgt := 27) hx hb dX7_isWithin_20 (by decide) (fun c3 => ?_) (fun c3 => ?_)
  · replace h := zif_t c3 h
    refine lv_iconst (v := 0) hx hb dX7_isWithin_27 (by decide) ?_
    cases h
    exact z_zret (v := 0) C hE hH zb_0 dX7_isWithin_28
  · replace h := zif_f c3 h
    refine lv_iconst (v := 1) hx hb dX7_isWithin_23 (by decide) ?_
    refine lv_goto (tgt := 28) hx hb dX7_isWithin_24 (by decide) ?_
    cases h
    exact z_zret (v := 1) C hE hH zb_1 dX7_isWithin_28
set_option maxHeartbeats 4000000 in
set_option maxRecDepth 100000 in
theorem bX_X7_isWithin_Heap {p : Program} {l : Launch} {e : Env} {s : State} {m : MethodId} {args : Array Value} {below : List Frame} {meth : Method} {c : Code} {D : va_G} {cI cS cW : ClassId} {q : Nat → Nat} {A : Nat → Prop} {res : Int32} (C : zCX p s m args meth c cX7_isWithin 3 (some .boolean) zU RX7) (hE : zE D (zyX cI cS cW) znX A s) (x1 x2 : Int32) (S : zSt) (H : Heap) (locs : List Loc) (ls : Array Slot) (hH : zH D (zwX cI cS cW q) A s S H locs) (hl : lv_has ls 3 [(0, .ref (q 4)), (1, .int x1), (2, .int x2)]) (h : fX_X7_isWithin_Heap  x1 x2 S = some res) : W p l e rmX_X7_isWithin_Heap s m args below meth c H locs 0 0 (zQi below D (zwX cI cS cW q) (zyX cI cS cW) A args s res S) (F0 m 0 ls []) := by
  have hx := C.1
  have hb := C.2.1
  unfold fX_X7_isWithin_Heap at h
  refine lv_aload_n hx hb dX7_isWithin_0 rfl (lv_at hl 0 rfl) ?_
  refine z_get C hE hH zX_o4 rfl zh_X3 6 (by decide) zk3_18 (fun _ h9 => h9) (v := .int (S.1 16)) rfl dX7_isWithin_1 ?_
  refine lv_if_eq (tgt := 15) hx hb dX7_isWithin_4 (by decide) (fun c1 => ?_) (fun c1 => ?_)
  · replace h := zif_t c1 h
    exact bX_X7_isWithin_Heap_15 C hE   x2 S H locs ls hH (lv_sub hl [0, 2] rfl) h
  · replace h := zif_f c1 h
    refine lv_aload_n hx hb dX7_isWithin_7 rfl (lv_at hl 0 rfl) ?_
    obtain ⟨u2, e3, h⟩ := zbd_s h
    refine z_calli (va_runU (As := []) (rest := []) (z_fix C) (cX_X7_worstSteps_Heap l D cI cS cW q H.size   S e3) (va_cwU 0 C.2.2.2.2.1 (zGU (x := ⟨"WhichShelf$Shelf", "worstSteps", "()I"⟩) (owner := "WhichShelf$Shelf") zk32_13 zk29_14 zk30_5 zk29_16 zk3_13 zk29_17) rfl rfl rfl rfl ydu_X7_worstSteps ⟨Nat.le_of_ble_eq_true rfl, Nat.le_of_ble_eq_true rfl⟩) (z_preV (zNmX hE) hE hH zX_o4 rfl) rfl rfl hl.1 rfl (lv_room (Nat.le_of_ble_eq_true rfl)) dX7_isWithin_8 ⟨Nat.le_refl 0, Nat.le_refl 0⟩) hE hH (fun H locs hH => ?_)
    refine lv_iload_n hx hb dX7_isWithin_11 rfl (lv_at hl 1 rfl) ?_
    refine lv_icmp_gt (tgt := 27) hx hb dX7_isWithin_12 (by decide) (fun c4 => ?_) (fun c4 => ?_)
    · replace h := zif_t c4 h
      refine lv_iconst (v := 0) hx hb dX7_isWithin_27 (by decide) ?_
      cases h
      exact z_zret (v := 0) C hE hH zb_0 dX7_isWithin_28
    · replace h := zif_f c4 h
      exact bX_X7_isWithin_Heap_15 C hE   x2 S H locs ls hH (lv_sub hl [0, 2] rfl) h
set_option maxHeartbeats 4000000 in
set_option maxRecDepth 100000 in
theorem cX_X7_isWithin_Heap (l : Launch) (D : va_G) (cI cS cW : ClassId) (q : Nat → Nat) (sz : Nat) (x1 : Int32) (x2 : Int32) (S : zSt) {res : Int32} (h : fX_X7_isWithin_Heap x1 x2 S = some res) : zMi l yX7_isWithin vsX7_isWithin rmX_X7_isWithin_Heap [.ref (q 4), .int x1, .int x2] D (zwX cI cS cW q) (zyX cI cS cW) znX sz S res S := by
  refine Met.ofW (cc := cX7_isWithin) (maxL := 3) (ret := (some .boolean)) (by decide) rfl ?_
  intro p e s m args below meth c s₁ B hml hv
  obtain ⟨rfl, rfl, hP, hK, hD0, hN⟩ := hv
  have hl := lv_entry ([.ref (q 4), .int x1, .int x2]) (n := 3) (Nat.le_of_ble_eq_true rfl)
  rw [lg_entry_eq]
  generalize (lg_sl ([.ref (q 4), .int x1, .int x2]) ++ List.replicate (3 - (lg_sl ([.ref (q 4), .int x1, .int x2])).length) Slot.unset).toArray = ls at hl ⊢
  exact bX_X7_isWithin_Heap ⟨B.exec, B.bytes, hml, findClass_of_methodNamed B.named, fun w h => atoms_spec (ws := vsX7_isWithin) B.pre w (List.mem_cons_of_mem _ h), B.returns, B.notSynchronized⟩ ⟨hK, fun q h => Or.inr h, hN⟩ x1 x2 S s.heap [] ls ⟨hP, hD0.self, va_S.rf⟩ hl  h
def rmX_X7_isWithin_Bits : Room := { frames := 2, cells := 0, slots := 0, locals := 43 }
set_option maxHeartbeats 4000000 in
set_option maxRecDepth 100000 in
theorem bX_X7_isWithin_Bits_15 {p : Program} {l : Launch} {e : Env} {s : State} {m : MethodId} {args : Array Value} {below : List Frame} {meth : Method} {c : Code} {D : va_G} {cI cS cW : ClassId} {q : Nat → Nat} {A : Nat → Prop} {res : Int32} (C : zCX p s m args meth c cX7_isWithin 3 (some .boolean) zU RX7) (hE : zE D (zyX cI cS cW) znX A s) (x2 : Int32) (S : zSt) (H : Heap) (locs : List Loc) (ls : Array Slot) (hH : zH D (zwX cI cS cW q) A s S H locs) (hl : lv_has ls 3 [(0, .ref (q 5)), (2, .int x2)]) (h : fX_X7_isWithin_Bits_15  x2 S = some res) : W p l e rmX_X7_isWithin_Bits s m args below meth c H locs 0 0 (zQi below D (zwX cI cS cW q) (zyX cI cS cW) A args s res S) (F0 m 15 ls []) := by
  have hx := C.1
  have hb := C.2.1
  unfold fX_X7_isWithin_Bits_15 at h
  refine lv_aload_n hx hb dX7_isWithin_15 rfl (lv_at hl 0 rfl) ?_
  obtain ⟨u1, e2, h⟩ := zbd_s h
  refine z_calli (va_runU (As := []) (rest := []) (z_fix C) (cX_X7_greatestRoom_Bits l D cI cS cW q H.size   S e2) (va_cwU 0 C.2.2.2.2.1 (zGU (x := ⟨"WhichShelf$Shelf", "greatestRoom", "()I"⟩) (owner := "WhichShelf$Shelf") zk32_14 zk30_11 zk30_12 zk30_13 zk3_13 zk30_14) rfl rfl rfl rfl ydu_X7_greatestRoom ⟨Nat.le_of_ble_eq_true rfl, Nat.le_of_ble_eq_true rfl⟩) (z_preV (zNmX hE) hE hH zX_o5 rfl) rfl rfl hl.1 rfl (lv_room (Nat.le_of_ble_eq_true rfl)) dX7_isWithin_16 ⟨Nat.le_refl 0, Nat.le_refl 0⟩) hE hH (fun H locs hH => ?_)
  refine lv_iload_n hx hb dX7_isWithin_19 rfl (lv_at hl 1 rfl) ?_
  refine lv_icmp_gt (tgt := 27) hx hb dX7_isWithin_20 (by decide) (fun c3 => ?_) (fun c3 => ?_)
  · replace h := zif_t c3 h
    refine lv_iconst (v := 0) hx hb dX7_isWithin_27 (by decide) ?_
    cases h
    exact z_zret (v := 0) C hE hH zb_0 dX7_isWithin_28
  · replace h := zif_f c3 h
    refine lv_iconst (v := 1) hx hb dX7_isWithin_23 (by decide) ?_
    refine lv_goto (tgt := 28) hx hb dX7_isWithin_24 (by decide) ?_
    cases h
    exact z_zret (v := 1) C hE hH zb_1 dX7_isWithin_28
set_option maxHeartbeats 4000000 in
set_option maxRecDepth 100000 in
theorem bX_X7_isWithin_Bits {p : Program} {l : Launch} {e : Env} {s : State} {m : MethodId} {args : Array Value} {below : List Frame} {meth : Method} {c : Code} {D : va_G} {cI cS cW : ClassId} {q : Nat → Nat} {A : Nat → Prop} {res : Int32} (C : zCX p s m args meth c cX7_isWithin 3 (some .boolean) zU RX7) (hE : zE D (zyX cI cS cW) znX A s) (x1 x2 : Int32) (S : zSt) (H : Heap) (locs : List Loc) (ls : Array Slot) (hH : zH D (zwX cI cS cW q) A s S H locs) (hl : lv_has ls 3 [(0, .ref (q 5)), (1, .int x1), (2, .int x2)]) (h : fX_X7_isWithin_Bits  x1 x2 S = some res) : W p l e rmX_X7_isWithin_Bits s m args below meth c H locs 0 0 (zQi below D (zwX cI cS cW q) (zyX cI cS cW) A args s res S) (F0 m 0 ls []) := by
  have hx := C.1
  have hb := C.2.1
  unfold fX_X7_isWithin_Bits at h
  refine lv_aload_n hx hb dX7_isWithin_0 rfl (lv_at hl 0 rfl) ?_
  refine z_get C hE hH zX_o5 rfl zh_X0 3 (by decide) zk3_18 (fun _ h9 => h9) (v := .int (S.1 17)) rfl dX7_isWithin_1 ?_
  refine lv_if_eq (tgt := 15) hx hb dX7_isWithin_4 (by decide) (fun c1 => ?_) (fun c1 => ?_)
  · replace h := zif_t c1 h
    exact bX_X7_isWithin_Bits_15 C hE   x2 S H locs ls hH (lv_sub hl [0, 2] rfl) h
  · replace h := zif_f c1 h
    refine lv_aload_n hx hb dX7_isWithin_7 rfl (lv_at hl 0 rfl) ?_
    obtain ⟨u2, e3, h⟩ := zbd_s h
    refine z_calli (va_runU (As := []) (rest := []) (z_fix C) (cX_X7_worstSteps_Bits l D cI cS cW q H.size   S e3) (va_cwU 0 C.2.2.2.2.1 (zGU (x := ⟨"WhichShelf$Shelf", "worstSteps", "()I"⟩) (owner := "WhichShelf$Shelf") zk32_13 zk29_14 zk29_15 zk29_16 zk3_13 zk29_17) rfl rfl rfl rfl ydu_X7_worstSteps ⟨Nat.le_of_ble_eq_true rfl, Nat.le_of_ble_eq_true rfl⟩) (z_preV (zNmX hE) hE hH zX_o5 rfl) rfl rfl hl.1 rfl (lv_room (Nat.le_of_ble_eq_true rfl)) dX7_isWithin_8 ⟨Nat.le_refl 0, Nat.le_refl 0⟩) hE hH (fun H locs hH => ?_)
    refine lv_iload_n hx hb dX7_isWithin_11 rfl (lv_at hl 1 rfl) ?_
    refine lv_icmp_gt (tgt := 27) hx hb dX7_isWithin_12 (by decide) (fun c4 => ?_) (fun c4 => ?_)
    · replace h := zif_t c4 h
      refine lv_iconst (v := 0) hx hb dX7_isWithin_27 (by decide) ?_
      cases h
      exact z_zret (v := 0) C hE hH zb_0 dX7_isWithin_28
    · replace h := zif_f c4 h
      exact bX_X7_isWithin_Bits_15 C hE   x2 S H locs ls hH (lv_sub hl [0, 2] rfl) h
set_option maxHeartbeats 4000000 in
set_option maxRecDepth 100000 in
theorem cX_X7_isWithin_Bits (l : Launch) (D : va_G) (cI cS cW : ClassId) (q : Nat → Nat) (sz : Nat) (x1 : Int32) (x2 : Int32) (S : zSt) {res : Int32} (h : fX_X7_isWithin_Bits x1 x2 S = some res) : zMi l yX7_isWithin vsX7_isWithin rmX_X7_isWithin_Bits [.ref (q 5), .int x1, .int x2] D (zwX cI cS cW q) (zyX cI cS cW) znX sz S res S := by
  refine Met.ofW (cc := cX7_isWithin) (maxL := 3) (ret := (some .boolean)) (by decide) rfl ?_
  intro p e s m args below meth c s₁ B hml hv
  obtain ⟨rfl, rfl, hP, hK, hD0, hN⟩ := hv
  have hl := lv_entry ([.ref (q 5), .int x1, .int x2]) (n := 3) (Nat.le_of_ble_eq_true rfl)
  rw [lg_entry_eq]
  generalize (lg_sl ([.ref (q 5), .int x1, .int x2]) ++ List.replicate (3 - (lg_sl ([.ref (q 5), .int x1, .int x2])).length) Slot.unset).toArray = ls at hl ⊢
  exact bX_X7_isWithin_Bits ⟨B.exec, B.bytes, hml, findClass_of_methodNamed B.named, fun w h => atoms_spec (ws := vsX7_isWithin) B.pre w (List.mem_cons_of_mem _ h), B.returns, B.notSynchronized⟩ ⟨hK, fun q h => Or.inr h, hN⟩ x1 x2 S s.heap [] ls ⟨hP, hD0.self, va_S.rf⟩ hl  h
def rmX_X10_best : Room := { frames := 3, cells := 0, slots := 0, locals := 65 }
set_option maxHeartbeats 4000000 in
set_option maxRecDepth 100000 in
theorem bX_X10_best_24 {p : Program} {l : Launch} {e : Env} {s : State} {m : MethodId} {args : Array Value} {below : List Frame} {meth : Method} {c : Code} {D : va_G} {cI cS cW : ClassId} {q : Nat → Nat} {A : Nat → Prop} {res : Int32} (C : zCX p s m args meth c cX10_best 5 (some .int) zU RX10) (hE : zE D (zyX cI cS cW) znX A s) (K5 : (Int32 → Int32 → Int32 → Int32 → zSt → Option (Int32))) (hK5 : ∀ (x1 x2 x3 x4 : Int32) (S : zSt) (H : Heap) (locs : List Loc) (ls : Array Slot), zH D (zwX cI cS cW q) A s S H locs → lv_has ls 5 [(0, .ref (q 6)), (1, .int x1), (2, .int x2), (3, .int x3), (4, .int x4)] → K5 x1 x2 x3 x4 S = some res → W p l e rmX_X10_best s m args below meth c H locs 0 0 (zQi below D (zwX cI cS cW q) (zyX cI cS cW) A args s res S) (F0 m 5 ls [])) (x1 x2 x3 x4 t0 : Int32) (S : zSt) (H : Heap) (locs : List Loc) (ls : Array Slot) (hH : zH D (zwX cI cS cW q) A s S H locs) (hl : lv_has ls 5 [(0, .ref (q 6)), (1, .int x1), (2, .int x2), (3, .int x3), (4, .int x4)]) (h : fX_X10_best_24 K5 x1 x2 x3 x4 t0 S = some res) : W p l e rmX_X10_best s m args below meth c H locs 0 0 (zQi below D (zwX cI cS cW q) (zyX cI cS cW) A args s res S) (F0 m 24 ls [.int t0]) := by
  have hx := C.1
  have hb := C.2.1
  unfold fX_X10_best_24 at h
  refine lv_if_eq (tgt := 34) hx hb dX10_best_24 (by decide) (fun c1 => ?_) (fun c1 => ?_)
  · replace h := zif_t c1 h
    refine lv_iinc (v := (x4 + 1)) (lv' := [(4, .int (x4 + 1)), (0, .ref (q 6)), (1, .int x1), (2, .int x2), (3, .int x3)]) hx hb dX10_best_34 hl (k := 4) rfl rfl (by decide) rfl (fun ls hl => ?_)
    refine lv_goto (tgt := 5) hx hb dX10_best_37 (by decide) ?_
    exact hK5 x1 x2 x3 (x4 + 1) S H locs ls hH (lv_sub hl [1, 2, 3, 4, 0] rfl) h
  · replace h := zif_f c1 h
    refine lv_iload_n hx hb dX10_best_27 rfl (lv_at hl 3 rfl) ?_
    refine lv_iconst (v := 1) hx hb dX10_best_28 (by decide) ?_
    refine lv_iload hx hb dX10_best_29 (lv_at hl 4 rfl) ?_
    refine lv_ishl hx hb dX10_best_31 ?_
    refine lv_ior hx hb dX10_best_32 ?_
    refine lv_istore_n (lv' := [(3, .int (x3 ||| (1 <<< (x4 &&& 31)))), (0, .ref (q 6)), (1, .int x1), (2, .int x2), (4, .int x4)]) hx hb dX10_best_33 rfl hl (by decide) rfl (fun ls hl => ?_)
    refine lv_iinc (v := (x4 + 1)) (lv' := [(4, .int (x4 + 1)), (3, .int (x3 ||| (1 <<< (x4 &&& 31)))), (0, .ref (q 6)), (1, .int x1), (2, .int x2)]) hx hb dX10_best_34 hl (k := 4) rfl rfl (by decide) rfl (fun ls hl => ?_)
    refine lv_goto (tgt := 5) hx hb dX10_best_37 (by decide) ?_
    exact hK5 x1 x2 (x3 ||| (1 <<< (x4 &&& 31))) (x4 + 1) S H locs ls hH (lv_sub hl [2, 3, 4, 1, 0] rfl) h
set_option maxHeartbeats 4000000 in
set_option maxRecDepth 100000 in
theorem bX_X10_best_19 {p : Program} {l : Launch} {e : Env} {s : State} {m : MethodId} {args : Array Value} {below : List Frame} {meth : Method} {c : Code} {D : va_G} {cI cS cW : ClassId} {q : Nat → Nat} {A : Nat → Prop} {res : Int32} (C : zCX p s m args meth c cX10_best 5 (some .int) zU RX10) (hE : zE D (zyX cI cS cW) znX A s) (K5 : (Int32 → Int32 → Int32 → Int32 → zSt → Option (Int32))) (hK5 : ∀ (x1 x2 x3 x4 : Int32) (S : zSt) (H : Heap) (locs : List Loc) (ls : Array Slot), zH D (zwX cI cS cW q) A s S H locs → lv_has ls 5 [(0, .ref (q 6)), (1, .int x1), (2, .int x2), (3, .int x3), (4, .int x4)] → K5 x1 x2 x3 x4 S = some res → W p l e rmX_X10_best s m args below meth c H locs 0 0 (zQi below D (zwX cI cS cW q) (zyX cI cS cW) A args s res S) (F0 m 5 ls [])) (k0 : Nat) (x1 x2 x3 x4 : Int32) (S : zSt) (H : Heap) (locs : List Loc) (ls : Array Slot) (hH : zH D (zwX cI cS cW q) A s S H locs) (hl : lv_has ls 5 [(0, .ref (q 6)), (1, .int x1), (2, .int x2), (3, .int x3), (4, .int x4)]) (hj_k0 : k0 < 6) (h : fX_X10_best_19 K5 k0 x1 x2 x3 x4 S = some res) : W p l e rmX_X10_best s m args below meth c H locs 0 0 (zQi below D (zwX cI cS cW q) (zyX cI cS cW) A args s res S) (F0 m 19 ls [.ref (q k0)]) := by
  have hx := C.1
  have hb := C.2.1
  unfold fX_X10_best_19 at h
  refine lv_iload_n hx hb dX10_best_19 rfl (lv_at hl 1 rfl) ?_
  refine lv_iload_n hx hb dX10_best_20 rfl (lv_at hl 2 rfl) ?_
  obtain ⟨u1, e2, hh⟩ := zbd_s h
  clear h
  rcases z6 hj_k0 with rfl | rfl | rfl | rfl | rfl | rfl
  · have h := hh
    refine z_calli (va_runU (As := [.int x1, .int x2]) (rest := []) (z_fix C) (cX_X7_isWithin_Row l D cI cS cW q H.size  x1 x2 S (fX_d_isWithin_0.symm.trans e2)) (va_cwU 2 C.2.2.2.2.1 (zGU (x := ⟨"WhichShelf$Shelf", "isWithin", "(II)Z"⟩) (owner := "WhichShelf$Shelf") zk32_8 zk32_9 zk32_17 zk32_11 zk3_13 zk32_12) rfl rfl rfl rfl ydu_X7_isWithin ⟨Nat.le_of_ble_eq_true rfl, Nat.le_of_ble_eq_true rfl⟩) (z_preV (zNmX hE) hE hH zX_o0 rfl) rfl rfl hl.1 rfl (lv_room (Nat.le_of_ble_eq_true rfl)) dX10_best_21 ⟨Nat.le_refl 0, Nat.le_refl 0⟩) hE hH (fun H locs hH => ?_)
    exact bX_X10_best_24 C hE K5 hK5 x1 x2 x3 x4 u1 S H locs ls hH (lv_sub hl [0, 1, 2, 3, 4] rfl) h
  · have h := hh
    refine z_calli (va_runU (As := [.int x1, .int x2]) (rest := []) (z_fix C) (cX_X7_isWithin_Sorted l D cI cS cW q H.size  x1 x2 S (fX_d_isWithin_1.symm.trans e2)) (va_cwU 2 C.2.2.2.2.1 (zGU (x := ⟨"WhichShelf$Shelf", "isWithin", "(II)Z"⟩) (owner := "WhichShelf$Shelf") zk32_8 zk32_9 zk32_18 zk32_11 zk3_13 zk32_12) rfl rfl rfl rfl ydu_X7_isWithin ⟨Nat.le_of_ble_eq_true rfl, Nat.le_of_ble_eq_true rfl⟩) (z_preV (zNmX hE) hE hH zX_o1 rfl) rfl rfl hl.1 rfl (lv_room (Nat.le_of_ble_eq_true rfl)) dX10_best_21 ⟨Nat.le_refl 0, Nat.le_refl 0⟩) hE hH (fun H locs hH => ?_)
    exact bX_X10_best_24 C hE K5 hK5 x1 x2 x3 x4 u1 S H locs ls hH (lv_sub hl [0, 1, 2, 3, 4] rfl) h
  · have h := hh
    refine z_calli (va_runU (As := [.int x1, .int x2]) (rest := []) (z_fix C) (cX_X7_isWithin_Hash l D cI cS cW q H.size  x1 x2 S (fX_d_isWithin_2.symm.trans e2)) (va_cwU 2 C.2.2.2.2.1 (zGU (x := ⟨"WhichShelf$Shelf", "isWithin", "(II)Z"⟩) (owner := "WhichShelf$Shelf") zk32_8 zk32_9 zk32_15 zk32_11 zk3_13 zk32_12) rfl rfl rfl rfl ydu_X7_isWithin ⟨Nat.le_of_ble_eq_true rfl, Nat.le_of_ble_eq_true rfl⟩) (z_preV (zNmX hE) hE hH zX_o2 rfl) rfl rfl hl.1 rfl (lv_room (Nat.le_of_ble_eq_true rfl)) dX10_best_21 ⟨Nat.le_refl 0, Nat.le_refl 0⟩) hE hH (fun H locs hH => ?_)
    exact bX_X10_best_24 C hE K5 hK5 x1 x2 x3 x4 u1 S H locs ls hH (lv_sub hl [0, 1, 2, 3, 4] rfl) h
  · have h := hh
    refine z_calli (va_runU (As := [.int x1, .int x2]) (rest := []) (z_fix C) (cX_X7_isWithin_Tree l D cI cS cW q H.size  x1 x2 S (fX_d_isWithin_3.symm.trans e2)) (va_cwU 2 C.2.2.2.2.1 (zGU (x := ⟨"WhichShelf$Shelf", "isWithin", "(II)Z"⟩) (owner := "WhichShelf$Shelf") zk32_8 zk32_9 zk32_19 zk32_11 zk3_13 zk32_12) rfl rfl rfl rfl ydu_X7_isWithin ⟨Nat.le_of_ble_eq_true rfl, Nat.le_of_ble_eq_true rfl⟩) (z_preV (zNmX hE) hE hH zX_o3 rfl) rfl rfl hl.1 rfl (lv_room (Nat.le_of_ble_eq_true rfl)) dX10_best_21 ⟨Nat.le_refl 0, Nat.le_refl 0⟩) hE hH (fun H locs hH => ?_)
    exact bX_X10_best_24 C hE K5 hK5 x1 x2 x3 x4 u1 S H locs ls hH (lv_sub hl [0, 1, 2, 3, 4] rfl) h
  · have h := hh
    refine z_calli (va_runU (As := [.int x1, .int x2]) (rest := []) (z_fix C) (cX_X7_isWithin_Heap l D cI cS cW q H.size  x1 x2 S (fX_d_isWithin_4.symm.trans e2)) (va_cwU 2 C.2.2.2.2.1 (zGU (x := ⟨"WhichShelf$Shelf", "isWithin", "(II)Z"⟩) (owner := "WhichShelf$Shelf") zk32_8 zk32_9 zk32_16 zk32_11 zk3_13 zk32_12) rfl rfl rfl rfl ydu_X7_isWithin ⟨Nat.le_of_ble_eq_true rfl, Nat.le_of_ble_eq_true rfl⟩) (z_preV (zNmX hE) hE hH zX_o4 rfl) rfl rfl hl.1 rfl (lv_room (Nat.le_of_ble_eq_true rfl)) dX10_best_21 ⟨Nat.le_refl 0, Nat.le_refl 0⟩) hE hH (fun H locs hH => ?_)
    exact bX_X10_best_24 C hE K5 hK5 x1 x2 x3 x4 u1 S H locs ls hH (lv_sub hl [0, 1, 2, 3, 4] rfl) h
  · have h := hh
    refine z_calli (va_runU (As := [.int x1, .int x2]) (rest := []) (z_fix C) (cX_X7_isWithin_Bits l D cI cS cW q H.size  x1 x2 S (fX_d_isWithin_5.symm.trans e2)) (va_cwU 2 C.2.2.2.2.1 (zGU (x := ⟨"WhichShelf$Shelf", "isWithin", "(II)Z"⟩) (owner := "WhichShelf$Shelf") zk32_8 zk32_9 zk32_10 zk32_11 zk3_13 zk32_12) rfl rfl rfl rfl ydu_X7_isWithin ⟨Nat.le_of_ble_eq_true rfl, Nat.le_of_ble_eq_true rfl⟩) (z_preV (zNmX hE) hE hH zX_o5 rfl) rfl rfl hl.1 rfl (lv_room (Nat.le_of_ble_eq_true rfl)) dX10_best_21 ⟨Nat.le_refl 0, Nat.le_refl 0⟩) hE hH (fun H locs hH => ?_)
    exact bX_X10_best_24 C hE K5 hK5 x1 x2 x3 x4 u1 S H locs ls hH (lv_sub hl [0, 1, 2, 3, 4] rfl) h
set_option maxHeartbeats 4000000 in
set_option maxRecDepth 100000 in
theorem bX_X10_best_5 {p : Program} {l : Launch} {e : Env} {s : State} {m : MethodId} {args : Array Value} {below : List Frame} {meth : Method} {c : Code} {D : va_G} {cI cS cW : ClassId} {q : Nat → Nat} {A : Nat → Prop} {res : Int32} (C : zCX p s m args meth c cX10_best 5 (some .int) zU RX10) (hE : zE D (zyX cI cS cW) znX A s) : ∀ (n : Nat) (x1 x2 x3 x4 : Int32) (S : zSt) (H : Heap) (locs : List Loc) (ls : Array Slot), zH D (zwX cI cS cW q) A s S H locs → lv_has ls 5 [(0, .ref (q 6)), (1, .int x1), (2, .int x2), (3, .int x3), (4, .int x4)] → fX_X10_best_5  n x1 x2 x3 x4 S = some res → W p l e rmX_X10_best s m args below meth c H locs 0 0 (zQi below D (zwX cI cS cW q) (zyX cI cS cW) A args s res S) (F0 m 5 ls []) := by
  have hx := C.1
  have hb := C.2.1
  intro n
  induction n with
  | zero =>
    intro x1 x2 x3 x4 S H locs ls hH hl  h
    cases h
  | succ n hK5 =>
    intro x1 x2 x3 x4 S H locs ls hH hl  h
    rw [fX_X10_best_5] at h
    refine lv_iload hx hb dX10_best_5 (lv_at hl 4 rfl) ?_
    refine lv_bipush (v := 6) hx hb dX10_best_7 (by decide) ?_
    refine lv_icmp_ge (tgt := 40) hx hb dX10_best_9 (by decide) (fun c1 => ?_) (fun c1 => ?_)
    · replace h := zif_t c1 h
      refine lv_aload_n hx hb dX10_best_40 rfl (lv_at hl 0 rfl) ?_
      refine lv_iconst (v := 0) hx hb dX10_best_41 (by decide) ?_
      refine lv_aload_n hx hb dX10_best_42 rfl (lv_at hl 0 rfl) ?_
      obtain ⟨u2, e3, h⟩ := zbd_s h
      refine z_calli (va_runV (As := []) (rest := [.int 0, .ref (q 6)]) (z_fix C) (cX_X10_offered l D cI cS cW q H.size   S e3) (cwV 0 C.2.2.2.2.1 (zGV zk30_20 zk30_21 zk30_22 zk1_2 zk30_23) rfl rfl rfl yd_X10_offered ⟨Nat.le_of_ble_eq_true rfl, Nat.le_of_ble_eq_true rfl⟩) (z_preV (zNmX hE) hE hH zX_o6 rfl) rfl rfl hl.1 rfl (lv_room (Nat.le_of_ble_eq_true rfl)) dX10_best_43 ⟨Nat.le_refl 0, Nat.le_refl 0⟩) hE hH (fun H locs hH => ?_)
      refine lv_iload_n hx hb dX10_best_46 rfl (lv_at hl 3 rfl) ?_
      refine lv_iand hx hb dX10_best_47 ?_
      obtain ⟨u4, e5, h⟩ := zbd_s h
      refine z_calli (va_runV (As := [.int 0, .int (u2 &&& x3)]) (rest := []) (z_fix C) (cX_X10_cheapestSince l D cI cS cW q H.size  0 (u2 &&& x3) S e5) (cwV 2 C.2.2.2.2.1 (zGV zk32_20 zk32_21 zk32_22 zk1_2 zk32_23) rfl rfl rfl yd_X10_cheapestSince ⟨Nat.le_of_ble_eq_true rfl, Nat.le_of_ble_eq_true rfl⟩) (z_preV (zNmX hE) hE hH zX_o6 rfl) rfl rfl hl.1 rfl (lv_room (Nat.le_of_ble_eq_true rfl)) dX10_best_48 ⟨Nat.le_refl 0, Nat.le_refl 0⟩) hE hH (fun H locs hH => ?_)
      cases h
      exact z_iret C hE hH dX10_best_51
    · replace h := zif_f c1 h
      refine lv_aload_n hx hb dX10_best_12 rfl (lv_at hl 0 rfl) ?_
      refine z_get C hE hH zX_o6 rfl zh_X10 1 (by decide) zk2_9 (fun _ h9 => h9) (v := .ref (q 8)) rfl dX10_best_13 ?_
      refine lv_iload hx hb dX10_best_16 (lv_at hl 4 rfl) ?_
      obtain ⟨g6, h⟩ := zgd_s h
      refine z_aldq C hE hH zX_sh (t0 := 1) rfl g6 dX10_best_18 ?_
      exact bX_X10_best_19 C hE (fX_X10_best_5  n) hK5 x4.toNatClampNeg x1 x2 x3 x4 S H locs ls hH (lv_sub hl [0, 1, 2, 3, 4] rfl) (zin_lt g6) h
set_option maxHeartbeats 4000000 in
set_option maxRecDepth 100000 in
theorem bX_X10_best {p : Program} {l : Launch} {e : Env} {s : State} {m : MethodId} {args : Array Value} {below : List Frame} {meth : Method} {c : Code} {D : va_G} {cI cS cW : ClassId} {q : Nat → Nat} {A : Nat → Prop} {res : Int32} (C : zCX p s m args meth c cX10_best 5 (some .int) zU RX10) (hE : zE D (zyX cI cS cW) znX A s) (x1 x2 : Int32) (S : zSt) (H : Heap) (locs : List Loc) (ls : Array Slot) (hH : zH D (zwX cI cS cW q) A s S H locs) (hl : lv_has ls 5 [(0, .ref (q 6)), (1, .int x1), (2, .int x2)]) (h : fX_X10_best  x1 x2 S = some res) : W p l e rmX_X10_best s m args below meth c H locs 0 0 (zQi below D (zwX cI cS cW q) (zyX cI cS cW) A args s res S) (F0 m 0 ls []) := by
  have hx := C.1
  have hb := C.2.1
  unfold fX_X10_best at h
  refine lv_iconst (v := 0) hx hb dX10_best_0 (by decide) ?_
  refine lv_istore_n (lv' := [(3, .int 0), (0, .ref (q 6)), (1, .int x1), (2, .int x2)]) hx hb dX10_best_1 rfl hl (by decide) rfl (fun ls hl => ?_)
  refine lv_iconst (v := 0) hx hb dX10_best_2 (by decide) ?_
  refine lv_istore (lv' := [(4, .int 0), (3, .int 0), (0, .ref (q 6)), (1, .int x1), (2, .int x2)]) hx hb dX10_best_3 hl (by decide) rfl (fun ls hl => ?_)
  exact bX_X10_best_5 C hE   1000 x1 x2 0 0 S H locs ls hH (lv_sub hl [2, 3, 4, 1, 0] rfl) h
set_option maxHeartbeats 4000000 in
set_option maxRecDepth 100000 in
theorem cX_X10_best (l : Launch) (D : va_G) (cI cS cW : ClassId) (q : Nat → Nat) (sz : Nat) (x1 : Int32) (x2 : Int32) (S : zSt) {res : Int32} (h : fX_X10_best x1 x2 S = some res) : zMi l yX10_best vsX10_best rmX_X10_best [.ref (q 6), .int x1, .int x2] D (zwX cI cS cW q) (zyX cI cS cW) znX sz S res S := by
  refine Met.ofW (cc := cX10_best) (maxL := 5) (ret := (some .int)) (by decide) rfl ?_
  intro p e s m args below meth c s₁ B hml hv
  obtain ⟨rfl, rfl, hP, hK, hD0, hN⟩ := hv
  have hl := lv_entry ([.ref (q 6), .int x1, .int x2]) (n := 5) (Nat.le_of_ble_eq_true rfl)
  rw [lg_entry_eq]
  generalize (lg_sl ([.ref (q 6), .int x1, .int x2]) ++ List.replicate (5 - (lg_sl ([.ref (q 6), .int x1, .int x2])).length) Slot.unset).toArray = ls at hl ⊢
  exact bX_X10_best ⟨B.exec, B.bytes, hml, findClass_of_methodNamed B.named, fun w h => atoms_spec (ws := vsX10_best) B.pre w (List.mem_cons_of_mem _ h), B.returns, B.notSynchronized⟩ ⟨hK, fun q h => Or.inr h, hN⟩ x1 x2 S s.heap [] ls ⟨hP, hD0.self, va_S.rf⟩ hl  h
def rmX_X10_drift : Room := { frames := 3, cells := 0, slots := 0, locals := 62 }
set_option maxHeartbeats 4000000 in
set_option maxRecDepth 100000 in
theorem bX_X10_drift_91 {p : Program} {l : Launch} {e : Env} {s : State} {m : MethodId} {args : Array Value} {below : List Frame} {meth : Method} {c : Code} {D : va_G} {cI cS cW : ClassId} {q : Nat → Nat} {A : Nat → Prop} {res : Int32} (C : zCX p s m args meth c cX10_drift 8 (some .int) zU RX10) (hE : zE D (zyX cI cS cW) znX A s) (x6 t0 t1 : Int32) (S : zSt) (H : Heap) (locs : List Loc) (ls : Array Slot) (hH : zH D (zwX cI cS cW q) A s S H locs) (hl : lv_has ls 8 [(6, .int x6)]) (h : fX_X10_drift_91  x6 t0 t1 S = some res) : W p l e rmX_X10_drift s m args below meth c H locs 0 0 (zQi below D (zwX cI cS cW q) (zyX cI cS cW) A args s res S) (F0 m 91 ls [.int t1, .int t0]) := by
  have hx := C.1
  have hb := C.2.1
  unfold fX_X10_drift_91 at h
  refine lv_isub hx hb dX10_drift_91 ?_
  refine lv_istore (lv' := [(7, .int (t0 - t1)), (6, .int x6)]) hx hb dX10_drift_92 hl (by decide) rfl (fun ls hl => ?_)
  refine lv_iload hx hb dX10_drift_94 (lv_at hl 1 rfl) ?_
  refine lv_if_ne (tgt := 103) hx hb dX10_drift_96 (by decide) (fun c1 => ?_) (fun c1 => ?_)
  · replace h := zif_f c1 h
    refine lv_iload hx hb dX10_drift_103 (lv_at hl 0 rfl) ?_
    refine lv_bipush (v := 100) hx hb dX10_drift_105 (by decide) ?_
    refine lv_imul hx hb dX10_drift_107 ?_
    refine lv_iload hx hb dX10_drift_108 (lv_at hl 1 rfl) ?_
    obtain ⟨g2, h⟩ := zgd_s h
    refine lv_idiv hx hb dX10_drift_110 (znz_v g2) ?_
    cases h
    exact z_iret C hE hH dX10_drift_111
  · replace h := zif_t c1 h
    refine lv_iconst (v := 0) hx hb dX10_drift_99 (by decide) ?_
    refine lv_goto (tgt := 111) hx hb dX10_drift_100 (by decide) ?_
    cases h
    exact z_iret C hE hH dX10_drift_111
set_option maxHeartbeats 4000000 in
set_option maxRecDepth 100000 in
theorem bX_X10_drift_86 {p : Program} {l : Launch} {e : Env} {s : State} {m : MethodId} {args : Array Value} {below : List Frame} {meth : Method} {c : Code} {D : va_G} {cI cS cW : ClassId} {q : Nat → Nat} {A : Nat → Prop} {res : Int32} (C : zCX p s m args meth c cX10_drift 8 (some .int) zU RX10) (hE : zE D (zyX cI cS cW) znX A s) (k1 : Nat) (x4 x6 t0 : Int32) (S : zSt) (H : Heap) (locs : List Loc) (ls : Array Slot) (hH : zH D (zwX cI cS cW q) A s S H locs) (hl : lv_has ls 8 [(4, .int x4), (6, .int x6)]) (hj_k1 : k1 < 6) (h : fX_X10_drift_86  k1 x4 x6 t0 S = some res) : W p l e rmX_X10_drift s m args below meth c H locs 0 0 (zQi below D (zwX cI cS cW q) (zyX cI cS cW) A args s res S) (F0 m 86 ls [.ref (q k1), .int t0]) := by
  have hx := C.1
  have hb := C.2.1
  unfold fX_X10_drift_86 at h
  refine lv_iload hx hb dX10_drift_86 (lv_at hl 0 rfl) ?_
  obtain ⟨u1, e2, hh⟩ := zbd_s h
  clear h
  rcases z6 hj_k1 with rfl | rfl | rfl | rfl | rfl | rfl
  · have h := hh
    refine z_calli (va_runU (As := [.int x4]) (rest := [.int t0]) (z_fix C) (cX_X7_stepsSince_Row l D cI cS cW q H.size  x4 S (fX_d_stepsSince_0.symm.trans e2)) (va_cwU 1 C.2.2.2.2.1 (zGU (x := ⟨"WhichShelf$Shelf", "stepsSince", "(I)I"⟩) (owner := "WhichShelf$Shelf") zk29_2 zk29_3 zk29_10 zk29_5 zk3_13 zk29_6) rfl rfl rfl rfl ydu_X7_stepsSince ⟨Nat.le_of_ble_eq_true rfl, Nat.le_of_ble_eq_true rfl⟩) (z_preV (zNmX hE) hE hH zX_o0 rfl) rfl rfl hl.1 rfl (lv_room (Nat.le_of_ble_eq_true rfl)) dX10_drift_88 ⟨Nat.le_refl 0, Nat.le_refl 0⟩) hE hH (fun H locs hH => ?_)
    exact bX_X10_drift_91 C hE   x6 t0 u1 S H locs ls hH (lv_sub hl [1] rfl) h
  · have h := hh
    refine z_calli (va_runU (As := [.int x4]) (rest := [.int t0]) (z_fix C) (cX_X7_stepsSince_Sorted l D cI cS cW q H.size  x4 S (fX_d_stepsSince_1.symm.trans e2)) (va_cwU 1 C.2.2.2.2.1 (zGU (x := ⟨"WhichShelf$Shelf", "stepsSince", "(I)I"⟩) (owner := "WhichShelf$Shelf") zk29_2 zk29_3 zk29_11 zk29_5 zk3_13 zk29_6) rfl rfl rfl rfl ydu_X7_stepsSince ⟨Nat.le_of_ble_eq_true rfl, Nat.le_of_ble_eq_true rfl⟩) (z_preV (zNmX hE) hE hH zX_o1 rfl) rfl rfl hl.1 rfl (lv_room (Nat.le_of_ble_eq_true rfl)) dX10_drift_88 ⟨Nat.le_refl 0, Nat.le_refl 0⟩) hE hH (fun H locs hH => ?_)
    exact bX_X10_drift_91 C hE   x6 t0 u1 S H locs ls hH (lv_sub hl [1] rfl) h
  · have h := hh
    refine z_calli (va_runU (As := [.int x4]) (rest := [.int t0]) (z_fix C) (cX_X7_stepsSince_Hash l D cI cS cW q H.size  x4 S (fX_d_stepsSince_2.symm.trans e2)) (va_cwU 1 C.2.2.2.2.1 (zGU (x := ⟨"WhichShelf$Shelf", "stepsSince", "(I)I"⟩) (owner := "WhichShelf$Shelf") zk29_2 zk29_3 zk29_8 zk29_5 zk3_13 zk29_6) rfl rfl rfl rfl ydu_X7_stepsSince ⟨Nat.le_of_ble_eq_true rfl, Nat.le_of_ble_eq_true rfl⟩) (z_preV (zNmX hE) hE hH zX_o2 rfl) rfl rfl hl.1 rfl (lv_room (Nat.le_of_ble_eq_true rfl)) dX10_drift_88 ⟨Nat.le_refl 0, Nat.le_refl 0⟩) hE hH (fun H locs hH => ?_)
    exact bX_X10_drift_91 C hE   x6 t0 u1 S H locs ls hH (lv_sub hl [1] rfl) h
  · have h := hh
    refine z_calli (va_runU (As := [.int x4]) (rest := [.int t0]) (z_fix C) (cX_X7_stepsSince_Tree l D cI cS cW q H.size  x4 S (fX_d_stepsSince_3.symm.trans e2)) (va_cwU 1 C.2.2.2.2.1 (zGU (x := ⟨"WhichShelf$Shelf", "stepsSince", "(I)I"⟩) (owner := "WhichShelf$Shelf") zk29_2 zk29_3 zk29_12 zk29_5 zk3_13 zk29_6) rfl rfl rfl rfl ydu_X7_stepsSince ⟨Nat.le_of_ble_eq_true rfl, Nat.le_of_ble_eq_true rfl⟩) (z_preV (zNmX hE) hE hH zX_o3 rfl) rfl rfl hl.1 rfl (lv_room (Nat.le_of_ble_eq_true rfl)) dX10_drift_88 ⟨Nat.le_refl 0, Nat.le_refl 0⟩) hE hH (fun H locs hH => ?_)
    exact bX_X10_drift_91 C hE   x6 t0 u1 S H locs ls hH (lv_sub hl [1] rfl) h
  · have h := hh
    refine z_calli (va_runU (As := [.int x4]) (rest := [.int t0]) (z_fix C) (cX_X7_stepsSince_Heap l D cI cS cW q H.size  x4 S (fX_d_stepsSince_4.symm.trans e2)) (va_cwU 1 C.2.2.2.2.1 (zGU (x := ⟨"WhichShelf$Shelf", "stepsSince", "(I)I"⟩) (owner := "WhichShelf$Shelf") zk29_2 zk29_3 zk29_9 zk29_5 zk3_13 zk29_6) rfl rfl rfl rfl ydu_X7_stepsSince ⟨Nat.le_of_ble_eq_true rfl, Nat.le_of_ble_eq_true rfl⟩) (z_preV (zNmX hE) hE hH zX_o4 rfl) rfl rfl hl.1 rfl (lv_room (Nat.le_of_ble_eq_true rfl)) dX10_drift_88 ⟨Nat.le_refl 0, Nat.le_refl 0⟩) hE hH (fun H locs hH => ?_)
    exact bX_X10_drift_91 C hE   x6 t0 u1 S H locs ls hH (lv_sub hl [1] rfl) h
  · have h := hh
    refine z_calli (va_runU (As := [.int x4]) (rest := [.int t0]) (z_fix C) (cX_X7_stepsSince_Bits l D cI cS cW q H.size  x4 S (fX_d_stepsSince_5.symm.trans e2)) (va_cwU 1 C.2.2.2.2.1 (zGU (x := ⟨"WhichShelf$Shelf", "stepsSince", "(I)I"⟩) (owner := "WhichShelf$Shelf") zk29_2 zk29_3 zk29_4 zk29_5 zk3_13 zk29_6) rfl rfl rfl rfl ydu_X7_stepsSince ⟨Nat.le_of_ble_eq_true rfl, Nat.le_of_ble_eq_true rfl⟩) (z_preV (zNmX hE) hE hH zX_o5 rfl) rfl rfl hl.1 rfl (lv_room (Nat.le_of_ble_eq_true rfl)) dX10_drift_88 ⟨Nat.le_refl 0, Nat.le_refl 0⟩) hE hH (fun H locs hH => ?_)
    exact bX_X10_drift_91 C hE   x6 t0 u1 S H locs ls hH (lv_sub hl [1] rfl) h
set_option maxHeartbeats 4000000 in
set_option maxRecDepth 100000 in
theorem bX_X10_drift_75 {p : Program} {l : Launch} {e : Env} {s : State} {m : MethodId} {args : Array Value} {below : List Frame} {meth : Method} {c : Code} {D : va_G} {cI cS cW : ClassId} {q : Nat → Nat} {A : Nat → Prop} {res : Int32} (C : zCX p s m args meth c cX10_drift 8 (some .int) zU RX10) (hE : zE D (zyX cI cS cW) znX A s) (x4 x5 t0 : Int32) (S : zSt) (H : Heap) (locs : List Loc) (ls : Array Slot) (hH : zH D (zwX cI cS cW q) A s S H locs) (hl : lv_has ls 8 [(0, .ref (q 6)), (4, .int x4), (5, .int x5)]) (h : fX_X10_drift_75  x4 x5 t0 S = some res) : W p l e rmX_X10_drift s m args below meth c H locs 0 0 (zQi below D (zwX cI cS cW q) (zyX cI cS cW) A args s res S) (F0 m 75 ls [.int t0]) := by
  have hx := C.1
  have hb := C.2.1
  unfold fX_X10_drift_75 at h
  refine lv_istore (lv' := [(6, .int t0), (0, .ref (q 6)), (4, .int x4), (5, .int x5)]) hx hb dX10_drift_75 hl (by decide) rfl (fun ls hl => ?_)
  refine lv_iload hx hb dX10_drift_77 (lv_at hl 0 rfl) ?_
  refine lv_aload_n hx hb dX10_drift_79 rfl (lv_at hl 1 rfl) ?_
  refine z_get C hE hH zX_o6 rfl zh_X10 1 (by decide) zk2_9 (fun _ h9 => h9) (v := .ref (q 8)) rfl dX10_drift_80 ?_
  refine lv_iload hx hb dX10_drift_83 (lv_at hl 3 rfl) ?_
  obtain ⟨g1, h⟩ := zgd_s h
  refine z_aldq C hE hH zX_sh (t0 := 1) rfl g1 dX10_drift_85 ?_
  exact bX_X10_drift_86 C hE   x5.toNatClampNeg x4 t0 t0 S H locs ls hH (lv_sub hl [2, 0] rfl) (zin_lt g1) h
set_option maxHeartbeats 4000000 in
set_option maxRecDepth 100000 in
theorem bX_X10_drift_70 {p : Program} {l : Launch} {e : Env} {s : State} {m : MethodId} {args : Array Value} {below : List Frame} {meth : Method} {c : Code} {D : va_G} {cI cS cW : ClassId} {q : Nat → Nat} {A : Nat → Prop} {res : Int32} (C : zCX p s m args meth c cX10_drift 8 (some .int) zU RX10) (hE : zE D (zyX cI cS cW) znX A s) (k0 : Nat) (x4 x5 : Int32) (S : zSt) (H : Heap) (locs : List Loc) (ls : Array Slot) (hH : zH D (zwX cI cS cW q) A s S H locs) (hl : lv_has ls 8 [(0, .ref (q 6)), (4, .int x4), (5, .int x5)]) (hj_k0 : k0 < 6) (h : fX_X10_drift_70  k0 x4 x5 S = some res) : W p l e rmX_X10_drift s m args below meth c H locs 0 0 (zQi below D (zwX cI cS cW q) (zyX cI cS cW) A args s res S) (F0 m 70 ls [.ref (q k0)]) := by
  have hx := C.1
  have hb := C.2.1
  unfold fX_X10_drift_70 at h
  refine lv_iload hx hb dX10_drift_70 (lv_at hl 1 rfl) ?_
  obtain ⟨u1, e2, hh⟩ := zbd_s h
  clear h
  rcases z6 hj_k0 with rfl | rfl | rfl | rfl | rfl | rfl
  · have h := hh
    refine z_calli (va_runU (As := [.int x4]) (rest := []) (z_fix C) (cX_X7_stepsSince_Row l D cI cS cW q H.size  x4 S (fX_d_stepsSince_0.symm.trans e2)) (va_cwU 1 C.2.2.2.2.1 (zGU (x := ⟨"WhichShelf$Shelf", "stepsSince", "(I)I"⟩) (owner := "WhichShelf$Shelf") zk29_2 zk29_3 zk29_10 zk29_5 zk3_13 zk29_6) rfl rfl rfl rfl ydu_X7_stepsSince ⟨Nat.le_of_ble_eq_true rfl, Nat.le_of_ble_eq_true rfl⟩) (z_preV (zNmX hE) hE hH zX_o0 rfl) rfl rfl hl.1 rfl (lv_room (Nat.le_of_ble_eq_true rfl)) dX10_drift_72 ⟨Nat.le_refl 0, Nat.le_refl 0⟩) hE hH (fun H locs hH => ?_)
    exact bX_X10_drift_75 C hE   x4 x5 u1 S H locs ls hH (lv_sub hl [0, 1, 2] rfl) h
  · have h := hh
    refine z_calli (va_runU (As := [.int x4]) (rest := []) (z_fix C) (cX_X7_stepsSince_Sorted l D cI cS cW q H.size  x4 S (fX_d_stepsSince_1.symm.trans e2)) (va_cwU 1 C.2.2.2.2.1 (zGU (x := ⟨"WhichShelf$Shelf", "stepsSince", "(I)I"⟩) (owner := "WhichShelf$Shelf") zk29_2 zk29_3 zk29_11 zk29_5 zk3_13 zk29_6) rfl rfl rfl rfl ydu_X7_stepsSince ⟨Nat.le_of_ble_eq_true rfl, Nat.le_of_ble_eq_true rfl⟩) (z_preV (zNmX hE) hE hH zX_o1 rfl) rfl rfl hl.1 rfl (lv_room (Nat.le_of_ble_eq_true rfl)) dX10_drift_72 ⟨Nat.le_refl 0, Nat.le_refl 0⟩) hE hH (fun H locs hH => ?_)
    exact bX_X10_drift_75 C hE   x4 x5 u1 S H locs ls hH (lv_sub hl [0, 1, 2] rfl) h
  · have h := hh
    refine z_calli (va_runU (As := [.int x4]) (rest := []) (z_fix C) (cX_X7_stepsSince_Hash l D cI cS cW q H.size  x4 S (fX_d_stepsSince_2.symm.trans e2)) (va_cwU 1 C.2.2.2.2.1 (zGU (x := ⟨"WhichShelf$Shelf", "stepsSince", "(I)I"⟩) (owner := "WhichShelf$Shelf") zk29_2 zk29_3 zk29_8 zk29_5 zk3_13 zk29_6) rfl rfl rfl rfl ydu_X7_stepsSince ⟨Nat.le_of_ble_eq_true rfl, Nat.le_of_ble_eq_true rfl⟩) (z_preV (zNmX hE) hE hH zX_o2 rfl) rfl rfl hl.1 rfl (lv_room (Nat.le_of_ble_eq_true rfl)) dX10_drift_72 ⟨Nat.le_refl 0, Nat.le_refl 0⟩) hE hH (fun H locs hH => ?_)
    exact bX_X10_drift_75 C hE   x4 x5 u1 S H locs ls hH (lv_sub hl [0, 1, 2] rfl) h
  · have h := hh
    refine z_calli (va_runU (As := [.int x4]) (rest := []) (z_fix C) (cX_X7_stepsSince_Tree l D cI cS cW q H.size  x4 S (fX_d_stepsSince_3.symm.trans e2)) (va_cwU 1 C.2.2.2.2.1 (zGU (x := ⟨"WhichShelf$Shelf", "stepsSince", "(I)I"⟩) (owner := "WhichShelf$Shelf") zk29_2 zk29_3 zk29_12 zk29_5 zk3_13 zk29_6) rfl rfl rfl rfl ydu_X7_stepsSince ⟨Nat.le_of_ble_eq_true rfl, Nat.le_of_ble_eq_true rfl⟩) (z_preV (zNmX hE) hE hH zX_o3 rfl) rfl rfl hl.1 rfl (lv_room (Nat.le_of_ble_eq_true rfl)) dX10_drift_72 ⟨Nat.le_refl 0, Nat.le_refl 0⟩) hE hH (fun H locs hH => ?_)
    exact bX_X10_drift_75 C hE   x4 x5 u1 S H locs ls hH (lv_sub hl [0, 1, 2] rfl) h
  · have h := hh
    refine z_calli (va_runU (As := [.int x4]) (rest := []) (z_fix C) (cX_X7_stepsSince_Heap l D cI cS cW q H.size  x4 S (fX_d_stepsSince_4.symm.trans e2)) (va_cwU 1 C.2.2.2.2.1 (zGU (x := ⟨"WhichShelf$Shelf", "stepsSince", "(I)I"⟩) (owner := "WhichShelf$Shelf") zk29_2 zk29_3 zk29_9 zk29_5 zk3_13 zk29_6) rfl rfl rfl rfl ydu_X7_stepsSince ⟨Nat.le_of_ble_eq_true rfl, Nat.le_of_ble_eq_true rfl⟩) (z_preV (zNmX hE) hE hH zX_o4 rfl) rfl rfl hl.1 rfl (lv_room (Nat.le_of_ble_eq_true rfl)) dX10_drift_72 ⟨Nat.le_refl 0, Nat.le_refl 0⟩) hE hH (fun H locs hH => ?_)
    exact bX_X10_drift_75 C hE   x4 x5 u1 S H locs ls hH (lv_sub hl [0, 1, 2] rfl) h
  · have h := hh
    refine z_calli (va_runU (As := [.int x4]) (rest := []) (z_fix C) (cX_X7_stepsSince_Bits l D cI cS cW q H.size  x4 S (fX_d_stepsSince_5.symm.trans e2)) (va_cwU 1 C.2.2.2.2.1 (zGU (x := ⟨"WhichShelf$Shelf", "stepsSince", "(I)I"⟩) (owner := "WhichShelf$Shelf") zk29_2 zk29_3 zk29_4 zk29_5 zk3_13 zk29_6) rfl rfl rfl rfl ydu_X7_stepsSince ⟨Nat.le_of_ble_eq_true rfl, Nat.le_of_ble_eq_true rfl⟩) (z_preV (zNmX hE) hE hH zX_o5 rfl) rfl rfl hl.1 rfl (lv_room (Nat.le_of_ble_eq_true rfl)) dX10_drift_72 ⟨Nat.le_refl 0, Nat.le_refl 0⟩) hE hH (fun H locs hH => ?_)
    exact bX_X10_drift_75 C hE   x4 x5 u1 S H locs ls hH (lv_sub hl [0, 1, 2] rfl) h
set_option maxHeartbeats 4000000 in
set_option maxRecDepth 100000 in
theorem bX_X10_drift {p : Program} {l : Launch} {e : Env} {s : State} {m : MethodId} {args : Array Value} {below : List Frame} {meth : Method} {c : Code} {D : va_G} {cI cS cW : ClassId} {q : Nat → Nat} {A : Nat → Prop} {res : Int32} (C : zCX p s m args meth c cX10_drift 8 (some .int) zU RX10) (hE : zE D (zyX cI cS cW) znX A s) (x1 x2 x3 : Int32) (S : zSt) (H : Heap) (locs : List Loc) (ls : Array Slot) (hH : zH D (zwX cI cS cW q) A s S H locs) (hl : lv_has ls 8 [(0, .ref (q 6)), (1, .int x1), (2, .int x2), (3, .int x3)]) (h : fX_X10_drift  x1 x2 x3 S = some res) : W p l e rmX_X10_drift s m args below meth c H locs 0 0 (zQi below D (zwX cI cS cW q) (zyX cI cS cW) A args s res S) (F0 m 0 ls []) := by
  have hx := C.1
  have hb := C.2.1
  unfold fX_X10_drift at h
  refine lv_iload_n hx hb dX10_drift_0 rfl (lv_at hl 1 rfl) ?_
  obtain ⟨u1, e2, h⟩ := zbd_s h
  refine z_calli (va_runS (As := [.int x1]) (rest := []) (z_fix C) (cX_X10_isShelf l D cI cS cW q H.size  x1 S e2) (va_cwS 1 C.2.2.2.2.1 (zGS zk27_10 zk27_11 zk1_2 zk27_12) rfl rfl rfl yd_X10_isShelf ⟨Nat.le_of_ble_eq_true rfl, Nat.le_of_ble_eq_true rfl⟩) (z_preS (zNmX hE) hE hH) rfl rfl hl.1 rfl (lv_room (Nat.le_of_ble_eq_true rfl)) dX10_drift_1 ⟨Nat.le_refl 0, Nat.le_refl 0⟩) hE hH (fun H locs hH => ?_)
  refine lv_if_eq (tgt := 29) hx hb dX10_drift_4 (by decide) (fun c3 => ?_) (fun c3 => ?_)
  · replace h := zif_t c3 h
    refine lv_iconst (v := (-1)) hx hb dX10_drift_29 (by decide) ?_
    cases h
    exact z_iret C hE hH dX10_drift_30
  · replace h := zif_f c3 h
    refine lv_iload_n hx hb dX10_drift_7 rfl (lv_at hl 2 rfl) ?_
    refine lv_iconst (v := 1) hx hb dX10_drift_8 (by decide) ?_
    refine lv_icmp_lt (tgt := 29) hx hb dX10_drift_9 (by decide) (fun c4 => ?_) (fun c4 => ?_)
    · replace h := zif_t c4 h
      refine lv_iconst (v := (-1)) hx hb dX10_drift_29 (by decide) ?_
      cases h
      exact z_iret C hE hH dX10_drift_30
    · replace h := zif_f c4 h
      refine lv_iload_n hx hb dX10_drift_12 rfl (lv_at hl 2 rfl) ?_
      refine lv_aload_n hx hb dX10_drift_13 rfl (lv_at hl 0 rfl) ?_
      refine z_get C hE hH zX_o6 rfl zh_X10 6 (by decide) zk2_15 (fun _ h9 => h9) (v := .int (S.1 0)) rfl dX10_drift_14 ?_
      refine lv_icmp_gt (tgt := 29) hx hb dX10_drift_17 (by decide) (fun c5 => ?_) (fun c5 => ?_)
      · replace h := zif_t c5 h
        refine lv_iconst (v := (-1)) hx hb dX10_drift_29 (by decide) ?_
        cases h
        exact z_iret C hE hH dX10_drift_30
      · replace h := zif_f c5 h
        refine lv_iload_n hx hb dX10_drift_20 rfl (lv_at hl 3 rfl) ?_
        refine lv_if_lt (tgt := 29) hx hb dX10_drift_21 (by decide) (fun c6 => ?_) (fun c6 => ?_)
        · replace h := zif_t c6 h
          refine lv_iconst (v := (-1)) hx hb dX10_drift_29 (by decide) ?_
          cases h
          exact z_iret C hE hH dX10_drift_30
        · replace h := zif_f c6 h
          refine lv_iload_n hx hb dX10_drift_24 rfl (lv_at hl 3 rfl) ?_
          refine lv_iconst (v := 1) hx hb dX10_drift_25 (by decide) ?_
          refine lv_icmp_le (tgt := 31) hx hb dX10_drift_26 (by decide) (fun c7 => ?_) (fun c7 => ?_)
          · replace h := zif_t c7 h
            refine lv_aload_n hx hb dX10_drift_31 rfl (lv_at hl 0 rfl) ?_
            refine z_get C hE hH zX_o6 rfl zh_X10 6 (by decide) zk2_15 (fun _ h9 => h9) (v := .int (S.1 0)) rfl dX10_drift_32 ?_
            refine lv_iload_n hx hb dX10_drift_35 rfl (lv_at hl 2 rfl) ?_
            refine lv_isub hx hb dX10_drift_36 ?_
            refine lv_istore (lv' := [(4, .int ((S.1 0) - x2)), (0, .ref (q 6)), (1, .int x1), (2, .int x2), (3, .int x3)]) hx hb dX10_drift_37 hl (by decide) rfl (fun ls hl => ?_)
            refine lv_aload_n hx hb dX10_drift_39 rfl (lv_at hl 1 rfl) ?_
            refine lv_iload hx hb dX10_drift_40 (lv_at hl 0 rfl) ?_
            refine lv_aload_n hx hb dX10_drift_42 rfl (lv_at hl 1 rfl) ?_
            obtain ⟨u8, e9, h⟩ := zbd_s h
            refine z_calli (va_runV (As := []) (rest := [.int ((S.1 0) - x2), .ref (q 6)]) (z_fix C) (cX_X10_offered l D cI cS cW q H.size   S e9) (cwV 0 C.2.2.2.2.1 (zGV zk30_20 zk30_21 zk30_22 zk1_2 zk30_23) rfl rfl rfl yd_X10_offered ⟨Nat.le_of_ble_eq_true rfl, Nat.le_of_ble_eq_true rfl⟩) (z_preV (zNmX hE) hE hH zX_o6 rfl) rfl rfl hl.1 rfl (lv_room (Nat.le_of_ble_eq_true rfl)) dX10_drift_43 ⟨Nat.le_refl 0, Nat.le_refl 0⟩) hE hH (fun H locs hH => ?_)
            obtain ⟨u10, e11, h⟩ := zbd_s h
            refine z_calli (va_runV (As := [.int ((S.1 0) - x2), .int u8]) (rest := []) (z_fix C) (cX_X10_cheapestSince l D cI cS cW q H.size  ((S.1 0) - x2) u8 S e11) (cwV 2 C.2.2.2.2.1 (zGV zk32_20 zk32_21 zk32_22 zk1_2 zk32_23) rfl rfl rfl yd_X10_cheapestSince ⟨Nat.le_of_ble_eq_true rfl, Nat.le_of_ble_eq_true rfl⟩) (z_preV (zNmX hE) hE hH zX_o6 rfl) rfl rfl hl.1 rfl (lv_room (Nat.le_of_ble_eq_true rfl)) dX10_drift_46 ⟨Nat.le_refl 0, Nat.le_refl 0⟩) hE hH (fun H locs hH => ?_)
            refine lv_istore (lv' := [(5, .int u10), (4, .int ((S.1 0) - x2)), (0, .ref (q 6)), (1, .int x1), (2, .int x2), (3, .int x3)]) hx hb dX10_drift_49 hl (by decide) rfl (fun ls hl => ?_)
            refine lv_iload hx hb dX10_drift_51 (lv_at hl 0 rfl) ?_
            refine lv_iconst (v := (-1)) hx hb dX10_drift_53 (by decide) ?_
            refine lv_icmp_eq (tgt := 61) hx hb dX10_drift_54 (by decide) (fun c12 => ?_) (fun c12 => ?_)
            · replace h := zif_t c12 h
              refine lv_iload hx hb dX10_drift_61 (lv_at hl 0 rfl) ?_
              cases h
              exact z_iret C hE hH dX10_drift_63
            · replace h := zif_f c12 h
              refine lv_iload_n hx hb dX10_drift_57 rfl (lv_at hl 5 rfl) ?_
              refine lv_if_ne (tgt := 64) hx hb dX10_drift_58 (by decide) (fun c13 => ?_) (fun c13 => ?_)
              · replace h := zif_f c13 h
                refine lv_aload_n hx hb dX10_drift_64 rfl (lv_at hl 2 rfl) ?_
                refine z_get C hE hH zX_o6 rfl zh_X10 1 (by decide) zk2_9 (fun _ h9 => h9) (v := .ref (q 8)) rfl dX10_drift_65 ?_
                refine lv_iload_n hx hb dX10_drift_68 rfl (lv_at hl 3 rfl) ?_
                obtain ⟨g14, h⟩ := zgd_s h
                refine z_aldq C hE hH zX_sh (t0 := 1) rfl g14 dX10_drift_69 ?_
                exact bX_X10_drift_70 C hE   x1.toNatClampNeg ((S.1 0) - x2) u10 S H locs ls hH (lv_sub hl [2, 1, 0] rfl) (zin_lt g14) h
              · replace h := zif_t c13 h
                refine lv_iload hx hb dX10_drift_61 (lv_at hl 0 rfl) ?_
                cases h
                exact z_iret C hE hH dX10_drift_63
          · replace h := zif_f c7 h
            refine lv_iconst (v := (-1)) hx hb dX10_drift_29 (by decide) ?_
            cases h
            exact z_iret C hE hH dX10_drift_30
set_option maxHeartbeats 4000000 in
set_option maxRecDepth 100000 in
theorem cX_X10_drift (l : Launch) (D : va_G) (cI cS cW : ClassId) (q : Nat → Nat) (sz : Nat) (x1 : Int32) (x2 : Int32) (x3 : Int32) (S : zSt) {res : Int32} (h : fX_X10_drift x1 x2 x3 S = some res) : zMi l yX10_drift vsX10_drift rmX_X10_drift [.ref (q 6), .int x1, .int x2, .int x3] D (zwX cI cS cW q) (zyX cI cS cW) znX sz S res S := by
  refine Met.ofW (cc := cX10_drift) (maxL := 8) (ret := (some .int)) (by decide) rfl ?_
  intro p e s m args below meth c s₁ B hml hv
  obtain ⟨rfl, rfl, hP, hK, hD0, hN⟩ := hv
  have hl := lv_entry ([.ref (q 6), .int x1, .int x2, .int x3]) (n := 8) (Nat.le_of_ble_eq_true rfl)
  rw [lg_entry_eq]
  generalize (lg_sl ([.ref (q 6), .int x1, .int x2, .int x3]) ++ List.replicate (8 - (lg_sl ([.ref (q 6), .int x1, .int x2, .int x3])).length) Slot.unset).toArray = ls at hl ⊢
  exact bX_X10_drift ⟨B.exec, B.bytes, hml, findClass_of_methodNamed B.named, fun w h => atoms_spec (ws := vsX10_drift) B.pre w (List.mem_cons_of_mem _ h), B.returns, B.notSynchronized⟩ ⟨hK, fun q h => Or.inr h, hN⟩ x1 x2 x3 S s.heap [] ls ⟨hP, hD0.self, va_S.rf⟩ hl  h
def rmX_X5_open : Room := { frames := 0, cells := 0, slots := 0, locals := 0 }
set_option maxHeartbeats 4000000 in
set_option maxRecDepth 100000 in
theorem bX_X5_open {p : Program} {l : Launch} {e : Env} {s : State} {m : MethodId} {args : Array Value} {below : List Frame} {meth : Method} {c : Code} {D : va_G} {cI cS cW : ClassId} {q : Nat → Nat} {A : Nat → Prop} {res : zSt} (C : zCX p s m args meth c cX5_open 5 none zU RX5) (hE : zE D (zyX cI cS cW) znX A s) (x1 x2 x3 x4 : Int32) (S : zSt) (H : Heap) (locs : List Loc) (ls : Array Slot) (hH : zH D (zwX cI cS cW q) A s S H locs) (hl : lv_has ls 5 [(0, .ref (q 7)), (1, .int x1), (2, .int x2), (3, .int x3), (4, .int x4)]) (h : fX_X5_open  x1 x2 x3 x4 S = some res) : W p l e rmX_X5_open s m args below meth c H locs 0 0 (zQv below D (zwX cI cS cW q) (zyX cI cS cW) A args s res) (F0 m 0 ls []) := by
  have hx := C.1
  have hb := C.2.1
  unfold fX_X5_open at h
  refine lv_aload_n hx hb dX5_open_0 rfl (lv_at hl 0 rfl) ?_
  refine lv_iload_n hx hb dX5_open_1 rfl (lv_at hl 1 rfl) ?_
  refine z_put C hE hH zX_o7 rfl zh_X5 tyX5_ok nmX5 2 (by decide) zk5_4 (fun _ h9 => h9) rfl (ty := .int) rfl rfl rfl (Nat.le_of_ble_eq_true rfl) zX_i6 dX5_open_2 (fun H locs hH => ?_)
  refine lv_aload_n hx hb dX5_open_5 rfl (lv_at hl 0 rfl) ?_
  refine lv_iload_n hx hb dX5_open_6 rfl (lv_at hl 2 rfl) ?_
  refine z_put C hE hH zX_o7 rfl zh_X5 tyX5_ok nmX5 3 (by decide) zk5_5 (fun _ h9 => h9) rfl (ty := .int) rfl rfl rfl (Nat.le_of_ble_eq_true rfl) zX_i7 dX5_open_7 (fun H locs hH => ?_)
  refine lv_aload_n hx hb dX5_open_10 rfl (lv_at hl 0 rfl) ?_
  refine lv_iload_n hx hb dX5_open_11 rfl (lv_at hl 3 rfl) ?_
  refine z_put C hE hH zX_o7 rfl zh_X5 tyX5_ok nmX5 4 (by decide) zk5_6 (fun _ h9 => h9) rfl (ty := .int) rfl rfl rfl (Nat.le_of_ble_eq_true rfl) zX_i8 dX5_open_12 (fun H locs hH => ?_)
  refine lv_aload_n hx hb dX5_open_15 rfl (lv_at hl 0 rfl) ?_
  refine lv_iload hx hb dX5_open_16 (lv_at hl 4 rfl) ?_
  refine z_put C hE hH zX_o7 rfl zh_X5 tyX5_ok nmX5 5 (by decide) zk5_7 (fun _ h9 => h9) rfl (ty := .int) rfl rfl rfl (Nat.le_of_ble_eq_true rfl) zX_i9 dX5_open_18 (fun H locs hH => ?_)
  cases h
  exact z_vret C hE hH dX5_open_21
set_option maxHeartbeats 4000000 in
set_option maxRecDepth 100000 in
theorem cX_X5_open (l : Launch) (D : va_G) (cI cS cW : ClassId) (q : Nat → Nat) (sz : Nat) (x1 : Int32) (x2 : Int32) (x3 : Int32) (x4 : Int32) (S : zSt) {res : zSt} (h : fX_X5_open x1 x2 x3 x4 S = some res) : zMv l yX5_open vsX5_open rmX_X5_open [.ref (q 7), .int x1, .int x2, .int x3, .int x4] D (zwX cI cS cW q) (zyX cI cS cW) znX sz S res := by
  refine Met.ofW (cc := cX5_open) (maxL := 5) (ret := none) (by decide) rfl ?_
  intro p e s m args below meth c s₁ B hml hv
  obtain ⟨rfl, rfl, hP, hK, hD0, hN⟩ := hv
  have hl := lv_entry ([.ref (q 7), .int x1, .int x2, .int x3, .int x4]) (n := 5) (Nat.le_of_ble_eq_true rfl)
  rw [lg_entry_eq]
  generalize (lg_sl ([.ref (q 7), .int x1, .int x2, .int x3, .int x4]) ++ List.replicate (5 - (lg_sl ([.ref (q 7), .int x1, .int x2, .int x3, .int x4])).length) Slot.unset).toArray = ls at hl ⊢
  exact bX_X5_open ⟨B.exec, B.bytes, hml, findClass_of_methodNamed B.named, fun w h => atoms_spec (ws := vsX5_open) B.pre w (List.mem_cons_of_mem _ h), B.returns, B.notSynchronized⟩ ⟨hK, fun q h => Or.inr h, hN⟩ x1 x2 x3 x4 S s.heap [] ls ⟨hP, hD0.self, va_S.rf⟩ hl  h
def rmX_X5_weightOver : Room := { frames := 0, cells := 0, slots := 0, locals := 0 }
set_option maxHeartbeats 4000000 in
set_option maxRecDepth 100000 in
theorem bX_X5_weightOver_29 {p : Program} {l : Launch} {e : Env} {s : State} {m : MethodId} {args : Array Value} {below : List Frame} {meth : Method} {c : Code} {D : va_G} {cI cS cW : ClassId} {q : Nat → Nat} {A : Nat → Prop} {res : Int32} (C : zCX p s m args meth c cX5_weightOver 6 (some .int) zU RX5) (hE : zE D (zyX cI cS cW) znX A s) (x2 x3 t0 : Int32) (S : zSt) (H : Heap) (locs : List Loc) (ls : Array Slot) (hH : zH D (zwX cI cS cW q) A s S H locs) (hl : lv_has ls 6 [(0, .ref (q 7)), (2, .int x2), (3, .int x3)]) (h : fX_X5_weightOver_29  x2 x3 t0 S = some res) : W p l e rmX_X5_weightOver s m args below meth c H locs 0 0 (zQi below D (zwX cI cS cW q) (zyX cI cS cW) A args s res S) (F0 m 29 ls [.int t0]) := by
  have hx := C.1
  have hb := C.2.1
  unfold fX_X5_weightOver_29 at h
  refine lv_istore (lv' := [(5, .int t0), (0, .ref (q 7)), (2, .int x2), (3, .int x3)]) hx hb dX5_weightOver_29 hl (by decide) rfl (fun ls hl => ?_)
  refine lv_iload hx hb dX5_weightOver_31 (lv_at hl 0 rfl) ?_
  refine lv_aload_n hx hb dX5_weightOver_33 rfl (lv_at hl 1 rfl) ?_
  refine z_get C hE hH zX_o7 rfl zh_X5 1 (by decide) zk5_3 (fun _ h9 => h9) (v := .ref (q 9)) rfl dX5_weightOver_34 ?_
  refine lv_iload_n hx hb dX5_weightOver_37 rfl (lv_at hl 3 rfl) ?_
  obtain ⟨g1, h⟩ := zgd_s h
  refine z_alda C hE hH zX_wt (t0 := 2) rfl g1 dX5_weightOver_38 ?_
  refine lv_iload_n hx hb dX5_weightOver_39 rfl (lv_at hl 2 rfl) ?_
  refine lv_iconst (v := 1) hx hb dX5_weightOver_40 (by decide) ?_
  refine lv_iadd hx hb dX5_weightOver_41 ?_
  obtain ⟨g2, h⟩ := zgd_s h
  refine z_iald C hE hH (zX_d22 (zin_lt g1)) (t0 := 0) rfl g2 dX5_weightOver_42 ?_
  refine lv_iadd hx hb dX5_weightOver_43 ?_
  cases h
  exact z_iret C hE hH dX5_weightOver_44
set_option maxHeartbeats 4000000 in
set_option maxRecDepth 100000 in
theorem bX_X5_weightOver {p : Program} {l : Launch} {e : Env} {s : State} {m : MethodId} {args : Array Value} {below : List Frame} {meth : Method} {c : Code} {D : va_G} {cI cS cW : ClassId} {q : Nat → Nat} {A : Nat → Prop} {res : Int32} (C : zCX p s m args meth c cX5_weightOver 6 (some .int) zU RX5) (hE : zE D (zyX cI cS cW) znX A s) (x1 x2 x3 : Int32) (S : zSt) (H : Heap) (locs : List Loc) (ls : Array Slot) (hH : zH D (zwX cI cS cW q) A s S H locs) (hl : lv_has ls 6 [(0, .ref (q 7)), (1, .int x1), (2, .int x2), (3, .int x3), (4, .ref (q 31))]) (h : fX_X5_weightOver  x1 x2 x3 S = some res) : W p l e rmX_X5_weightOver s m args below meth c H locs 0 0 (zQi below D (zwX cI cS cW q) (zyX cI cS cW) A args s res S) (F0 m 0 ls []) := by
  have hx := C.1
  have hb := C.2.1
  unfold fX_X5_weightOver at h
  refine lv_iload_n hx hb dX5_weightOver_0 rfl (lv_at hl 1 rfl) ?_
  refine lv_iload_n hx hb dX5_weightOver_1 rfl (lv_at hl 3 rfl) ?_
  refine lv_icmp_ne (tgt := 9) hx hb dX5_weightOver_2 (by decide) (fun c1 => ?_) (fun c1 => ?_)
  · replace h := zif_f c1 h
    refine lv_aload_n hx hb dX5_weightOver_9 rfl (lv_at hl 0 rfl) ?_
    refine z_get C hE hH zX_o7 rfl zh_X5 4 (by decide) zk5_6 (fun _ h9 => h9) (v := .int (S.1 8)) rfl dX5_weightOver_10 ?_
    refine lv_aload_n hx hb dX5_weightOver_13 rfl (lv_at hl 0 rfl) ?_
    refine z_get C hE hH zX_o7 rfl zh_X5 5 (by decide) zk5_7 (fun _ h9 => h9) (v := .int (S.1 9)) rfl dX5_weightOver_14 ?_
    refine lv_aload hx hb dX5_weightOver_17 (lv_at hl 4 rfl) ?_
    refine lv_iload_n hx hb dX5_weightOver_19 rfl (lv_at hl 2 rfl) ?_
    obtain ⟨g2, h⟩ := zgd_s h
    refine z_iald C hE hH zX_a31 (t0 := 0) rfl g2 dX5_weightOver_20 ?_
    refine lv_imul hx hb dX5_weightOver_21 ?_
    refine lv_iadd hx hb dX5_weightOver_22 ?_
    refine lv_sipush (v := 256) hx hb dX5_weightOver_23 (by decide) ?_
    refine lv_imul hx hb dX5_weightOver_26 ?_
    refine lv_iconst (v := 1) hx hb dX5_weightOver_27 (by decide) ?_
    refine lv_iadd hx hb dX5_weightOver_28 ?_
    exact bX_X5_weightOver_29 C hE   x2 x3 ((((S.1 8) + ((S.1 9) * (S.2 31 x2.toNatClampNeg))) * 256) + 1) S H locs ls hH (lv_sub hl [0, 2, 3] rfl) h
  · replace h := zif_t c1 h
    refine lv_iconst (v := 0) hx hb dX5_weightOver_5 (by decide) ?_
    refine lv_goto (tgt := 29) hx hb dX5_weightOver_6 (by decide) ?_
    exact bX_X5_weightOver_29 C hE   x2 x3 0 S H locs ls hH (lv_sub hl [0, 2, 3] rfl) h
set_option maxHeartbeats 4000000 in
set_option maxRecDepth 100000 in
theorem cX_X5_weightOver (l : Launch) (D : va_G) (cI cS cW : ClassId) (q : Nat → Nat) (sz : Nat) (x1 : Int32) (x2 : Int32) (x3 : Int32) (S : zSt) {res : Int32} (h : fX_X5_weightOver x1 x2 x3 S = some res) : zMi l yX5_weightOver vsX5_weightOver rmX_X5_weightOver [.ref (q 7), .int x1, .int x2, .int x3, .ref (q 31)] D (zwX cI cS cW q) (zyX cI cS cW) znX sz S res S := by
  refine Met.ofW (cc := cX5_weightOver) (maxL := 6) (ret := (some .int)) (by decide) rfl ?_
  intro p e s m args below meth c s₁ B hml hv
  obtain ⟨rfl, rfl, hP, hK, hD0, hN⟩ := hv
  have hl := lv_entry ([.ref (q 7), .int x1, .int x2, .int x3, .ref (q 31)]) (n := 6) (Nat.le_of_ble_eq_true rfl)
  rw [lg_entry_eq]
  generalize (lg_sl ([.ref (q 7), .int x1, .int x2, .int x3, .ref (q 31)]) ++ List.replicate (6 - (lg_sl ([.ref (q 7), .int x1, .int x2, .int x3, .ref (q 31)])).length) Slot.unset).toArray = ls at hl ⊢
  exact bX_X5_weightOver ⟨B.exec, B.bytes, hml, findClass_of_methodNamed B.named, fun w h => atoms_spec (ws := vsX5_weightOver) B.pre w (List.mem_cons_of_mem _ h), B.returns, B.notSynchronized⟩ ⟨hK, fun q h => Or.inr h, hN⟩ x1 x2 x3 S s.heap [] ls ⟨hP, hD0.self, va_S.rf⟩ hl  h
def rmX_X5_nextOf : Room := { frames := 1, cells := 0, slots := 0, locals := 25 }
set_option maxHeartbeats 4000000 in
set_option maxRecDepth 100000 in
theorem bX_X5_nextOf_62 {p : Program} {l : Launch} {e : Env} {s : State} {m : MethodId} {args : Array Value} {below : List Frame} {meth : Method} {c : Code} {D : va_G} {cI cS cW : ClassId} {q : Nat → Nat} {A : Nat → Prop} {res : Int32} (C : zCX p s m args meth c cX5_nextOf 8 (some .int) zU RX5) (hE : zE D (zyX cI cS cW) znX A s) (K9 : (Int32 → Int32 → Int32 → Int32 → Int32 → zSt → Option (Int32))) (hK9 : ∀ (x1 x2 x4 x5 x6 : Int32) (S : zSt) (H : Heap) (locs : List Loc) (ls : Array Slot), zH D (zwX cI cS cW q) A s S H locs → lv_has ls 8 [(0, .ref (q 7)), (1, .int x1), (2, .int x2), (3, .ref (q 31)), (4, .int x4), (5, .int x5), (6, .int x6)] → K9 x1 x2 x4 x5 x6 S = some res → W p l e rmX_X5_nextOf s m args below meth c H locs 0 0 (zQi below D (zwX cI cS cW q) (zyX cI cS cW) A args s res S) (F0 m 9 ls [])) (x1 x2 x6 x7 : Int32) (S : zSt) (H : Heap) (locs : List Loc) (ls : Array Slot) (hH : zH D (zwX cI cS cW q) A s S H locs) (hl : lv_has ls 8 [(0, .ref (q 7)), (1, .int x1), (2, .int x2), (3, .ref (q 31)), (6, .int x6), (7, .int x7)]) (h : fX_X5_nextOf_62 K9 x1 x2 x6 x7 S = some res) : W p l e rmX_X5_nextOf s m args below meth c H locs 0 0 (zQi below D (zwX cI cS cW q) (zyX cI cS cW) A args s res S) (F0 m 62 ls []) := by
  have hx := C.1
  have hb := C.2.1
  unfold fX_X5_nextOf_62 at h
  refine lv_iload hx hb dX5_nextOf_62 (lv_at hl 4 rfl) ?_
  refine lv_istore (lv' := [(4, .int x6), (0, .ref (q 7)), (1, .int x1), (2, .int x2), (3, .ref (q 31)), (6, .int x6), (7, .int x7)]) hx hb dX5_nextOf_64 hl (by decide) rfl (fun ls hl => ?_)
  refine lv_iload hx hb dX5_nextOf_66 (lv_at hl 6 rfl) ?_
  refine lv_istore (lv' := [(5, .int x7), (4, .int x6), (0, .ref (q 7)), (1, .int x1), (2, .int x2), (3, .ref (q 31)), (6, .int x6), (7, .int x7)]) hx hb dX5_nextOf_68 hl (by decide) rfl (fun ls hl => ?_)
  refine lv_iinc (v := (x6 + 1)) (lv' := [(6, .int (x6 + 1)), (5, .int x7), (4, .int x6), (0, .ref (q 7)), (1, .int x1), (2, .int x2), (3, .ref (q 31)), (7, .int x7)]) hx hb dX5_nextOf_70 hl (k := 6) rfl rfl (by decide) rfl (fun ls hl => ?_)
  refine lv_goto (tgt := 9) hx hb dX5_nextOf_73 (by decide) ?_
  exact hK9 x1 x2 x6 x7 (x6 + 1) S H locs ls hH (lv_sub hl [3, 4, 5, 6, 2, 1, 0] rfl) h
set_option maxHeartbeats 4000000 in
set_option maxRecDepth 100000 in
theorem bX_X5_nextOf_9 {p : Program} {l : Launch} {e : Env} {s : State} {m : MethodId} {args : Array Value} {below : List Frame} {meth : Method} {c : Code} {D : va_G} {cI cS cW : ClassId} {q : Nat → Nat} {A : Nat → Prop} {res : Int32} (C : zCX p s m args meth c cX5_nextOf 8 (some .int) zU RX5) (hE : zE D (zyX cI cS cW) znX A s) : ∀ (n : Nat) (x1 x2 x4 x5 x6 : Int32) (S : zSt) (H : Heap) (locs : List Loc) (ls : Array Slot), zH D (zwX cI cS cW q) A s S H locs → lv_has ls 8 [(0, .ref (q 7)), (1, .int x1), (2, .int x2), (3, .ref (q 31)), (4, .int x4), (5, .int x5), (6, .int x6)] → fX_X5_nextOf_9  n x1 x2 x4 x5 x6 S = some res → W p l e rmX_X5_nextOf s m args below meth c H locs 0 0 (zQi below D (zwX cI cS cW q) (zyX cI cS cW) A args s res S) (F0 m 9 ls []) := by
  have hx := C.1
  have hb := C.2.1
  intro n
  induction n with
  | zero =>
    intro x1 x2 x4 x5 x6 S H locs ls hH hl  h
    cases h
  | succ n hK9 =>
    intro x1 x2 x4 x5 x6 S H locs ls hH hl  h
    rw [fX_X5_nextOf_9] at h
    refine lv_iload hx hb dX5_nextOf_9 (lv_at hl 6 rfl) ?_
    refine lv_bipush (v := 6) hx hb dX5_nextOf_11 (by decide) ?_
    refine lv_icmp_ge (tgt := 76) hx hb dX5_nextOf_13 (by decide) (fun c1 => ?_) (fun c1 => ?_)
    · replace h := zif_t c1 h
      refine lv_iload hx hb dX5_nextOf_76 (lv_at hl 4 rfl) ?_
      cases h
      exact z_iret C hE hH dX5_nextOf_78
    · replace h := zif_f c1 h
      refine lv_iload_n hx hb dX5_nextOf_16 rfl (lv_at hl 2 rfl) ?_
      refine lv_iconst (v := 1) hx hb dX5_nextOf_17 (by decide) ?_
      refine lv_iadd hx hb dX5_nextOf_18 ?_
      refine lv_aload_n hx hb dX5_nextOf_19 rfl (lv_at hl 0 rfl) ?_
      refine z_get C hE hH zX_o7 rfl zh_X5 3 (by decide) zk5_5 (fun _ h9 => h9) (v := .int (S.1 7)) rfl dX5_nextOf_20 ?_
      refine lv_icmp_ge (tgt := 76) hx hb dX5_nextOf_23 (by decide) (fun c2 => ?_) (fun c2 => ?_)
      · replace h := zif_t c2 h
        refine lv_iload hx hb dX5_nextOf_76 (lv_at hl 4 rfl) ?_
        cases h
        exact z_iret C hE hH dX5_nextOf_78
      · replace h := zif_f c2 h
        refine lv_aload_n hx hb dX5_nextOf_26 rfl (lv_at hl 0 rfl) ?_
        refine z_get C hE hH zX_o7 rfl zh_X5 2 (by decide) zk5_4 (fun _ h9 => h9) (v := .int (S.1 6)) rfl dX5_nextOf_27 ?_
        refine lv_iload hx hb dX5_nextOf_30 (lv_at hl 6 rfl) ?_
        obtain ⟨u3, e4, h⟩ := zbd_s h
        refine z_calli (va_runSN (As := [.int (S.1 6), .int x6]) (rest := []) (z_fix C) (cX_X10_isIn l D cI cS cW q H.size  (S.1 6) x6 S e4) ⟨va_cnB 2 C.2.2.2.2.1 (zGc zk31_6) rfl rfl rfl ((hE.2.2 _ znX_1).2) (C.2.2.2.2.1 _ zk1_2) yd_X10_isIn ⟨Nat.le_of_ble_eq_true rfl, Nat.le_of_ble_eq_true rfl⟩, C.2.2.2.2.1 _ zk31_5, trivial⟩ (z_preS (zNmX hE) hE hH) rfl rfl hl.1 rfl (lv_room (Nat.le_of_ble_eq_true rfl)) dX5_nextOf_32 ⟨Nat.le_refl 0, Nat.le_refl 0⟩) hE hH (fun H locs hH => ?_)
        refine lv_if_eq (tgt := 70) hx hb dX5_nextOf_35 (by decide) (fun c5 => ?_) (fun c5 => ?_)
        · replace h := zif_t c5 h
          refine lv_iinc (v := (x6 + 1)) (lv' := [(6, .int (x6 + 1)), (0, .ref (q 7)), (1, .int x1), (2, .int x2), (3, .ref (q 31)), (4, .int x4), (5, .int x5)]) hx hb dX5_nextOf_70 hl (k := 6) rfl rfl (by decide) rfl (fun ls hl => ?_)
          refine lv_goto (tgt := 9) hx hb dX5_nextOf_73 (by decide) ?_
          exact hK9 x1 x2 x4 x5 (x6 + 1) S H locs ls hH (lv_sub hl [1, 2, 3, 4, 5, 6, 0] rfl) h
        · replace h := zif_f c5 h
          refine lv_aload_n hx hb dX5_nextOf_38 rfl (lv_at hl 0 rfl) ?_
          refine lv_iload_n hx hb dX5_nextOf_39 rfl (lv_at hl 1 rfl) ?_
          refine lv_iload_n hx hb dX5_nextOf_40 rfl (lv_at hl 2 rfl) ?_
          refine lv_iload hx hb dX5_nextOf_41 (lv_at hl 6 rfl) ?_
          refine lv_aload_n hx hb dX5_nextOf_43 rfl (lv_at hl 3 rfl) ?_
          obtain ⟨u6, e7, h⟩ := zbd_s h
          refine z_calli (va_runV (As := [.int x1, .int x2, .int x6, .ref (q 31)]) (rest := []) (z_fix C) (cX_X5_weightOver l D cI cS cW q H.size  x1 x2 x6 S e7) (cwV 4 C.2.2.2.2.1 (zGV zk34_9 zk34_10 zk34_11 zk2_22 zk34_12) rfl rfl rfl yd_X5_weightOver ⟨Nat.le_of_ble_eq_true rfl, Nat.le_of_ble_eq_true rfl⟩) (z_preV (zNmX hE) hE hH zX_o7 rfl) rfl rfl hl.1 rfl (lv_room (Nat.le_of_ble_eq_true rfl)) dX5_nextOf_44 ⟨Nat.le_refl 0, Nat.le_refl 0⟩) hE hH (fun H locs hH => ?_)
          refine lv_istore (lv' := [(7, .int u6), (0, .ref (q 7)), (1, .int x1), (2, .int x2), (3, .ref (q 31)), (4, .int x4), (5, .int x5), (6, .int x6)]) hx hb dX5_nextOf_47 hl (by decide) rfl (fun ls hl => ?_)
          refine lv_iload hx hb dX5_nextOf_49 (lv_at hl 5 rfl) ?_
          refine lv_iconst (v := (-1)) hx hb dX5_nextOf_51 (by decide) ?_
          refine lv_icmp_eq (tgt := 62) hx hb dX5_nextOf_52 (by decide) (fun c8 => ?_) (fun c8 => ?_)
          · replace h := zif_t c8 h
            exact bX_X5_nextOf_62 C hE (fX_X5_nextOf_9  n) hK9 x1 x2 x6 u6 S H locs ls hH (lv_sub hl [1, 2, 3, 4, 7, 0] rfl) h
          · replace h := zif_f c8 h
            refine lv_iload hx hb dX5_nextOf_55 (lv_at hl 0 rfl) ?_
            refine lv_iload hx hb dX5_nextOf_57 (lv_at hl 6 rfl) ?_
            refine lv_icmp_ge (tgt := 70) hx hb dX5_nextOf_59 (by decide) (fun c9 => ?_) (fun c9 => ?_)
            · replace h := zif_t c9 h
              refine lv_iinc (v := (x6 + 1)) (lv' := [(6, .int (x6 + 1)), (7, .int u6), (0, .ref (q 7)), (1, .int x1), (2, .int x2), (3, .ref (q 31)), (4, .int x4), (5, .int x5)]) hx hb dX5_nextOf_70 hl (k := 7) rfl rfl (by decide) rfl (fun ls hl => ?_)
              refine lv_goto (tgt := 9) hx hb dX5_nextOf_73 (by decide) ?_
              exact hK9 x1 x2 x4 x5 (x6 + 1) S H locs ls hH (lv_sub hl [2, 3, 4, 5, 6, 7, 0] rfl) h
            · replace h := zif_f c9 h
              exact bX_X5_nextOf_62 C hE (fX_X5_nextOf_9  n) hK9 x1 x2 x6 u6 S H locs ls hH (lv_sub hl [1, 2, 3, 4, 7, 0] rfl) h
set_option maxHeartbeats 4000000 in
set_option maxRecDepth 100000 in
theorem bX_X5_nextOf {p : Program} {l : Launch} {e : Env} {s : State} {m : MethodId} {args : Array Value} {below : List Frame} {meth : Method} {c : Code} {D : va_G} {cI cS cW : ClassId} {q : Nat → Nat} {A : Nat → Prop} {res : Int32} (C : zCX p s m args meth c cX5_nextOf 8 (some .int) zU RX5) (hE : zE D (zyX cI cS cW) znX A s) (x1 x2 : Int32) (S : zSt) (H : Heap) (locs : List Loc) (ls : Array Slot) (hH : zH D (zwX cI cS cW q) A s S H locs) (hl : lv_has ls 8 [(0, .ref (q 7)), (1, .int x1), (2, .int x2), (3, .ref (q 31))]) (h : fX_X5_nextOf  x1 x2 S = some res) : W p l e rmX_X5_nextOf s m args below meth c H locs 0 0 (zQi below D (zwX cI cS cW q) (zyX cI cS cW) A args s res S) (F0 m 0 ls []) := by
  have hx := C.1
  have hb := C.2.1
  unfold fX_X5_nextOf at h
  refine lv_iconst (v := (-1)) hx hb dX5_nextOf_0 (by decide) ?_
  refine lv_istore (lv' := [(4, .int (-1)), (0, .ref (q 7)), (1, .int x1), (2, .int x2), (3, .ref (q 31))]) hx hb dX5_nextOf_1 hl (by decide) rfl (fun ls hl => ?_)
  refine lv_iconst (v := 0) hx hb dX5_nextOf_3 (by decide) ?_
  refine lv_istore (lv' := [(5, .int 0), (4, .int (-1)), (0, .ref (q 7)), (1, .int x1), (2, .int x2), (3, .ref (q 31))]) hx hb dX5_nextOf_4 hl (by decide) rfl (fun ls hl => ?_)
  refine lv_iconst (v := 0) hx hb dX5_nextOf_6 (by decide) ?_
  refine lv_istore (lv' := [(6, .int 0), (5, .int 0), (4, .int (-1)), (0, .ref (q 7)), (1, .int x1), (2, .int x2), (3, .ref (q 31))]) hx hb dX5_nextOf_7 hl (by decide) rfl (fun ls hl => ?_)
  exact bX_X5_nextOf_9 C hE   1000 x1 x2 (-1) 0 0 S H locs ls hH (lv_sub hl [3, 4, 5, 6, 2, 1, 0] rfl) h
set_option maxHeartbeats 4000000 in
set_option maxRecDepth 100000 in
theorem cX_X5_nextOf (l : Launch) (D : va_G) (cI cS cW : ClassId) (q : Nat → Nat) (sz : Nat) (x1 : Int32) (x2 : Int32) (S : zSt) {res : Int32} (h : fX_X5_nextOf x1 x2 S = some res) : zMi l yX5_nextOf vsX5_nextOf rmX_X5_nextOf [.ref (q 7), .int x1, .int x2, .ref (q 31)] D (zwX cI cS cW q) (zyX cI cS cW) znX sz S res S := by
  refine Met.ofW (cc := cX5_nextOf) (maxL := 8) (ret := (some .int)) (by decide) rfl ?_
  intro p e s m args below meth c s₁ B hml hv
  obtain ⟨rfl, rfl, hP, hK, hD0, hN⟩ := hv
  have hl := lv_entry ([.ref (q 7), .int x1, .int x2, .ref (q 31)]) (n := 8) (Nat.le_of_ble_eq_true rfl)
  rw [lg_entry_eq]
  generalize (lg_sl ([.ref (q 7), .int x1, .int x2, .ref (q 31)]) ++ List.replicate (8 - (lg_sl ([.ref (q 7), .int x1, .int x2, .ref (q 31)])).length) Slot.unset).toArray = ls at hl ⊢
  exact bX_X5_nextOf ⟨B.exec, B.bytes, hml, findClass_of_methodNamed B.named, fun w h => atoms_spec (ws := vsX5_nextOf) B.pre w (List.mem_cons_of_mem _ h), B.returns, B.notSynchronized⟩ ⟨hK, fun q h => Or.inr h, hN⟩ x1 x2 S s.heap [] ls ⟨hP, hD0.self, va_S.rf⟩ hl  h
def rmX_X5_weigh : Room := { frames := 2, cells := 0, slots := 0, locals := 52 }
set_option maxHeartbeats 4000000 in
set_option maxRecDepth 100000 in
theorem bX_X5_weigh_14 {p : Program} {l : Launch} {e : Env} {s : State} {m : MethodId} {args : Array Value} {below : List Frame} {meth : Method} {c : Code} {D : va_G} {cI cS cW : ClassId} {q : Nat → Nat} {A : Nat → Prop} {res : zSt} (C : zCX p s m args meth c cX5_weigh 6 none zU RX5) (hE : zE D (zyX cI cS cW) znX A s) (K7 : (Int32 → zSt → Option (zSt))) (hK7 : ∀ (x3 : Int32) (S : zSt) (H : Heap) (locs : List Loc) (ls : Array Slot), zH D (zwX cI cS cW q) A s S H locs → lv_has ls 6 [(0, .ref (q 7)), (1, .ref (q 8)), (2, .ref (q 31)), (3, .int x3)] → K7 x3 S = some res → W p l e rmX_X5_weigh s m args below meth c H locs 0 0 (zQv below D (zwX cI cS cW q) (zyX cI cS cW) A args s res) (F0 m 7 ls [])) : ∀ (n : Nat) (x3 x4 : Int32) (S : zSt) (H : Heap) (locs : List Loc) (ls : Array Slot), zH D (zwX cI cS cW q) A s S H locs → lv_has ls 6 [(0, .ref (q 7)), (1, .ref (q 8)), (2, .ref (q 31)), (3, .int x3), (4, .int x4)] → fX_X5_weigh_14 K7 n x3 x4 S = some res → W p l e rmX_X5_weigh s m args below meth c H locs 0 0 (zQv below D (zwX cI cS cW q) (zyX cI cS cW) A args s res) (F0 m 14 ls []) := by
  have hx := C.1
  have hb := C.2.1
  intro n
  induction n with
  | zero =>
    intro x3 x4 S H locs ls hH hl  h
    cases h
  | succ n hK14 =>
    intro x3 x4 S H locs ls hH hl  h
    rw [fX_X5_weigh_14] at h
    refine lv_iload hx hb dX5_weigh_14 (lv_at hl 4 rfl) ?_
    refine lv_bipush (v := 6) hx hb dX5_weigh_16 (by decide) ?_
    refine lv_icmp_ge (tgt := 87) hx hb dX5_weigh_18 (by decide) (fun c1 => ?_) (fun c1 => ?_)
    · replace h := zif_t c1 h
      refine lv_iinc (v := (x3 + (-1))) (lv' := [(3, .int (x3 + (-1))), (0, .ref (q 7)), (1, .ref (q 8)), (2, .ref (q 31)), (4, .int x4)]) hx hb dX5_weigh_87 hl (k := 3) rfl rfl (by decide) rfl (fun ls hl => ?_)
      refine lv_goto (tgt := 7) hx hb dX5_weigh_90 (by decide) ?_
      exact hK7 (x3 + (-1)) S H locs ls hH (lv_sub hl [1, 2, 3, 0] rfl) h
    · replace h := zif_f c1 h
      refine lv_aload_n hx hb dX5_weigh_21 rfl (lv_at hl 0 rfl) ?_
      refine z_get C hE hH zX_o7 rfl zh_X5 1 (by decide) zk5_3 (fun _ h9 => h9) (v := .ref (q 9)) rfl dX5_weigh_22 ?_
      refine lv_iload hx hb dX5_weigh_25 (lv_at hl 4 rfl) ?_
      obtain ⟨g2, h⟩ := zgd_s h
      refine z_alda C hE hH zX_wt (t0 := 2) rfl g2 dX5_weigh_27 ?_
      refine lv_iload_n hx hb dX5_weigh_28 rfl (lv_at hl 3 rfl) ?_
      refine lv_aload_n hx hb dX5_weigh_29 rfl (lv_at hl 1 rfl) ?_
      refine lv_iload hx hb dX5_weigh_30 (lv_at hl 4 rfl) ?_
      obtain ⟨g3, h⟩ := zgd_s h
      refine z_aldq C hE hH zX_sh (t0 := 1) rfl g3 dX5_weigh_32 ?_
      refine z_getSteps C hE hH zh_X6 zh_X8 zh_X2 zh_X9 zh_X3 zh_X0 zk34_4 (zin_lt g3) dX5_weigh_33 ?_
      refine lv_iload_n hx hb dX5_weigh_36 rfl (lv_at hl 3 rfl) ?_
      obtain ⟨g4, h⟩ := zgd_s h
      refine z_iald C hE hH (zX_d10 (zin_lt g3)) (t0 := 0) rfl g4 dX5_weigh_37 ?_
      refine lv_sipush (v := 256) hx hb dX5_weigh_38 (by decide) ?_
      refine lv_imul hx hb dX5_weigh_41 ?_
      obtain ⟨g5, h⟩ := zgd_s h
      refine z_iast C hE hH (zX_d22 (zin_lt g3)) (t0 := 0) rfl g5 (zX_e22 (zin_lt g3)) dX5_weigh_42 (fun H locs hH => ?_)
      refine lv_aload_n hx hb dX5_weigh_43 rfl (lv_at hl 0 rfl) ?_
      refine lv_iload hx hb dX5_weigh_44 (lv_at hl 4 rfl) ?_
      refine lv_iload_n hx hb dX5_weigh_46 rfl (lv_at hl 3 rfl) ?_
      refine lv_aload_n hx hb dX5_weigh_47 rfl (lv_at hl 2 rfl) ?_
      obtain ⟨u6, e7, h⟩ := zbd_s h
      refine z_calli (va_runV (As := [.int x4, .int x3, .ref (q 31)]) (rest := []) (z_fix C) (cX_X5_nextOf l D cI cS cW q H.size  x4 x3 (zsR S (22 + x4.toNatClampNeg) x3.toNatClampNeg ((S.2 (10 + x4.toNatClampNeg) x3.toNatClampNeg) * 256)) e7) (cwV 3 C.2.2.2.2.1 (zGV zk34_5 zk34_6 zk34_7 zk2_22 zk34_8) rfl rfl rfl yd_X5_nextOf ⟨Nat.le_of_ble_eq_true rfl, Nat.le_of_ble_eq_true rfl⟩) (z_preV (zNmX hE) hE hH zX_o7 rfl) rfl rfl hl.1 rfl (lv_room (Nat.le_of_ble_eq_true rfl)) dX5_weigh_48 ⟨Nat.le_refl 0, Nat.le_refl 0⟩) hE hH (fun H locs hH => ?_)
      refine lv_istore (lv' := [(5, .int u6), (0, .ref (q 7)), (1, .ref (q 8)), (2, .ref (q 31)), (3, .int x3), (4, .int x4)]) hx hb dX5_weigh_51 hl (by decide) rfl (fun ls hl => ?_)
      refine lv_iload hx hb dX5_weigh_53 (lv_at hl 0 rfl) ?_
      refine lv_iconst (v := (-1)) hx hb dX5_weigh_55 (by decide) ?_
      refine lv_icmp_eq (tgt := 81) hx hb dX5_weigh_56 (by decide) (fun c8 => ?_) (fun c8 => ?_)
      · replace h := zif_t c8 h
        refine lv_iinc (v := (x4 + 1)) (lv' := [(4, .int (x4 + 1)), (5, .int u6), (0, .ref (q 7)), (1, .ref (q 8)), (2, .ref (q 31)), (3, .int x3)]) hx hb dX5_weigh_81 hl (k := 5) rfl rfl (by decide) rfl (fun ls hl => ?_)
        refine lv_goto (tgt := 14) hx hb dX5_weigh_84 (by decide) ?_
        exact hK14 x3 (x4 + 1) (zsR S (22 + x4.toNatClampNeg) x3.toNatClampNeg ((S.2 (10 + x4.toNatClampNeg) x3.toNatClampNeg) * 256)) H locs ls hH (lv_sub hl [2, 3, 4, 5, 0] rfl) h
      · replace h := zif_f c8 h
        refine lv_aload_n hx hb dX5_weigh_59 rfl (lv_at hl 1 rfl) ?_
        refine z_get C hE hH zX_o7 rfl zh_X5 1 (by decide) zk5_3 (fun _ h9 => h9) (v := .ref (q 9)) rfl dX5_weigh_60 ?_
        refine lv_iload hx hb dX5_weigh_63 (lv_at hl 5 rfl) ?_
        obtain ⟨g9, h⟩ := zgd_s h
        refine z_alda C hE hH zX_wt (t0 := 2) rfl g9 dX5_weigh_65 ?_
        refine lv_iload_n hx hb dX5_weigh_66 rfl (lv_at hl 4 rfl) ?_
        refine lv_dup2_11 hx hb dX5_weigh_67 rfl rfl ?_
        obtain ⟨g10, h⟩ := zgd_s h
        refine z_iald C hE hH (zX_d22 (zin_lt g9)) (t0 := 0) rfl g10 dX5_weigh_68 ?_
        refine lv_aload_n hx hb dX5_weigh_69 rfl (lv_at hl 1 rfl) ?_
        refine lv_iload hx hb dX5_weigh_70 (lv_at hl 5 rfl) ?_
        refine lv_iload_n hx hb dX5_weigh_72 rfl (lv_at hl 4 rfl) ?_
        refine lv_iload hx hb dX5_weigh_73 (lv_at hl 0 rfl) ?_
        refine lv_aload_n hx hb dX5_weigh_75 rfl (lv_at hl 3 rfl) ?_
        obtain ⟨u11, e12, h⟩ := zbd_s h
        refine z_calli (va_runV (As := [.int x4, .int x3, .int u6, .ref (q 31)]) (rest := [.int ((zsR S (22 + x4.toNatClampNeg) x3.toNatClampNeg ((S.2 (10 + x4.toNatClampNeg) x3.toNatClampNeg) * 256)).2 (22 + x4.toNatClampNeg) x3.toNatClampNeg), .int x3, .ref (q (22 + x4.toNatClampNeg))]) (z_fix C) (cX_X5_weightOver l D cI cS cW q H.size  x4 x3 u6 (zsR S (22 + x4.toNatClampNeg) x3.toNatClampNeg ((S.2 (10 + x4.toNatClampNeg) x3.toNatClampNeg) * 256)) e12) (cwV 4 C.2.2.2.2.1 (zGV zk34_9 zk34_10 zk34_11 zk2_22 zk34_12) rfl rfl rfl yd_X5_weightOver ⟨Nat.le_of_ble_eq_true rfl, Nat.le_of_ble_eq_true rfl⟩) (z_preV (zNmX hE) hE hH zX_o7 rfl) rfl rfl hl.1 rfl (lv_room (Nat.le_of_ble_eq_true rfl)) dX5_weigh_76 ⟨Nat.le_refl 0, Nat.le_refl 0⟩) hE hH (fun H locs hH => ?_)
        refine lv_iadd hx hb dX5_weigh_79 ?_
        obtain ⟨g13, h⟩ := zgd_s h
        refine z_iast C hE hH (zX_d22 (zin_lt g9)) (t0 := 0) rfl g13 (zX_e22 (zin_lt g9)) dX5_weigh_80 (fun H locs hH => ?_)
        refine lv_iinc (v := (x4 + 1)) (lv' := [(4, .int (x4 + 1)), (5, .int u6), (0, .ref (q 7)), (1, .ref (q 8)), (2, .ref (q 31)), (3, .int x3)]) hx hb dX5_weigh_81 hl (k := 5) rfl rfl (by decide) rfl (fun ls hl => ?_)
        refine lv_goto (tgt := 14) hx hb dX5_weigh_84 (by decide) ?_
        exact hK14 x3 (x4 + 1) (zsR (zsR S (22 + x4.toNatClampNeg) x3.toNatClampNeg ((S.2 (10 + x4.toNatClampNeg) x3.toNatClampNeg) * 256)) (22 + x4.toNatClampNeg) x3.toNatClampNeg (((zsR S (22 + x4.toNatClampNeg) x3.toNatClampNeg ((S.2 (10 + x4.toNatClampNeg) x3.toNatClampNeg) * 256)).2 (22 + x4.toNatClampNeg) x3.toNatClampNeg) + u11)) H locs ls hH (lv_sub hl [2, 3, 4, 5, 0] rfl) h
set_option maxHeartbeats 4000000 in
set_option maxRecDepth 100000 in
theorem bX_X5_weigh_7 {p : Program} {l : Launch} {e : Env} {s : State} {m : MethodId} {args : Array Value} {below : List Frame} {meth : Method} {c : Code} {D : va_G} {cI cS cW : ClassId} {q : Nat → Nat} {A : Nat → Prop} {res : zSt} (C : zCX p s m args meth c cX5_weigh 6 none zU RX5) (hE : zE D (zyX cI cS cW) znX A s) : ∀ (n : Nat) (x3 : Int32) (S : zSt) (H : Heap) (locs : List Loc) (ls : Array Slot), zH D (zwX cI cS cW q) A s S H locs → lv_has ls 6 [(0, .ref (q 7)), (1, .ref (q 8)), (2, .ref (q 31)), (3, .int x3)] → fX_X5_weigh_7  n x3 S = some res → W p l e rmX_X5_weigh s m args below meth c H locs 0 0 (zQv below D (zwX cI cS cW q) (zyX cI cS cW) A args s res) (F0 m 7 ls []) := by
  have hx := C.1
  have hb := C.2.1
  intro n
  induction n with
  | zero =>
    intro x3 S H locs ls hH hl  h
    cases h
  | succ n hK7 =>
    intro x3 S H locs ls hH hl  h
    rw [fX_X5_weigh_7] at h
    refine lv_iload_n hx hb dX5_weigh_7 rfl (lv_at hl 3 rfl) ?_
    refine lv_if_lt (tgt := 93) hx hb dX5_weigh_8 (by decide) (fun c1 => ?_) (fun c1 => ?_)
    · replace h := zif_t c1 h
      cases h
      exact z_vret C hE hH dX5_weigh_93
    · replace h := zif_f c1 h
      refine lv_iconst (v := 0) hx hb dX5_weigh_11 (by decide) ?_
      refine lv_istore (lv' := [(4, .int 0), (0, .ref (q 7)), (1, .ref (q 8)), (2, .ref (q 31)), (3, .int x3)]) hx hb dX5_weigh_12 hl (by decide) rfl (fun ls hl => ?_)
      exact bX_X5_weigh_14 C hE (fX_X5_weigh_7  n) hK7 1000 x3 0 S H locs ls hH (lv_sub hl [1, 2, 3, 4, 0] rfl) h
set_option maxHeartbeats 4000000 in
set_option maxRecDepth 100000 in
theorem bX_X5_weigh {p : Program} {l : Launch} {e : Env} {s : State} {m : MethodId} {args : Array Value} {below : List Frame} {meth : Method} {c : Code} {D : va_G} {cI cS cW : ClassId} {q : Nat → Nat} {A : Nat → Prop} {res : zSt} (C : zCX p s m args meth c cX5_weigh 6 none zU RX5) (hE : zE D (zyX cI cS cW) znX A s) (S : zSt) (H : Heap) (locs : List Loc) (ls : Array Slot) (hH : zH D (zwX cI cS cW q) A s S H locs) (hl : lv_has ls 6 [(0, .ref (q 7)), (1, .ref (q 8)), (2, .ref (q 31))]) (h : fX_X5_weigh   S = some res) : W p l e rmX_X5_weigh s m args below meth c H locs 0 0 (zQv below D (zwX cI cS cW q) (zyX cI cS cW) A args s res) (F0 m 0 ls []) := by
  have hx := C.1
  have hb := C.2.1
  unfold fX_X5_weigh at h
  refine lv_aload_n hx hb dX5_weigh_0 rfl (lv_at hl 0 rfl) ?_
  refine z_get C hE hH zX_o7 rfl zh_X5 3 (by decide) zk5_5 (fun _ h9 => h9) (v := .int (S.1 7)) rfl dX5_weigh_1 ?_
  refine lv_iconst (v := 1) hx hb dX5_weigh_4 (by decide) ?_
  refine lv_isub hx hb dX5_weigh_5 ?_
  refine lv_istore_n (lv' := [(3, .int ((S.1 7) - 1)), (0, .ref (q 7)), (1, .ref (q 8)), (2, .ref (q 31))]) hx hb dX5_weigh_6 rfl hl (by decide) rfl (fun ls hl => ?_)
  exact bX_X5_weigh_7 C hE   1000 ((S.1 7) - 1) S H locs ls hH (lv_sub hl [1, 2, 3, 0] rfl) h
set_option maxHeartbeats 4000000 in
set_option maxRecDepth 100000 in
theorem cX_X5_weigh (l : Launch) (D : va_G) (cI cS cW : ClassId) (q : Nat → Nat) (sz : Nat) (S : zSt) {res : zSt} (h : fX_X5_weigh  S = some res) : zMv l yX5_weigh vsX5_weigh rmX_X5_weigh [.ref (q 7), .ref (q 8), .ref (q 31)] D (zwX cI cS cW q) (zyX cI cS cW) znX sz S res := by
  refine Met.ofW (cc := cX5_weigh) (maxL := 6) (ret := none) (by decide) rfl ?_
  intro p e s m args below meth c s₁ B hml hv
  obtain ⟨rfl, rfl, hP, hK, hD0, hN⟩ := hv
  have hl := lv_entry ([.ref (q 7), .ref (q 8), .ref (q 31)]) (n := 6) (Nat.le_of_ble_eq_true rfl)
  rw [lg_entry_eq]
  generalize (lg_sl ([.ref (q 7), .ref (q 8), .ref (q 31)]) ++ List.replicate (6 - (lg_sl ([.ref (q 7), .ref (q 8), .ref (q 31)])).length) Slot.unset).toArray = ls at hl ⊢
  exact bX_X5_weigh ⟨B.exec, B.bytes, hml, findClass_of_methodNamed B.named, fun w h => atoms_spec (ws := vsX5_weigh) B.pre w (List.mem_cons_of_mem _ h), B.returns, B.notSynchronized⟩ ⟨hK, fun q h => Or.inr h, hN⟩  S s.heap [] ls ⟨hP, hD0.self, va_S.rf⟩ hl  h
def rmX_X5_lightestAtFirst : Room := { frames := 1, cells := 0, slots := 0, locals := 21 }
set_option maxHeartbeats 4000000 in
set_option maxRecDepth 100000 in
theorem bX_X5_lightestAtFirst_52 {p : Program} {l : Launch} {e : Env} {s : State} {m : MethodId} {args : Array Value} {below : List Frame} {meth : Method} {c : Code} {D : va_G} {cI cS cW : ClassId} {q : Nat → Nat} {A : Nat → Prop} {res : Int32} (C : zCX p s m args meth c cX5_lightestAtFirst 3 (some .int) zU RX5) (hE : zE D (zyX cI cS cW) znX A s) (K4 : (Int32 → Int32 → zSt → Option (Int32))) (hK4 : ∀ (x1 x2 : Int32) (S : zSt) (H : Heap) (locs : List Loc) (ls : Array Slot), zH D (zwX cI cS cW q) A s S H locs → lv_has ls 3 [(0, .ref (q 7)), (1, .int x1), (2, .int x2)] → K4 x1 x2 S = some res → W p l e rmX_X5_lightestAtFirst s m args below meth c H locs 0 0 (zQi below D (zwX cI cS cW q) (zyX cI cS cW) A args s res S) (F0 m 4 ls [])) (x2 : Int32) (S : zSt) (H : Heap) (locs : List Loc) (ls : Array Slot) (hH : zH D (zwX cI cS cW q) A s S H locs) (hl : lv_has ls 3 [(0, .ref (q 7)), (2, .int x2)]) (h : fX_X5_lightestAtFirst_52 K4 x2 S = some res) : W p l e rmX_X5_lightestAtFirst s m args below meth c H locs 0 0 (zQi below D (zwX cI cS cW q) (zyX cI cS cW) A args s res S) (F0 m 52 ls []) := by
  have hx := C.1
  have hb := C.2.1
  unfold fX_X5_lightestAtFirst_52 at h
  refine lv_iload_n hx hb dX5_lightestAtFirst_52 rfl (lv_at hl 1 rfl) ?_
  refine lv_istore_n (lv' := [(1, .int x2), (0, .ref (q 7)), (2, .int x2)]) hx hb dX5_lightestAtFirst_53 rfl hl (by decide) rfl (fun ls hl => ?_)
  refine lv_iinc (v := (x2 + 1)) (lv' := [(2, .int (x2 + 1)), (1, .int x2), (0, .ref (q 7))]) hx hb dX5_lightestAtFirst_54 hl (k := 2) rfl rfl (by decide) rfl (fun ls hl => ?_)
  refine lv_goto (tgt := 4) hx hb dX5_lightestAtFirst_57 (by decide) ?_
  exact hK4 x2 (x2 + 1) S H locs ls hH (lv_sub hl [2, 1, 0] rfl) h
set_option maxHeartbeats 4000000 in
set_option maxRecDepth 100000 in
theorem bX_X5_lightestAtFirst_4 {p : Program} {l : Launch} {e : Env} {s : State} {m : MethodId} {args : Array Value} {below : List Frame} {meth : Method} {c : Code} {D : va_G} {cI cS cW : ClassId} {q : Nat → Nat} {A : Nat → Prop} {res : Int32} (C : zCX p s m args meth c cX5_lightestAtFirst 3 (some .int) zU RX5) (hE : zE D (zyX cI cS cW) znX A s) : ∀ (n : Nat) (x1 x2 : Int32) (S : zSt) (H : Heap) (locs : List Loc) (ls : Array Slot), zH D (zwX cI cS cW q) A s S H locs → lv_has ls 3 [(0, .ref (q 7)), (1, .int x1), (2, .int x2)] → fX_X5_lightestAtFirst_4  n x1 x2 S = some res → W p l e rmX_X5_lightestAtFirst s m args below meth c H locs 0 0 (zQi below D (zwX cI cS cW q) (zyX cI cS cW) A args s res S) (F0 m 4 ls []) := by
  have hx := C.1
  have hb := C.2.1
  intro n
  induction n with
  | zero =>
    intro x1 x2 S H locs ls hH hl  h
    cases h
  | succ n hK4 =>
    intro x1 x2 S H locs ls hH hl  h
    rw [fX_X5_lightestAtFirst_4] at h
    refine lv_iload_n hx hb dX5_lightestAtFirst_4 rfl (lv_at hl 2 rfl) ?_
    refine lv_bipush (v := 6) hx hb dX5_lightestAtFirst_5 (by decide) ?_
    refine lv_icmp_ge (tgt := 60) hx hb dX5_lightestAtFirst_7 (by decide) (fun c1 => ?_) (fun c1 => ?_)
    · replace h := zif_t c1 h
      refine lv_iload_n hx hb dX5_lightestAtFirst_60 rfl (lv_at hl 1 rfl) ?_
      cases h
      exact z_iret C hE hH dX5_lightestAtFirst_61
    · replace h := zif_f c1 h
      refine lv_aload_n hx hb dX5_lightestAtFirst_10 rfl (lv_at hl 0 rfl) ?_
      refine z_get C hE hH zX_o7 rfl zh_X5 3 (by decide) zk5_5 (fun _ h9 => h9) (v := .int (S.1 7)) rfl dX5_lightestAtFirst_11 ?_
      refine lv_if_le (tgt := 60) hx hb dX5_lightestAtFirst_14 (by decide) (fun c2 => ?_) (fun c2 => ?_)
      · replace h := zif_t c2 h
        refine lv_iload_n hx hb dX5_lightestAtFirst_60 rfl (lv_at hl 1 rfl) ?_
        cases h
        exact z_iret C hE hH dX5_lightestAtFirst_61
      · replace h := zif_f c2 h
        refine lv_aload_n hx hb dX5_lightestAtFirst_17 rfl (lv_at hl 0 rfl) ?_
        refine z_get C hE hH zX_o7 rfl zh_X5 2 (by decide) zk5_4 (fun _ h9 => h9) (v := .int (S.1 6)) rfl dX5_lightestAtFirst_18 ?_
        refine lv_iload_n hx hb dX5_lightestAtFirst_21 rfl (lv_at hl 2 rfl) ?_
        obtain ⟨u3, e4, h⟩ := zbd_s h
        refine z_calli (va_runSN (As := [.int (S.1 6), .int x2]) (rest := []) (z_fix C) (cX_X10_isIn l D cI cS cW q H.size  (S.1 6) x2 S e4) ⟨va_cnB 2 C.2.2.2.2.1 (zGc zk31_6) rfl rfl rfl ((hE.2.2 _ znX_1).2) (C.2.2.2.2.1 _ zk1_2) yd_X10_isIn ⟨Nat.le_of_ble_eq_true rfl, Nat.le_of_ble_eq_true rfl⟩, C.2.2.2.2.1 _ zk31_5, trivial⟩ (z_preS (zNmX hE) hE hH) rfl rfl hl.1 rfl (lv_room (Nat.le_of_ble_eq_true rfl)) dX5_lightestAtFirst_22 ⟨Nat.le_refl 0, Nat.le_refl 0⟩) hE hH (fun H locs hH => ?_)
        refine lv_if_eq (tgt := 54) hx hb dX5_lightestAtFirst_25 (by decide) (fun c5 => ?_) (fun c5 => ?_)
        · replace h := zif_t c5 h
          refine lv_iinc (v := (x2 + 1)) (lv' := [(2, .int (x2 + 1)), (0, .ref (q 7)), (1, .int x1)]) hx hb dX5_lightestAtFirst_54 hl (k := 2) rfl rfl (by decide) rfl (fun ls hl => ?_)
          refine lv_goto (tgt := 4) hx hb dX5_lightestAtFirst_57 (by decide) ?_
          exact hK4 x1 (x2 + 1) S H locs ls hH (lv_sub hl [1, 2, 0] rfl) h
        · replace h := zif_f c5 h
          refine lv_iload_n hx hb dX5_lightestAtFirst_28 rfl (lv_at hl 1 rfl) ?_
          refine lv_iconst (v := (-1)) hx hb dX5_lightestAtFirst_29 (by decide) ?_
          refine lv_icmp_eq (tgt := 52) hx hb dX5_lightestAtFirst_30 (by decide) (fun c6 => ?_) (fun c6 => ?_)
          · replace h := zif_t c6 h
            exact bX_X5_lightestAtFirst_52 C hE (fX_X5_lightestAtFirst_4  n) hK4 x2 S H locs ls hH (lv_sub hl [0, 2] rfl) h
          · replace h := zif_f c6 h
            refine lv_aload_n hx hb dX5_lightestAtFirst_33 rfl (lv_at hl 0 rfl) ?_
            refine z_get C hE hH zX_o7 rfl zh_X5 1 (by decide) zk5_3 (fun _ h9 => h9) (v := .ref (q 9)) rfl dX5_lightestAtFirst_34 ?_
            refine lv_iload_n hx hb dX5_lightestAtFirst_37 rfl (lv_at hl 2 rfl) ?_
            obtain ⟨g7, h⟩ := zgd_s h
            refine z_alda C hE hH zX_wt (t0 := 2) rfl g7 dX5_lightestAtFirst_38 ?_
            refine lv_iconst (v := 0) hx hb dX5_lightestAtFirst_39 (by decide) ?_
            obtain ⟨g8, h⟩ := zgd_s h
            refine z_iald C hE hH (zX_d22 (zin_lt g7)) (t0 := 0) rfl g8 dX5_lightestAtFirst_40 ?_
            refine lv_aload_n hx hb dX5_lightestAtFirst_41 rfl (lv_at hl 0 rfl) ?_
            refine z_get C hE hH zX_o7 rfl zh_X5 1 (by decide) zk5_3 (fun _ h9 => h9) (v := .ref (q 9)) rfl dX5_lightestAtFirst_42 ?_
            refine lv_iload_n hx hb dX5_lightestAtFirst_45 rfl (lv_at hl 1 rfl) ?_
            obtain ⟨g9, h⟩ := zgd_s h
            refine z_alda C hE hH zX_wt (t0 := 2) rfl g9 dX5_lightestAtFirst_46 ?_
            refine lv_iconst (v := 0) hx hb dX5_lightestAtFirst_47 (by decide) ?_
            obtain ⟨g10, h⟩ := zgd_s h
            refine z_iald C hE hH (zX_d22 (zin_lt g9)) (t0 := 0) rfl g10 dX5_lightestAtFirst_48 ?_
            refine lv_icmp_ge (tgt := 54) hx hb dX5_lightestAtFirst_49 (by decide) (fun c11 => ?_) (fun c11 => ?_)
            · replace h := zif_t c11 h
              refine lv_iinc (v := (x2 + 1)) (lv' := [(2, .int (x2 + 1)), (0, .ref (q 7)), (1, .int x1)]) hx hb dX5_lightestAtFirst_54 hl (k := 2) rfl rfl (by decide) rfl (fun ls hl => ?_)
              refine lv_goto (tgt := 4) hx hb dX5_lightestAtFirst_57 (by decide) ?_
              exact hK4 x1 (x2 + 1) S H locs ls hH (lv_sub hl [1, 2, 0] rfl) h
            · replace h := zif_f c11 h
              exact bX_X5_lightestAtFirst_52 C hE (fX_X5_lightestAtFirst_4  n) hK4 x2 S H locs ls hH (lv_sub hl [0, 2] rfl) h
set_option maxHeartbeats 4000000 in
set_option maxRecDepth 100000 in
theorem bX_X5_lightestAtFirst {p : Program} {l : Launch} {e : Env} {s : State} {m : MethodId} {args : Array Value} {below : List Frame} {meth : Method} {c : Code} {D : va_G} {cI cS cW : ClassId} {q : Nat → Nat} {A : Nat → Prop} {res : Int32} (C : zCX p s m args meth c cX5_lightestAtFirst 3 (some .int) zU RX5) (hE : zE D (zyX cI cS cW) znX A s) (S : zSt) (H : Heap) (locs : List Loc) (ls : Array Slot) (hH : zH D (zwX cI cS cW q) A s S H locs) (hl : lv_has ls 3 [(0, .ref (q 7))]) (h : fX_X5_lightestAtFirst   S = some res) : W p l e rmX_X5_lightestAtFirst s m args below meth c H locs 0 0 (zQi below D (zwX cI cS cW q) (zyX cI cS cW) A args s res S) (F0 m 0 ls []) := by
  have hx := C.1
  have hb := C.2.1
  unfold fX_X5_lightestAtFirst at h
  refine lv_iconst (v := (-1)) hx hb dX5_lightestAtFirst_0 (by decide) ?_
  refine lv_istore_n (lv' := [(1, .int (-1)), (0, .ref (q 7))]) hx hb dX5_lightestAtFirst_1 rfl hl (by decide) rfl (fun ls hl => ?_)
  refine lv_iconst (v := 0) hx hb dX5_lightestAtFirst_2 (by decide) ?_
  refine lv_istore_n (lv' := [(2, .int 0), (1, .int (-1)), (0, .ref (q 7))]) hx hb dX5_lightestAtFirst_3 rfl hl (by decide) rfl (fun ls hl => ?_)
  exact bX_X5_lightestAtFirst_4 C hE   1000 (-1) 0 S H locs ls hH (lv_sub hl [2, 1, 0] rfl) h
set_option maxHeartbeats 4000000 in
set_option maxRecDepth 100000 in
theorem cX_X5_lightestAtFirst (l : Launch) (D : va_G) (cI cS cW : ClassId) (q : Nat → Nat) (sz : Nat) (S : zSt) {res : Int32} (h : fX_X5_lightestAtFirst  S = some res) : zMi l yX5_lightestAtFirst vsX5_lightestAtFirst rmX_X5_lightestAtFirst [.ref (q 7)] D (zwX cI cS cW q) (zyX cI cS cW) znX sz S res S := by
  refine Met.ofW (cc := cX5_lightestAtFirst) (maxL := 3) (ret := (some .int)) (by decide) rfl ?_
  intro p e s m args below meth c s₁ B hml hv
  obtain ⟨rfl, rfl, hP, hK, hD0, hN⟩ := hv
  have hl := lv_entry ([.ref (q 7)]) (n := 3) (Nat.le_of_ble_eq_true rfl)
  rw [lg_entry_eq]
  generalize (lg_sl ([.ref (q 7)]) ++ List.replicate (3 - (lg_sl ([.ref (q 7)])).length) Slot.unset).toArray = ls at hl ⊢
  exact bX_X5_lightestAtFirst ⟨B.exec, B.bytes, hml, findClass_of_methodNamed B.named, fun w h => atoms_spec (ws := vsX5_lightestAtFirst) B.pre w (List.mem_cons_of_mem _ h), B.returns, B.notSynchronized⟩ ⟨hK, fun q h => Or.inr h, hN⟩  S s.heap [] ls ⟨hP, hD0.self, va_S.rf⟩ hl  h
def rmX_X5_choose : Room := { frames := 2, cells := 0, slots := 0, locals := 52 }
set_option maxHeartbeats 4000000 in
set_option maxRecDepth 100000 in
theorem bX_X5_choose_28 {p : Program} {l : Launch} {e : Env} {s : State} {m : MethodId} {args : Array Value} {below : List Frame} {meth : Method} {c : Code} {D : va_G} {cI cS cW : ClassId} {q : Nat → Nat} {A : Nat → Prop} {res : zSt} (C : zCX p s m args meth c cX5_choose 4 none zU RX5) (hE : zE D (zyX cI cS cW) znX A s) : ∀ (n : Nat) (x2 x3 : Int32) (S : zSt) (H : Heap) (locs : List Loc) (ls : Array Slot), zH D (zwX cI cS cW q) A s S H locs → lv_has ls 4 [(0, .ref (q 7)), (1, .ref (q 31)), (2, .int x2), (3, .int x3)] → fX_X5_choose_28  n x2 x3 S = some res → W p l e rmX_X5_choose s m args below meth c H locs 0 0 (zQv below D (zwX cI cS cW q) (zyX cI cS cW) A args s res) (F0 m 28 ls []) := by
  have hx := C.1
  have hb := C.2.1
  intro n
  induction n with
  | zero =>
    intro x2 x3 S H locs ls hH hl  h
    cases h
  | succ n hK28 =>
    intro x2 x3 S H locs ls hH hl  h
    rw [fX_X5_choose_28] at h
    refine lv_iload_n hx hb dX5_choose_28 rfl (lv_at hl 3 rfl) ?_
    refine lv_aload_n hx hb dX5_choose_29 rfl (lv_at hl 0 rfl) ?_
    refine z_get C hE hH zX_o7 rfl zh_X5 3 (by decide) zk5_5 (fun _ h9 => h9) (v := .int (S.1 7)) rfl dX5_choose_30 ?_
    refine lv_icmp_ge (tgt := 62) hx hb dX5_choose_33 (by decide) (fun c1 => ?_) (fun c1 => ?_)
    · replace h := zif_t c1 h
      cases h
      exact z_vret C hE hH dX5_choose_62
    · replace h := zif_f c1 h
      refine lv_iload_n hx hb dX5_choose_36 rfl (lv_at hl 2 rfl) ?_
      refine lv_iconst (v := (-1)) hx hb dX5_choose_37 (by decide) ?_
      refine lv_icmp_eq (tgt := 62) hx hb dX5_choose_38 (by decide) (fun c2 => ?_) (fun c2 => ?_)
      · replace h := zif_t c2 h
        cases h
        exact z_vret C hE hH dX5_choose_62
      · replace h := zif_f c2 h
        refine lv_aload_n hx hb dX5_choose_41 rfl (lv_at hl 0 rfl) ?_
        refine z_get C hE hH zX_o7 rfl zh_X5 0 (by decide) zk5_1 (fun _ h9 => h9) (v := .ref (q 32)) rfl dX5_choose_42 ?_
        refine lv_iload_n hx hb dX5_choose_45 rfl (lv_at hl 3 rfl) ?_
        refine lv_iload_n hx hb dX5_choose_46 rfl (lv_at hl 2 rfl) ?_
        obtain ⟨g3, h⟩ := zgd_s h
        refine z_iast C hE hH zX_a32 (t0 := 0) rfl g3 zX_r32 dX5_choose_47 (fun H locs hH => ?_)
        refine lv_aload_n hx hb dX5_choose_48 rfl (lv_at hl 0 rfl) ?_
        refine lv_iload_n hx hb dX5_choose_49 rfl (lv_at hl 2 rfl) ?_
        refine lv_iload_n hx hb dX5_choose_50 rfl (lv_at hl 3 rfl) ?_
        refine lv_aload_n hx hb dX5_choose_51 rfl (lv_at hl 1 rfl) ?_
        obtain ⟨u4, e5, h⟩ := zbd_s h
        refine z_calli (va_runV (As := [.int x2, .int x3, .ref (q 31)]) (rest := []) (z_fix C) (cX_X5_nextOf l D cI cS cW q H.size  x2 x3 (zsR S 32 x3.toNatClampNeg x2) e5) (cwV 3 C.2.2.2.2.1 (zGV zk34_5 zk34_6 zk34_7 zk2_22 zk34_8) rfl rfl rfl yd_X5_nextOf ⟨Nat.le_of_ble_eq_true rfl, Nat.le_of_ble_eq_true rfl⟩) (z_preV (zNmX hE) hE hH zX_o7 rfl) rfl rfl hl.1 rfl (lv_room (Nat.le_of_ble_eq_true rfl)) dX5_choose_52 ⟨Nat.le_refl 0, Nat.le_refl 0⟩) hE hH (fun H locs hH => ?_)
        refine lv_istore_n (lv' := [(2, .int u4), (0, .ref (q 7)), (1, .ref (q 31)), (3, .int x3)]) hx hb dX5_choose_55 rfl hl (by decide) rfl (fun ls hl => ?_)
        refine lv_iinc (v := (x3 + 1)) (lv' := [(3, .int (x3 + 1)), (2, .int u4), (0, .ref (q 7)), (1, .ref (q 31))]) hx hb dX5_choose_56 hl (k := 3) rfl rfl (by decide) rfl (fun ls hl => ?_)
        refine lv_goto (tgt := 28) hx hb dX5_choose_59 (by decide) ?_
        exact hK28 u4 (x3 + 1) (zsR S 32 x3.toNatClampNeg x2) H locs ls hH (lv_sub hl [2, 3, 1, 0] rfl) h
set_option maxHeartbeats 4000000 in
set_option maxRecDepth 100000 in
theorem bX_X5_choose_23 {p : Program} {l : Launch} {e : Env} {s : State} {m : MethodId} {args : Array Value} {below : List Frame} {meth : Method} {c : Code} {D : va_G} {cI cS cW : ClassId} {q : Nat → Nat} {A : Nat → Prop} {res : zSt} (C : zCX p s m args meth c cX5_choose 4 none zU RX5) (hE : zE D (zyX cI cS cW) znX A s) (x2 t1 : Int32) (S : zSt) (H : Heap) (locs : List Loc) (ls : Array Slot) (hH : zH D (zwX cI cS cW q) A s S H locs) (hl : lv_has ls 4 [(0, .ref (q 7)), (1, .ref (q 31)), (2, .int x2)]) (h : fX_X5_choose_23  x2 t1 S = some res) : W p l e rmX_X5_choose s m args below meth c H locs 0 0 (zQv below D (zwX cI cS cW q) (zyX cI cS cW) A args s res) (F0 m 23 ls [.int t1, .ref (q 7)]) := by
  have hx := C.1
  have hb := C.2.1
  unfold fX_X5_choose_23 at h
  refine z_put C hE hH zX_o7 rfl zh_X5 tyX5_ok nmX5 6 (by decide) zk5_8 (fun _ h9 => h9) rfl (ty := .int) rfl rfl rfl (Nat.le_of_ble_eq_true rfl) zX_i10 dX5_choose_23 (fun H locs hH => ?_)
  refine lv_iconst (v := 0) hx hb dX5_choose_26 (by decide) ?_
  refine lv_istore_n (lv' := [(3, .int 0), (0, .ref (q 7)), (1, .ref (q 31)), (2, .int x2)]) hx hb dX5_choose_27 rfl hl (by decide) rfl (fun ls hl => ?_)
  exact bX_X5_choose_28 C hE   1000 x2 0 (zsI S 10 t1) H locs ls hH (lv_sub hl [1, 2, 3, 0] rfl) h
set_option maxHeartbeats 4000000 in
set_option maxRecDepth 100000 in
theorem bX_X5_choose {p : Program} {l : Launch} {e : Env} {s : State} {m : MethodId} {args : Array Value} {below : List Frame} {meth : Method} {c : Code} {D : va_G} {cI cS cW : ClassId} {q : Nat → Nat} {A : Nat → Prop} {res : zSt} (C : zCX p s m args meth c cX5_choose 4 none zU RX5) (hE : zE D (zyX cI cS cW) znX A s) (S : zSt) (H : Heap) (locs : List Loc) (ls : Array Slot) (hH : zH D (zwX cI cS cW q) A s S H locs) (hl : lv_has ls 4 [(0, .ref (q 7)), (1, .ref (q 31))]) (h : fX_X5_choose   S = some res) : W p l e rmX_X5_choose s m args below meth c H locs 0 0 (zQv below D (zwX cI cS cW q) (zyX cI cS cW) A args s res) (F0 m 0 ls []) := by
  have hx := C.1
  have hb := C.2.1
  unfold fX_X5_choose at h
  refine lv_aload_n hx hb dX5_choose_0 rfl (lv_at hl 0 rfl) ?_
  obtain ⟨u1, e2, h⟩ := zbd_s h
  refine z_calli (va_runV (As := []) (rest := []) (z_fix C) (cX_X5_lightestAtFirst l D cI cS cW q H.size   S e2) (cwV 0 C.2.2.2.2.1 (zGV zk34_17 zk34_18 zk34_19 zk2_22 zk34_20) rfl rfl rfl yd_X5_lightestAtFirst ⟨Nat.le_of_ble_eq_true rfl, Nat.le_of_ble_eq_true rfl⟩) (z_preV (zNmX hE) hE hH zX_o7 rfl) rfl rfl hl.1 rfl (lv_room (Nat.le_of_ble_eq_true rfl)) dX5_choose_1 ⟨Nat.le_refl 0, Nat.le_refl 0⟩) hE hH (fun H locs hH => ?_)
  refine lv_istore_n (lv' := [(2, .int u1), (0, .ref (q 7)), (1, .ref (q 31))]) hx hb dX5_choose_4 rfl hl (by decide) rfl (fun ls hl => ?_)
  refine lv_aload_n hx hb dX5_choose_5 rfl (lv_at hl 1 rfl) ?_
  refine lv_iload_n hx hb dX5_choose_6 rfl (lv_at hl 0 rfl) ?_
  refine lv_iconst (v := (-1)) hx hb dX5_choose_7 (by decide) ?_
  refine lv_icmp_ne (tgt := 15) hx hb dX5_choose_8 (by decide) (fun c3 => ?_) (fun c3 => ?_)
  · replace h := zif_f c3 h
    refine lv_aload_n hx hb dX5_choose_15 rfl (lv_at hl 1 rfl) ?_
    refine z_get C hE hH zX_o7 rfl zh_X5 1 (by decide) zk5_3 (fun _ h9 => h9) (v := .ref (q 9)) rfl dX5_choose_16 ?_
    refine lv_iload_n hx hb dX5_choose_19 rfl (lv_at hl 0 rfl) ?_
    obtain ⟨g4, h⟩ := zgd_s h
    refine z_alda C hE hH zX_wt (t0 := 2) rfl g4 dX5_choose_20 ?_
    refine lv_iconst (v := 0) hx hb dX5_choose_21 (by decide) ?_
    obtain ⟨g5, h⟩ := zgd_s h
    refine z_iald C hE hH (zX_d22 (zin_lt g4)) (t0 := 0) rfl g5 dX5_choose_22 ?_
    exact bX_X5_choose_23 C hE   u1 (S.2 (22 + u1.toNatClampNeg) (0 : Int32).toNatClampNeg) S H locs ls hH (lv_sub hl [1, 2, 0] rfl) h
  · replace h := zif_t c3 h
    refine lv_iconst (v := 0) hx hb dX5_choose_11 (by decide) ?_
    refine lv_goto (tgt := 23) hx hb dX5_choose_12 (by decide) ?_
    exact bX_X5_choose_23 C hE   u1 0 S H locs ls hH (lv_sub hl [1, 2, 0] rfl) h
set_option maxHeartbeats 4000000 in
set_option maxRecDepth 100000 in
theorem cX_X5_choose (l : Launch) (D : va_G) (cI cS cW : ClassId) (q : Nat → Nat) (sz : Nat) (S : zSt) {res : zSt} (h : fX_X5_choose  S = some res) : zMv l yX5_choose vsX5_choose rmX_X5_choose [.ref (q 7), .ref (q 31)] D (zwX cI cS cW q) (zyX cI cS cW) znX sz S res := by
  refine Met.ofW (cc := cX5_choose) (maxL := 4) (ret := none) (by decide) rfl ?_
  intro p e s m args below meth c s₁ B hml hv
  obtain ⟨rfl, rfl, hP, hK, hD0, hN⟩ := hv
  have hl := lv_entry ([.ref (q 7), .ref (q 31)]) (n := 4) (Nat.le_of_ble_eq_true rfl)
  rw [lg_entry_eq]
  generalize (lg_sl ([.ref (q 7), .ref (q 31)]) ++ List.replicate (4 - (lg_sl ([.ref (q 7), .ref (q 31)])).length) Slot.unset).toArray = ls at hl ⊢
  exact bX_X5_choose ⟨B.exec, B.bytes, hml, findClass_of_methodNamed B.named, fun w h => atoms_spec (ws := vsX5_choose) B.pre w (List.mem_cons_of_mem _ h), B.returns, B.notSynchronized⟩ ⟨hK, fun q h => Or.inr h, hN⟩  S s.heap [] ls ⟨hP, hD0.self, va_S.rf⟩ hl  h

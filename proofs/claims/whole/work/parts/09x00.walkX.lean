def rmX_X10_isKey : Room := { frames := 0, cells := 0, slots := 0, locals := 0 }
set_option maxHeartbeats 4000000 in
set_option maxRecDepth 100000 in
theorem bX_X10_isKey {p : Program} {l : Launch} {e : Env} {s : State} {m : MethodId} {args : Array Value} {below : List Frame} {meth : Method} {c : Code} {D : va_G} {cI cS cW : ClassId} {q : Nat → Nat} {A : Nat → Prop} {res : Int32} (C : zCX p s m args meth c cX10_isKey 1 (some .boolean) zU RX10) (hE : zE D (zyX cI cS cW) znX A s) (x0 : Int32) (S : zSt) (H : Heap) (locs : List Loc) (ls : Array Slot) (hH : zH D (zwX cI cS cW q) A s S H locs) (hl : lv_has ls 1 [(0, .int x0)]) (h : fX_X10_isKey  x0 S = some res) : W p l e rmX_X10_isKey s m args below meth c H locs 0 0 (zQi below D (zwX cI cS cW q) (zyX cI cS cW) A args s res S) (F0 m 0 ls []) := by
  have hx := C.1
  have hb := C.2.1
  unfold fX_X10_isKey at h
  refine lv_iload_n hx hb dX10_isKey_0 rfl (lv_at hl 0 rfl) ?_
  refine lv_if_lt (tgt := 14) hx hb dX10_isKey_1 (by decide) (fun c1 => ?_) (fun c1 => ?_)
  · replace h := zif_t c1 h
    refine lv_iconst (v := 0) hx hb dX10_isKey_14 (by decide) ?_
    cases h
    exact z_zret (v := 0) C hE hH zb_0 dX10_isKey_15
  · replace h := zif_f c1 h
    refine lv_iload_n hx hb dX10_isKey_4 rfl (lv_at hl 0 rfl) ?_
    refine lv_bipush (v := 64) hx hb dX10_isKey_5 (by decide) ?_
    refine lv_icmp_ge (tgt := 14) hx hb dX10_isKey_7 (by decide) (fun c2 => ?_) (fun c2 => ?_)
    · replace h := zif_t c2 h
      refine lv_iconst (v := 0) hx hb dX10_isKey_14 (by decide) ?_
      cases h
      exact z_zret (v := 0) C hE hH zb_0 dX10_isKey_15
    · replace h := zif_f c2 h
      refine lv_iconst (v := 1) hx hb dX10_isKey_10 (by decide) ?_
      refine lv_goto (tgt := 15) hx hb dX10_isKey_11 (by decide) ?_
      cases h
      exact z_zret (v := 1) C hE hH zb_1 dX10_isKey_15
set_option maxHeartbeats 4000000 in
set_option maxRecDepth 100000 in
theorem cX_X10_isKey (l : Launch) (D : va_G) (cI cS cW : ClassId) (q : Nat → Nat) (sz : Nat) (x0 : Int32) (S : zSt) {res : Int32} (h : fX_X10_isKey x0 S = some res) : zMi l yX10_isKey vsX10_isKey rmX_X10_isKey [.int x0] D (zwX cI cS cW q) (zyX cI cS cW) znX sz S res S := by
  refine Met.ofW (cc := cX10_isKey) (maxL := 1) (ret := (some .boolean)) (by decide) rfl ?_
  intro p e s m args below meth c s₁ B hml hv
  obtain ⟨rfl, rfl, hP, hK, hD0, hN⟩ := hv
  have hl := lv_entry ([.int x0]) (n := 1) (Nat.le_of_ble_eq_true rfl)
  rw [lg_entry_eq]
  generalize (lg_sl ([.int x0]) ++ List.replicate (1 - (lg_sl ([.int x0])).length) Slot.unset).toArray = ls at hl ⊢
  exact bX_X10_isKey ⟨B.exec, B.bytes, hml, findClass_of_methodNamed B.named, fun w h => atoms_spec (ws := vsX10_isKey) B.pre w (List.mem_cons_of_mem _ h), B.returns, B.notSynchronized⟩ ⟨hK, fun q h => Or.inr h, hN⟩ x0 S s.heap [] ls ⟨hP, hD0.self, va_S.rf⟩ hl  h
def rmX_X4_placeOf_Row : Room := { frames := 0, cells := 0, slots := 0, locals := 0 }
set_option maxHeartbeats 4000000 in
set_option maxRecDepth 100000 in
theorem bX_X4_placeOf_Row_2 {p : Program} {l : Launch} {e : Env} {s : State} {m : MethodId} {args : Array Value} {below : List Frame} {meth : Method} {c : Code} {D : va_G} {cI cS cW : ClassId} {q : Nat → Nat} {A : Nat → Prop} {res : Int32} (C : zCX p s m args meth c cX4_placeOf 3 (some .int) zU RX4) (hE : zE D (zyX cI cS cW) znX A s) : ∀ (n : Nat) (x1 x2 : Int32) (S : zSt) (H : Heap) (locs : List Loc) (ls : Array Slot), zH D (zwX cI cS cW q) A s S H locs → lv_has ls 3 [(0, .ref (q 0)), (1, .int x1), (2, .int x2)] → fX_X4_placeOf_Row_2  n x1 x2 S = some res → W p l e rmX_X4_placeOf_Row s m args below meth c H locs 0 0 (zQi below D (zwX cI cS cW q) (zyX cI cS cW) A args s res S) (F0 m 2 ls []) := by
  have hx := C.1
  have hb := C.2.1
  intro n
  induction n with
  | zero =>
    intro x1 x2 S H locs ls hH hl  h
    cases h
  | succ n hK2 =>
    intro x1 x2 S H locs ls hH hl  h
    rw [fX_X4_placeOf_Row_2] at h
    refine lv_iload_n hx hb dX4_placeOf_2 rfl (lv_at hl 2 rfl) ?_
    refine lv_aload_n hx hb dX4_placeOf_3 rfl (lv_at hl 0 rfl) ?_
    refine z_get C hE hH zX_o0 rfl zh_X6 3 (by decide) zk3_9 (fun _ h9 => h9) (v := .int (S.1 20)) rfl dX4_placeOf_4 ?_
    refine lv_icmp_ge (tgt := 28) hx hb dX4_placeOf_7 (by decide) (fun c1 => ?_) (fun c1 => ?_)
    · replace h := zif_t c1 h
      refine lv_iconst (v := (-1)) hx hb dX4_placeOf_28 (by decide) ?_
      cases h
      exact z_iret C hE hH dX4_placeOf_29
    · replace h := zif_f c1 h
      refine lv_aload_n hx hb dX4_placeOf_10 rfl (lv_at hl 0 rfl) ?_
      refine z_get C hE hH zX_o0 rfl zh_X6 0 (by decide) zk3_8 (fun _ h9 => h9) (v := .ref (q 33)) rfl dX4_placeOf_11 ?_
      refine lv_iload_n hx hb dX4_placeOf_14 rfl (lv_at hl 2 rfl) ?_
      obtain ⟨g2, h⟩ := zgd_s h
      refine z_iald C hE hH zX_a33 (t0 := 0) rfl g2 dX4_placeOf_15 ?_
      refine lv_iload_n hx hb dX4_placeOf_16 rfl (lv_at hl 1 rfl) ?_
      refine lv_icmp_ne (tgt := 22) hx hb dX4_placeOf_17 (by decide) (fun c3 => ?_) (fun c3 => ?_)
      · replace h := zif_f c3 h
        refine lv_iinc (v := (x2 + 1)) (lv' := [(2, .int (x2 + 1)), (0, .ref (q 0)), (1, .int x1)]) hx hb dX4_placeOf_22 hl (k := 2) rfl rfl (by decide) rfl (fun ls hl => ?_)
        refine lv_goto (tgt := 2) hx hb dX4_placeOf_25 (by decide) ?_
        exact hK2 x1 (x2 + 1) S H locs ls hH (lv_sub hl [1, 2, 0] rfl) h
      · replace h := zif_t c3 h
        refine lv_iload_n hx hb dX4_placeOf_20 rfl (lv_at hl 2 rfl) ?_
        cases h
        exact z_iret C hE hH dX4_placeOf_21
set_option maxHeartbeats 4000000 in
set_option maxRecDepth 100000 in
theorem bX_X4_placeOf_Row {p : Program} {l : Launch} {e : Env} {s : State} {m : MethodId} {args : Array Value} {below : List Frame} {meth : Method} {c : Code} {D : va_G} {cI cS cW : ClassId} {q : Nat → Nat} {A : Nat → Prop} {res : Int32} (C : zCX p s m args meth c cX4_placeOf 3 (some .int) zU RX4) (hE : zE D (zyX cI cS cW) znX A s) (x1 : Int32) (S : zSt) (H : Heap) (locs : List Loc) (ls : Array Slot) (hH : zH D (zwX cI cS cW q) A s S H locs) (hl : lv_has ls 3 [(0, .ref (q 0)), (1, .int x1)]) (h : fX_X4_placeOf_Row  x1 S = some res) : W p l e rmX_X4_placeOf_Row s m args below meth c H locs 0 0 (zQi below D (zwX cI cS cW q) (zyX cI cS cW) A args s res S) (F0 m 0 ls []) := by
  have hx := C.1
  have hb := C.2.1
  unfold fX_X4_placeOf_Row at h
  refine lv_iconst (v := 0) hx hb dX4_placeOf_0 (by decide) ?_
  refine lv_istore_n (lv' := [(2, .int 0), (0, .ref (q 0)), (1, .int x1)]) hx hb dX4_placeOf_1 rfl hl (by decide) rfl (fun ls hl => ?_)
  exact bX_X4_placeOf_Row_2 C hE   1000 x1 0 S H locs ls hH (lv_sub hl [1, 2, 0] rfl) h
set_option maxHeartbeats 4000000 in
set_option maxRecDepth 100000 in
theorem cX_X4_placeOf_Row (l : Launch) (D : va_G) (cI cS cW : ClassId) (q : Nat → Nat) (sz : Nat) (x1 : Int32) (S : zSt) {res : Int32} (h : fX_X4_placeOf_Row x1 S = some res) : zMi l yX4_placeOf vsX4_placeOf rmX_X4_placeOf_Row [.ref (q 0), .int x1] D (zwX cI cS cW q) (zyX cI cS cW) znX sz S res S := by
  refine Met.ofW (cc := cX4_placeOf) (maxL := 3) (ret := (some .int)) (by decide) rfl ?_
  intro p e s m args below meth c s₁ B hml hv
  obtain ⟨rfl, rfl, hP, hK, hD0, hN⟩ := hv
  have hl := lv_entry ([.ref (q 0), .int x1]) (n := 3) (Nat.le_of_ble_eq_true rfl)
  rw [lg_entry_eq]
  generalize (lg_sl ([.ref (q 0), .int x1]) ++ List.replicate (3 - (lg_sl ([.ref (q 0), .int x1])).length) Slot.unset).toArray = ls at hl ⊢
  exact bX_X4_placeOf_Row ⟨B.exec, B.bytes, hml, findClass_of_methodNamed B.named, fun w h => atoms_spec (ws := vsX4_placeOf) B.pre w (List.mem_cons_of_mem _ h), B.returns, B.notSynchronized⟩ ⟨hK, fun q h => Or.inr h, hN⟩ x1 S s.heap [] ls ⟨hP, hD0.self, va_S.rf⟩ hl  h
def rmX_X6_leastFrom : Room := { frames := 0, cells := 0, slots := 0, locals := 0 }
set_option maxHeartbeats 4000000 in
set_option maxRecDepth 100000 in
theorem bX_X6_leastFrom_37 {p : Program} {l : Launch} {e : Env} {s : State} {m : MethodId} {args : Array Value} {below : List Frame} {meth : Method} {c : Code} {D : va_G} {cI cS cW : ClassId} {q : Nat → Nat} {A : Nat → Prop} {res : Int32} (C : zCX p s m args meth c cX6_leastFrom 4 (some .int) zU RX6) (hE : zE D (zyX cI cS cW) znX A s) (K4 : (Int32 → Int32 → Int32 → zSt → Option (Int32))) (hK4 : ∀ (x1 x2 x3 : Int32) (S : zSt) (H : Heap) (locs : List Loc) (ls : Array Slot), zH D (zwX cI cS cW q) A s S H locs → lv_has ls 4 [(0, .ref (q 0)), (1, .int x1), (2, .int x2), (3, .int x3)] → K4 x1 x2 x3 S = some res → W p l e rmX_X6_leastFrom s m args below meth c H locs 0 0 (zQi below D (zwX cI cS cW q) (zyX cI cS cW) A args s res S) (F0 m 4 ls [])) (x1 x3 : Int32) (S : zSt) (H : Heap) (locs : List Loc) (ls : Array Slot) (hH : zH D (zwX cI cS cW q) A s S H locs) (hl : lv_has ls 4 [(0, .ref (q 0)), (1, .int x1), (3, .int x3)]) (h : fX_X6_leastFrom_37 K4 x1 x3 S = some res) : W p l e rmX_X6_leastFrom s m args below meth c H locs 0 0 (zQi below D (zwX cI cS cW q) (zyX cI cS cW) A args s res S) (F0 m 37 ls []) := by
  have hx := C.1
  have hb := C.2.1
  unfold fX_X6_leastFrom_37 at h
  refine lv_aload_n hx hb dX6_leastFrom_37 rfl (lv_at hl 0 rfl) ?_
  refine z_get C hE hH zX_o0 rfl zh_X6 0 (by decide) zk7_12 (u_same (C.2.2.2.2.1 _ zk7_13)) (v := .ref (q 33)) rfl dX6_leastFrom_38 ?_
  refine lv_iload_n hx hb dX6_leastFrom_41 rfl (lv_at hl 2 rfl) ?_
  obtain ⟨g1, h⟩ := zgd_s h
  refine z_iald C hE hH zX_a33 (t0 := 0) rfl g1 dX6_leastFrom_42 ?_
  refine lv_istore_n (lv' := [(2, .int (S.2 33 x3.toNatClampNeg)), (0, .ref (q 0)), (1, .int x1), (3, .int x3)]) hx hb dX6_leastFrom_43 rfl hl (by decide) rfl (fun ls hl => ?_)
  refine lv_iinc (v := (x3 + 1)) (lv' := [(3, .int (x3 + 1)), (2, .int (S.2 33 x3.toNatClampNeg)), (0, .ref (q 0)), (1, .int x1)]) hx hb dX6_leastFrom_44 hl (k := 3) rfl rfl (by decide) rfl (fun ls hl => ?_)
  refine lv_goto (tgt := 4) hx hb dX6_leastFrom_47 (by decide) ?_
  exact hK4 x1 (S.2 33 x3.toNatClampNeg) (x3 + 1) S H locs ls hH (lv_sub hl [2, 3, 1, 0] rfl) h
set_option maxHeartbeats 4000000 in
set_option maxRecDepth 100000 in
theorem bX_X6_leastFrom_4 {p : Program} {l : Launch} {e : Env} {s : State} {m : MethodId} {args : Array Value} {below : List Frame} {meth : Method} {c : Code} {D : va_G} {cI cS cW : ClassId} {q : Nat → Nat} {A : Nat → Prop} {res : Int32} (C : zCX p s m args meth c cX6_leastFrom 4 (some .int) zU RX6) (hE : zE D (zyX cI cS cW) znX A s) : ∀ (n : Nat) (x1 x2 x3 : Int32) (S : zSt) (H : Heap) (locs : List Loc) (ls : Array Slot), zH D (zwX cI cS cW q) A s S H locs → lv_has ls 4 [(0, .ref (q 0)), (1, .int x1), (2, .int x2), (3, .int x3)] → fX_X6_leastFrom_4  n x1 x2 x3 S = some res → W p l e rmX_X6_leastFrom s m args below meth c H locs 0 0 (zQi below D (zwX cI cS cW q) (zyX cI cS cW) A args s res S) (F0 m 4 ls []) := by
  have hx := C.1
  have hb := C.2.1
  intro n
  induction n with
  | zero =>
    intro x1 x2 x3 S H locs ls hH hl  h
    cases h
  | succ n hK4 =>
    intro x1 x2 x3 S H locs ls hH hl  h
    rw [fX_X6_leastFrom_4] at h
    refine lv_iload_n hx hb dX6_leastFrom_4 rfl (lv_at hl 3 rfl) ?_
    refine lv_aload_n hx hb dX6_leastFrom_5 rfl (lv_at hl 0 rfl) ?_
    refine z_get C hE hH zX_o0 rfl zh_X6 3 (by decide) zk7_2 (u_same (C.2.2.2.2.1 _ zk6_21)) (v := .int (S.1 20)) rfl dX6_leastFrom_6 ?_
    refine lv_icmp_ge (tgt := 50) hx hb dX6_leastFrom_9 (by decide) (fun c1 => ?_) (fun c1 => ?_)
    · replace h := zif_t c1 h
      refine lv_iload_n hx hb dX6_leastFrom_50 rfl (lv_at hl 2 rfl) ?_
      cases h
      exact z_iret C hE hH dX6_leastFrom_51
    · replace h := zif_f c1 h
      refine lv_aload_n hx hb dX6_leastFrom_12 rfl (lv_at hl 0 rfl) ?_
      refine z_get C hE hH zX_o0 rfl zh_X6 0 (by decide) zk7_12 (u_same (C.2.2.2.2.1 _ zk7_13)) (v := .ref (q 33)) rfl dX6_leastFrom_13 ?_
      refine lv_iload_n hx hb dX6_leastFrom_16 rfl (lv_at hl 3 rfl) ?_
      obtain ⟨g2, h⟩ := zgd_s h
      refine z_iald C hE hH zX_a33 (t0 := 0) rfl g2 dX6_leastFrom_17 ?_
      refine lv_iload_n hx hb dX6_leastFrom_18 rfl (lv_at hl 1 rfl) ?_
      refine lv_icmp_lt (tgt := 44) hx hb dX6_leastFrom_19 (by decide) (fun c3 => ?_) (fun c3 => ?_)
      · replace h := zif_t c3 h
        refine lv_iinc (v := (x3 + 1)) (lv' := [(3, .int (x3 + 1)), (0, .ref (q 0)), (1, .int x1), (2, .int x2)]) hx hb dX6_leastFrom_44 hl (k := 3) rfl rfl (by decide) rfl (fun ls hl => ?_)
        refine lv_goto (tgt := 4) hx hb dX6_leastFrom_47 (by decide) ?_
        exact hK4 x1 x2 (x3 + 1) S H locs ls hH (lv_sub hl [1, 2, 3, 0] rfl) h
      · replace h := zif_f c3 h
        refine lv_iload_n hx hb dX6_leastFrom_22 rfl (lv_at hl 2 rfl) ?_
        refine lv_iconst (v := (-1)) hx hb dX6_leastFrom_23 (by decide) ?_
        refine lv_icmp_eq (tgt := 37) hx hb dX6_leastFrom_24 (by decide) (fun c4 => ?_) (fun c4 => ?_)
        · replace h := zif_t c4 h
          exact bX_X6_leastFrom_37 C hE (fX_X6_leastFrom_4  n) hK4 x1 x3 S H locs ls hH (lv_sub hl [0, 1, 3] rfl) h
        · replace h := zif_f c4 h
          refine lv_aload_n hx hb dX6_leastFrom_27 rfl (lv_at hl 0 rfl) ?_
          refine z_get C hE hH zX_o0 rfl zh_X6 0 (by decide) zk7_12 (u_same (C.2.2.2.2.1 _ zk7_13)) (v := .ref (q 33)) rfl dX6_leastFrom_28 ?_
          refine lv_iload_n hx hb dX6_leastFrom_31 rfl (lv_at hl 3 rfl) ?_
          obtain ⟨g5, h⟩ := zgd_s h
          refine z_iald C hE hH zX_a33 (t0 := 0) rfl g5 dX6_leastFrom_32 ?_
          refine lv_iload_n hx hb dX6_leastFrom_33 rfl (lv_at hl 2 rfl) ?_
          refine lv_icmp_ge (tgt := 44) hx hb dX6_leastFrom_34 (by decide) (fun c6 => ?_) (fun c6 => ?_)
          · replace h := zif_t c6 h
            refine lv_iinc (v := (x3 + 1)) (lv' := [(3, .int (x3 + 1)), (0, .ref (q 0)), (1, .int x1), (2, .int x2)]) hx hb dX6_leastFrom_44 hl (k := 3) rfl rfl (by decide) rfl (fun ls hl => ?_)
            refine lv_goto (tgt := 4) hx hb dX6_leastFrom_47 (by decide) ?_
            exact hK4 x1 x2 (x3 + 1) S H locs ls hH (lv_sub hl [1, 2, 3, 0] rfl) h
          · replace h := zif_f c6 h
            exact bX_X6_leastFrom_37 C hE (fX_X6_leastFrom_4  n) hK4 x1 x3 S H locs ls hH (lv_sub hl [0, 1, 3] rfl) h
set_option maxHeartbeats 4000000 in
set_option maxRecDepth 100000 in
theorem bX_X6_leastFrom {p : Program} {l : Launch} {e : Env} {s : State} {m : MethodId} {args : Array Value} {below : List Frame} {meth : Method} {c : Code} {D : va_G} {cI cS cW : ClassId} {q : Nat → Nat} {A : Nat → Prop} {res : Int32} (C : zCX p s m args meth c cX6_leastFrom 4 (some .int) zU RX6) (hE : zE D (zyX cI cS cW) znX A s) (x1 : Int32) (S : zSt) (H : Heap) (locs : List Loc) (ls : Array Slot) (hH : zH D (zwX cI cS cW q) A s S H locs) (hl : lv_has ls 4 [(0, .ref (q 0)), (1, .int x1)]) (h : fX_X6_leastFrom  x1 S = some res) : W p l e rmX_X6_leastFrom s m args below meth c H locs 0 0 (zQi below D (zwX cI cS cW q) (zyX cI cS cW) A args s res S) (F0 m 0 ls []) := by
  have hx := C.1
  have hb := C.2.1
  unfold fX_X6_leastFrom at h
  refine lv_iconst (v := (-1)) hx hb dX6_leastFrom_0 (by decide) ?_
  refine lv_istore_n (lv' := [(2, .int (-1)), (0, .ref (q 0)), (1, .int x1)]) hx hb dX6_leastFrom_1 rfl hl (by decide) rfl (fun ls hl => ?_)
  refine lv_iconst (v := 0) hx hb dX6_leastFrom_2 (by decide) ?_
  refine lv_istore_n (lv' := [(3, .int 0), (2, .int (-1)), (0, .ref (q 0)), (1, .int x1)]) hx hb dX6_leastFrom_3 rfl hl (by decide) rfl (fun ls hl => ?_)
  exact bX_X6_leastFrom_4 C hE   1000 x1 (-1) 0 S H locs ls hH (lv_sub hl [2, 3, 1, 0] rfl) h
set_option maxHeartbeats 4000000 in
set_option maxRecDepth 100000 in
theorem cX_X6_leastFrom (l : Launch) (D : va_G) (cI cS cW : ClassId) (q : Nat → Nat) (sz : Nat) (x1 : Int32) (S : zSt) {res : Int32} (h : fX_X6_leastFrom x1 S = some res) : zMi l yX6_leastFrom vsX6_leastFrom rmX_X6_leastFrom [.ref (q 0), .int x1] D (zwX cI cS cW q) (zyX cI cS cW) znX sz S res S := by
  refine Met.ofW (cc := cX6_leastFrom) (maxL := 4) (ret := (some .int)) (by decide) rfl ?_
  intro p e s m args below meth c s₁ B hml hv
  obtain ⟨rfl, rfl, hP, hK, hD0, hN⟩ := hv
  have hl := lv_entry ([.ref (q 0), .int x1]) (n := 4) (Nat.le_of_ble_eq_true rfl)
  rw [lg_entry_eq]
  generalize (lg_sl ([.ref (q 0), .int x1]) ++ List.replicate (4 - (lg_sl ([.ref (q 0), .int x1])).length) Slot.unset).toArray = ls at hl ⊢
  exact bX_X6_leastFrom ⟨B.exec, B.bytes, hml, findClass_of_methodNamed B.named, fun w h => atoms_spec (ws := vsX6_leastFrom) B.pre w (List.mem_cons_of_mem _ h), B.returns, B.notSynchronized⟩ ⟨hK, fun q h => Or.inr h, hN⟩ x1 S s.heap [] ls ⟨hP, hD0.self, va_S.rf⟩ hl  h
def rmX_X4_keyAt_Row : Room := { frames := 0, cells := 0, slots := 0, locals := 0 }
set_option maxHeartbeats 4000000 in
set_option maxRecDepth 100000 in
theorem bX_X4_keyAt_Row {p : Program} {l : Launch} {e : Env} {s : State} {m : MethodId} {args : Array Value} {below : List Frame} {meth : Method} {c : Code} {D : va_G} {cI cS cW : ClassId} {q : Nat → Nat} {A : Nat → Prop} {res : Int32} (C : zCX p s m args meth c cX4_keyAt 2 (some .int) zU RX4) (hE : zE D (zyX cI cS cW) znX A s) (x1 : Int32) (S : zSt) (H : Heap) (locs : List Loc) (ls : Array Slot) (hH : zH D (zwX cI cS cW q) A s S H locs) (hl : lv_has ls 2 [(0, .ref (q 0)), (1, .int x1)]) (h : fX_X4_keyAt_Row  x1 S = some res) : W p l e rmX_X4_keyAt_Row s m args below meth c H locs 0 0 (zQi below D (zwX cI cS cW q) (zyX cI cS cW) A args s res S) (F0 m 0 ls []) := by
  have hx := C.1
  have hb := C.2.1
  unfold fX_X4_keyAt_Row at h
  refine lv_iload_n hx hb dX4_keyAt_0 rfl (lv_at hl 1 rfl) ?_
  refine lv_if_lt (tgt := 21) hx hb dX4_keyAt_1 (by decide) (fun c1 => ?_) (fun c1 => ?_)
  · replace h := zif_t c1 h
    refine lv_iconst (v := (-1)) hx hb dX4_keyAt_21 (by decide) ?_
    cases h
    exact z_iret C hE hH dX4_keyAt_22
  · replace h := zif_f c1 h
    refine lv_iload_n hx hb dX4_keyAt_4 rfl (lv_at hl 1 rfl) ?_
    refine lv_aload_n hx hb dX4_keyAt_5 rfl (lv_at hl 0 rfl) ?_
    refine z_get C hE hH zX_o0 rfl zh_X6 3 (by decide) zk3_9 (fun _ h9 => h9) (v := .int (S.1 20)) rfl dX4_keyAt_6 ?_
    refine lv_icmp_ge (tgt := 21) hx hb dX4_keyAt_9 (by decide) (fun c2 => ?_) (fun c2 => ?_)
    · replace h := zif_t c2 h
      refine lv_iconst (v := (-1)) hx hb dX4_keyAt_21 (by decide) ?_
      cases h
      exact z_iret C hE hH dX4_keyAt_22
    · replace h := zif_f c2 h
      refine lv_aload_n hx hb dX4_keyAt_12 rfl (lv_at hl 0 rfl) ?_
      refine z_get C hE hH zX_o0 rfl zh_X6 0 (by decide) zk3_8 (fun _ h9 => h9) (v := .ref (q 33)) rfl dX4_keyAt_13 ?_
      refine lv_iload_n hx hb dX4_keyAt_16 rfl (lv_at hl 1 rfl) ?_
      obtain ⟨g3, h⟩ := zgd_s h
      refine z_iald C hE hH zX_a33 (t0 := 0) rfl g3 dX4_keyAt_17 ?_
      refine lv_goto (tgt := 22) hx hb dX4_keyAt_18 (by decide) ?_
      cases h
      exact z_iret C hE hH dX4_keyAt_22
set_option maxHeartbeats 4000000 in
set_option maxRecDepth 100000 in
theorem cX_X4_keyAt_Row (l : Launch) (D : va_G) (cI cS cW : ClassId) (q : Nat → Nat) (sz : Nat) (x1 : Int32) (S : zSt) {res : Int32} (h : fX_X4_keyAt_Row x1 S = some res) : zMi l yX4_keyAt vsX4_keyAt rmX_X4_keyAt_Row [.ref (q 0), .int x1] D (zwX cI cS cW q) (zyX cI cS cW) znX sz S res S := by
  refine Met.ofW (cc := cX4_keyAt) (maxL := 2) (ret := (some .int)) (by decide) rfl ?_
  intro p e s m args below meth c s₁ B hml hv
  obtain ⟨rfl, rfl, hP, hK, hD0, hN⟩ := hv
  have hl := lv_entry ([.ref (q 0), .int x1]) (n := 2) (Nat.le_of_ble_eq_true rfl)
  rw [lg_entry_eq]
  generalize (lg_sl ([.ref (q 0), .int x1]) ++ List.replicate (2 - (lg_sl ([.ref (q 0), .int x1])).length) Slot.unset).toArray = ls at hl ⊢
  exact bX_X4_keyAt_Row ⟨B.exec, B.bytes, hml, findClass_of_methodNamed B.named, fun w h => atoms_spec (ws := vsX4_keyAt) B.pre w (List.mem_cons_of_mem _ h), B.returns, B.notSynchronized⟩ ⟨hK, fun q h => Or.inr h, hN⟩ x1 S s.heap [] ls ⟨hP, hD0.self, va_S.rf⟩ hl  h
def rmX_X6_howMany : Room := { frames := 0, cells := 0, slots := 0, locals := 0 }
set_option maxHeartbeats 4000000 in
set_option maxRecDepth 100000 in
theorem bX_X6_howMany_4 {p : Program} {l : Launch} {e : Env} {s : State} {m : MethodId} {args : Array Value} {below : List Frame} {meth : Method} {c : Code} {D : va_G} {cI cS cW : ClassId} {q : Nat → Nat} {A : Nat → Prop} {res : Int32} (C : zCX p s m args meth c cX6_howMany 4 (some .int) zU RX6) (hE : zE D (zyX cI cS cW) znX A s) : ∀ (n : Nat) (x1 x2 x3 : Int32) (S : zSt) (H : Heap) (locs : List Loc) (ls : Array Slot), zH D (zwX cI cS cW q) A s S H locs → lv_has ls 4 [(0, .ref (q 0)), (1, .int x1), (2, .int x2), (3, .int x3)] → fX_X6_howMany_4  n x1 x2 x3 S = some res → W p l e rmX_X6_howMany s m args below meth c H locs 0 0 (zQi below D (zwX cI cS cW q) (zyX cI cS cW) A args s res S) (F0 m 4 ls []) := by
  have hx := C.1
  have hb := C.2.1
  intro n
  induction n with
  | zero =>
    intro x1 x2 x3 S H locs ls hH hl  h
    cases h
  | succ n hK4 =>
    intro x1 x2 x3 S H locs ls hH hl  h
    rw [fX_X6_howMany_4] at h
    refine lv_iload_n hx hb dX6_howMany_4 rfl (lv_at hl 3 rfl) ?_
    refine lv_aload_n hx hb dX6_howMany_5 rfl (lv_at hl 0 rfl) ?_
    refine z_get C hE hH zX_o0 rfl zh_X6 3 (by decide) zk7_2 (u_same (C.2.2.2.2.1 _ zk6_21)) (v := .int (S.1 20)) rfl dX6_howMany_6 ?_
    refine lv_icmp_ge (tgt := 31) hx hb dX6_howMany_9 (by decide) (fun c1 => ?_) (fun c1 => ?_)
    · replace h := zif_t c1 h
      refine lv_iload_n hx hb dX6_howMany_31 rfl (lv_at hl 2 rfl) ?_
      cases h
      exact z_iret C hE hH dX6_howMany_32
    · replace h := zif_f c1 h
      refine lv_aload_n hx hb dX6_howMany_12 rfl (lv_at hl 0 rfl) ?_
      refine z_get C hE hH zX_o0 rfl zh_X6 0 (by decide) zk7_12 (u_same (C.2.2.2.2.1 _ zk7_13)) (v := .ref (q 33)) rfl dX6_howMany_13 ?_
      refine lv_iload_n hx hb dX6_howMany_16 rfl (lv_at hl 3 rfl) ?_
      obtain ⟨g2, h⟩ := zgd_s h
      refine z_iald C hE hH zX_a33 (t0 := 0) rfl g2 dX6_howMany_17 ?_
      refine lv_iload_n hx hb dX6_howMany_18 rfl (lv_at hl 1 rfl) ?_
      refine lv_icmp_ne (tgt := 25) hx hb dX6_howMany_19 (by decide) (fun c3 => ?_) (fun c3 => ?_)
      · replace h := zif_f c3 h
        refine lv_iinc (v := (x3 + 1)) (lv' := [(3, .int (x3 + 1)), (0, .ref (q 0)), (1, .int x1), (2, .int x2)]) hx hb dX6_howMany_25 hl (k := 3) rfl rfl (by decide) rfl (fun ls hl => ?_)
        refine lv_goto (tgt := 4) hx hb dX6_howMany_28 (by decide) ?_
        exact hK4 x1 x2 (x3 + 1) S H locs ls hH (lv_sub hl [1, 2, 3, 0] rfl) h
      · replace h := zif_t c3 h
        refine lv_iinc (v := (x2 + 1)) (lv' := [(2, .int (x2 + 1)), (0, .ref (q 0)), (1, .int x1), (3, .int x3)]) hx hb dX6_howMany_22 hl (k := 2) rfl rfl (by decide) rfl (fun ls hl => ?_)
        refine lv_iinc (v := (x3 + 1)) (lv' := [(3, .int (x3 + 1)), (2, .int (x2 + 1)), (0, .ref (q 0)), (1, .int x1)]) hx hb dX6_howMany_25 hl (k := 3) rfl rfl (by decide) rfl (fun ls hl => ?_)
        refine lv_goto (tgt := 4) hx hb dX6_howMany_28 (by decide) ?_
        exact hK4 x1 (x2 + 1) (x3 + 1) S H locs ls hH (lv_sub hl [2, 3, 1, 0] rfl) h
set_option maxHeartbeats 4000000 in
set_option maxRecDepth 100000 in
theorem bX_X6_howMany {p : Program} {l : Launch} {e : Env} {s : State} {m : MethodId} {args : Array Value} {below : List Frame} {meth : Method} {c : Code} {D : va_G} {cI cS cW : ClassId} {q : Nat → Nat} {A : Nat → Prop} {res : Int32} (C : zCX p s m args meth c cX6_howMany 4 (some .int) zU RX6) (hE : zE D (zyX cI cS cW) znX A s) (x1 : Int32) (S : zSt) (H : Heap) (locs : List Loc) (ls : Array Slot) (hH : zH D (zwX cI cS cW q) A s S H locs) (hl : lv_has ls 4 [(0, .ref (q 0)), (1, .int x1)]) (h : fX_X6_howMany  x1 S = some res) : W p l e rmX_X6_howMany s m args below meth c H locs 0 0 (zQi below D (zwX cI cS cW q) (zyX cI cS cW) A args s res S) (F0 m 0 ls []) := by
  have hx := C.1
  have hb := C.2.1
  unfold fX_X6_howMany at h
  refine lv_iconst (v := 0) hx hb dX6_howMany_0 (by decide) ?_
  refine lv_istore_n (lv' := [(2, .int 0), (0, .ref (q 0)), (1, .int x1)]) hx hb dX6_howMany_1 rfl hl (by decide) rfl (fun ls hl => ?_)
  refine lv_iconst (v := 0) hx hb dX6_howMany_2 (by decide) ?_
  refine lv_istore_n (lv' := [(3, .int 0), (2, .int 0), (0, .ref (q 0)), (1, .int x1)]) hx hb dX6_howMany_3 rfl hl (by decide) rfl (fun ls hl => ?_)
  exact bX_X6_howMany_4 C hE   1000 x1 0 0 S H locs ls hH (lv_sub hl [2, 3, 1, 0] rfl) h
set_option maxHeartbeats 4000000 in
set_option maxRecDepth 100000 in
theorem cX_X6_howMany (l : Launch) (D : va_G) (cI cS cW : ClassId) (q : Nat → Nat) (sz : Nat) (x1 : Int32) (S : zSt) {res : Int32} (h : fX_X6_howMany x1 S = some res) : zMi l yX6_howMany vsX6_howMany rmX_X6_howMany [.ref (q 0), .int x1] D (zwX cI cS cW q) (zyX cI cS cW) znX sz S res S := by
  refine Met.ofW (cc := cX6_howMany) (maxL := 4) (ret := (some .int)) (by decide) rfl ?_
  intro p e s m args below meth c s₁ B hml hv
  obtain ⟨rfl, rfl, hP, hK, hD0, hN⟩ := hv
  have hl := lv_entry ([.ref (q 0), .int x1]) (n := 4) (Nat.le_of_ble_eq_true rfl)
  rw [lg_entry_eq]
  generalize (lg_sl ([.ref (q 0), .int x1]) ++ List.replicate (4 - (lg_sl ([.ref (q 0), .int x1])).length) Slot.unset).toArray = ls at hl ⊢
  exact bX_X6_howMany ⟨B.exec, B.bytes, hml, findClass_of_methodNamed B.named, fun w h => atoms_spec (ws := vsX6_howMany) B.pre w (List.mem_cons_of_mem _ h), B.returns, B.notSynchronized⟩ ⟨hK, fun q h => Or.inr h, hN⟩ x1 S s.heap [] ls ⟨hP, hD0.self, va_S.rf⟩ hl  h
def rmX_X6_answerTo : Room := { frames := 1, cells := 0, slots := 0, locals := 23 }
set_option maxHeartbeats 4000000 in
set_option maxRecDepth 100000 in
theorem bX_X6_answerTo {p : Program} {l : Launch} {e : Env} {s : State} {m : MethodId} {args : Array Value} {below : List Frame} {meth : Method} {c : Code} {D : va_G} {cI cS cW : ClassId} {q : Nat → Nat} {A : Nat → Prop} {res : Int32} (C : zCX p s m args meth c cX6_answerTo 3 (some .int) zU RX6) (hE : zE D (zyX cI cS cW) znX A s) (x1 x2 : Int32) (S : zSt) (H : Heap) (locs : List Loc) (ls : Array Slot) (hH : zH D (zwX cI cS cW q) A s S H locs) (hl : lv_has ls 3 [(0, .ref (q 0)), (1, .int x1), (2, .int x2)]) (h : fX_X6_answerTo  x1 x2 S = some res) : W p l e rmX_X6_answerTo s m args below meth c H locs 0 0 (zQi below D (zwX cI cS cW q) (zyX cI cS cW) A args s res S) (F0 m 0 ls []) := by
  have hx := C.1
  have hb := C.2.1
  unfold fX_X6_answerTo at h
  refine lv_iload_n hx hb dX6_answerTo_0 rfl (lv_at hl 1 rfl) ?_
  by_cases c1_0 : x1 = 0
  · replace h := zif_t c1_0 h
    refine lv_tableIn (tgt := 48) hx hb dX6_answerTo_1 (by rw [c1_0]; decide) (by rw [c1_0]; decide) (by rw [c1_0]; rfl) (by decide) ?_
    refine lv_aload_n hx hb dX6_answerTo_48 rfl (lv_at hl 0 rfl) ?_
    refine z_get C hE hH zX_o0 rfl zh_X6 3 (by decide) zk7_2 (u_same (C.2.2.2.2.1 _ zk6_21)) (v := .int (S.1 20)) rfl dX6_answerTo_49 ?_
    refine lv_iconst (v := 1) hx hb dX6_answerTo_52 (by decide) ?_
    refine lv_iadd hx hb dX6_answerTo_53 ?_
    cases h
    exact z_iret C hE hH dX6_answerTo_54
  · replace h := zif_f c1_0 h
    by_cases c1_1 : x1 = 1
    · replace h := zif_t c1_1 h
      refine lv_tableIn (tgt := 55) hx hb dX6_answerTo_1 (by rw [c1_1]; decide) (by rw [c1_1]; decide) (by rw [c1_1]; rfl) (by decide) ?_
      refine lv_aload_n hx hb dX6_answerTo_55 rfl (lv_at hl 0 rfl) ?_
      refine lv_iload_n hx hb dX6_answerTo_56 rfl (lv_at hl 2 rfl) ?_
      obtain ⟨u2, e3, h⟩ := zbd_s h
      refine z_calli (va_runU (As := [.int x2]) (rest := []) (z_fix C) (cX_X4_placeOf_Row l D cI cS cW q H.size  x2 S e3) (va_cwU 1 C.2.2.2.2.1 (zGU (x := ⟨"WhichShelf$Row", "placeOf", "(I)I"⟩) (owner := "WhichShelf$Lined") zk7_3 zk7_4 zk7_5 zk7_6 zk3_6 zk7_7) rfl rfl rfl rfl ydu_X4_placeOf ⟨Nat.le_of_ble_eq_true rfl, Nat.le_of_ble_eq_true rfl⟩) (z_preV (zNmX hE) hE hH zX_o0 rfl) rfl rfl hl.1 rfl (lv_room (Nat.le_of_ble_eq_true rfl)) dX6_answerTo_57 ⟨Nat.le_refl 0, Nat.le_refl 0⟩) hE hH (fun H locs hH => ?_)
      refine lv_iconst (v := (-1)) hx hb dX6_answerTo_60 (by decide) ?_
      refine lv_icmp_ne (tgt := 68) hx hb dX6_answerTo_61 (by decide) (fun c4 => ?_) (fun c4 => ?_)
      · replace h := zif_f c4 h
        refine lv_iconst (v := 1) hx hb dX6_answerTo_68 (by decide) ?_
        cases h
        exact z_iret C hE hH dX6_answerTo_69
      · replace h := zif_t c4 h
        refine lv_iconst (v := 0) hx hb dX6_answerTo_64 (by decide) ?_
        refine lv_goto (tgt := 69) hx hb dX6_answerTo_65 (by decide) ?_
        cases h
        exact z_iret C hE hH dX6_answerTo_69
    · replace h := zif_f c1_1 h
      by_cases c1_2 : x1 = 2
      · replace h := zif_t c1_2 h
        refine lv_tableIn (tgt := 55) hx hb dX6_answerTo_1 (by rw [c1_2]; decide) (by rw [c1_2]; decide) (by rw [c1_2]; rfl) (by decide) ?_
        refine lv_aload_n hx hb dX6_answerTo_55 rfl (lv_at hl 0 rfl) ?_
        refine lv_iload_n hx hb dX6_answerTo_56 rfl (lv_at hl 2 rfl) ?_
        obtain ⟨u5, e6, h⟩ := zbd_s h
        refine z_calli (va_runU (As := [.int x2]) (rest := []) (z_fix C) (cX_X4_placeOf_Row l D cI cS cW q H.size  x2 S e6) (va_cwU 1 C.2.2.2.2.1 (zGU (x := ⟨"WhichShelf$Row", "placeOf", "(I)I"⟩) (owner := "WhichShelf$Lined") zk7_3 zk7_4 zk7_5 zk7_6 zk3_6 zk7_7) rfl rfl rfl rfl ydu_X4_placeOf ⟨Nat.le_of_ble_eq_true rfl, Nat.le_of_ble_eq_true rfl⟩) (z_preV (zNmX hE) hE hH zX_o0 rfl) rfl rfl hl.1 rfl (lv_room (Nat.le_of_ble_eq_true rfl)) dX6_answerTo_57 ⟨Nat.le_refl 0, Nat.le_refl 0⟩) hE hH (fun H locs hH => ?_)
        refine lv_iconst (v := (-1)) hx hb dX6_answerTo_60 (by decide) ?_
        refine lv_icmp_ne (tgt := 68) hx hb dX6_answerTo_61 (by decide) (fun c7 => ?_) (fun c7 => ?_)
        · replace h := zif_f c7 h
          refine lv_iconst (v := 1) hx hb dX6_answerTo_68 (by decide) ?_
          cases h
          exact z_iret C hE hH dX6_answerTo_69
        · replace h := zif_t c7 h
          refine lv_iconst (v := 0) hx hb dX6_answerTo_64 (by decide) ?_
          refine lv_goto (tgt := 69) hx hb dX6_answerTo_65 (by decide) ?_
          cases h
          exact z_iret C hE hH dX6_answerTo_69
      · replace h := zif_f c1_2 h
        by_cases c1_3 : x1 = 3
        · replace h := zif_t c1_3 h
          refine lv_tableIn (tgt := 94) hx hb dX6_answerTo_1 (by rw [c1_3]; decide) (by rw [c1_3]; decide) (by rw [c1_3]; rfl) (by decide) ?_
          refine lv_aload_n hx hb dX6_answerTo_94 rfl (lv_at hl 0 rfl) ?_
          refine z_get C hE hH zX_o0 rfl zh_X6 3 (by decide) zk7_2 (u_same (C.2.2.2.2.1 _ zk6_21)) (v := .int (S.1 20)) rfl dX6_answerTo_95 ?_
          cases h
          exact z_iret C hE hH dX6_answerTo_98
        · replace h := zif_f c1_3 h
          by_cases c1_4 : x1 = 4
          · replace h := zif_t c1_4 h
            refine lv_tableIn (tgt := 70) hx hb dX6_answerTo_1 (by rw [c1_4]; decide) (by rw [c1_4]; decide) (by rw [c1_4]; rfl) (by decide) ?_
            refine lv_aload_n hx hb dX6_answerTo_70 rfl (lv_at hl 0 rfl) ?_
            refine lv_iconst (v := 0) hx hb dX6_answerTo_71 (by decide) ?_
            obtain ⟨u8, e9, h⟩ := zbd_s h
            refine z_calli (va_runV (As := [.int 0]) (rest := []) (z_fix C) (cX_X6_leastFrom l D cI cS cW q H.size  0 S e9) (cwV 1 C.2.2.2.2.1 (zGV zk7_8 zk7_9 zk7_10 zk1_15 zk7_11) rfl rfl rfl yd_X6_leastFrom ⟨Nat.le_of_ble_eq_true rfl, Nat.le_of_ble_eq_true rfl⟩) (z_preV (zNmX hE) hE hH zX_o0 rfl) rfl rfl hl.1 rfl (lv_room (Nat.le_of_ble_eq_true rfl)) dX6_answerTo_72 ⟨Nat.le_refl 0, Nat.le_refl 0⟩) hE hH (fun H locs hH => ?_)
            cases h
            exact z_iret C hE hH dX6_answerTo_75
          · replace h := zif_f c1_4 h
            by_cases c1_5 : x1 = 5
            · replace h := zif_t c1_5 h
              refine lv_tableIn (tgt := 76) hx hb dX6_answerTo_1 (by rw [c1_5]; decide) (by rw [c1_5]; decide) (by rw [c1_5]; rfl) (by decide) ?_
              refine lv_aload_n hx hb dX6_answerTo_76 rfl (lv_at hl 0 rfl) ?_
              refine lv_iload_n hx hb dX6_answerTo_77 rfl (lv_at hl 2 rfl) ?_
              obtain ⟨u10, e11, h⟩ := zbd_s h
              refine z_calli (va_runV (As := [.int x2]) (rest := []) (z_fix C) (cX_X6_leastFrom l D cI cS cW q H.size  x2 S e11) (cwV 1 C.2.2.2.2.1 (zGV zk7_8 zk7_9 zk7_10 zk1_15 zk7_11) rfl rfl rfl yd_X6_leastFrom ⟨Nat.le_of_ble_eq_true rfl, Nat.le_of_ble_eq_true rfl⟩) (z_preV (zNmX hE) hE hH zX_o0 rfl) rfl rfl hl.1 rfl (lv_room (Nat.le_of_ble_eq_true rfl)) dX6_answerTo_78 ⟨Nat.le_refl 0, Nat.le_refl 0⟩) hE hH (fun H locs hH => ?_)
              cases h
              exact z_iret C hE hH dX6_answerTo_81
            · replace h := zif_f c1_5 h
              by_cases c1_6 : x1 = 6
              · replace h := zif_t c1_6 h
                refine lv_tableIn (tgt := 82) hx hb dX6_answerTo_1 (by rw [c1_6]; decide) (by rw [c1_6]; decide) (by rw [c1_6]; rfl) (by decide) ?_
                refine lv_aload_n hx hb dX6_answerTo_82 rfl (lv_at hl 0 rfl) ?_
                refine lv_iconst (v := 0) hx hb dX6_answerTo_83 (by decide) ?_
                obtain ⟨u12, e13, h⟩ := zbd_s h
                refine z_calli (va_runU (As := [.int 0]) (rest := []) (z_fix C) (cX_X4_keyAt_Row l D cI cS cW q H.size  0 S e13) (va_cwU 1 C.2.2.2.2.1 (zGU (x := ⟨"WhichShelf$Row", "keyAt", "(I)I"⟩) (owner := "WhichShelf$Lined") zk7_14 zk7_15 zk7_16 zk7_17 zk3_6 zk7_18) rfl rfl rfl rfl ydu_X4_keyAt ⟨Nat.le_of_ble_eq_true rfl, Nat.le_of_ble_eq_true rfl⟩) (z_preV (zNmX hE) hE hH zX_o0 rfl) rfl rfl hl.1 rfl (lv_room (Nat.le_of_ble_eq_true rfl)) dX6_answerTo_84 ⟨Nat.le_refl 0, Nat.le_refl 0⟩) hE hH (fun H locs hH => ?_)
                cases h
                exact z_iret C hE hH dX6_answerTo_87
              · replace h := zif_f c1_6 h
                by_cases c1_7 : x1 = 7
                · replace h := zif_t c1_7 h
                  refine lv_tableIn (tgt := 88) hx hb dX6_answerTo_1 (by rw [c1_7]; decide) (by rw [c1_7]; decide) (by rw [c1_7]; rfl) (by decide) ?_
                  refine lv_aload_n hx hb dX6_answerTo_88 rfl (lv_at hl 0 rfl) ?_
                  refine lv_iload_n hx hb dX6_answerTo_89 rfl (lv_at hl 2 rfl) ?_
                  obtain ⟨u14, e15, h⟩ := zbd_s h
                  refine z_calli (va_runV (As := [.int x2]) (rest := []) (z_fix C) (cX_X6_howMany l D cI cS cW q H.size  x2 S e15) (cwV 1 C.2.2.2.2.1 (zGV zk7_19 zk7_20 zk7_21 zk1_15 zk7_22) rfl rfl rfl yd_X6_howMany ⟨Nat.le_of_ble_eq_true rfl, Nat.le_of_ble_eq_true rfl⟩) (z_preV (zNmX hE) hE hH zX_o0 rfl) rfl rfl hl.1 rfl (lv_room (Nat.le_of_ble_eq_true rfl)) dX6_answerTo_90 ⟨Nat.le_refl 0, Nat.le_refl 0⟩) hE hH (fun H locs hH => ?_)
                  cases h
                  exact z_iret C hE hH dX6_answerTo_93
                · replace h := zif_f c1_7 h
                  have ec1_0 : ¬ (x1).toInt = 0 := zsw_ne c1_0
                  have ec1_1 : ¬ (x1).toInt = 1 := zsw_ne c1_1
                  have ec1_2 : ¬ (x1).toInt = 2 := zsw_ne c1_2
                  have ec1_3 : ¬ (x1).toInt = 3 := zsw_ne c1_3
                  have ec1_4 : ¬ (x1).toInt = 4 := zsw_ne c1_4
                  have ec1_5 : ¬ (x1).toInt = 5 := zsw_ne c1_5
                  have ec1_6 : ¬ (x1).toInt = 6 := zsw_ne c1_6
                  have ec1_7 : ¬ (x1).toInt = 7 := zsw_ne c1_7
                  refine lv_tableOut (tgt := 94) hx hb dX6_answerTo_1 (by omega) (by decide) ?_
                  refine lv_aload_n hx hb dX6_answerTo_94 rfl (lv_at hl 0 rfl) ?_
                  refine z_get C hE hH zX_o0 rfl zh_X6 3 (by decide) zk7_2 (u_same (C.2.2.2.2.1 _ zk6_21)) (v := .int (S.1 20)) rfl dX6_answerTo_95 ?_
                  cases h
                  exact z_iret C hE hH dX6_answerTo_98
set_option maxHeartbeats 4000000 in
set_option maxRecDepth 100000 in
theorem cX_X6_answerTo (l : Launch) (D : va_G) (cI cS cW : ClassId) (q : Nat → Nat) (sz : Nat) (x1 : Int32) (x2 : Int32) (S : zSt) {res : Int32} (h : fX_X6_answerTo x1 x2 S = some res) : zMi l yX6_answerTo vsX6_answerTo rmX_X6_answerTo [.ref (q 0), .int x1, .int x2] D (zwX cI cS cW q) (zyX cI cS cW) znX sz S res S := by
  refine Met.ofW (cc := cX6_answerTo) (maxL := 3) (ret := (some .int)) (by decide) rfl ?_
  intro p e s m args below meth c s₁ B hml hv
  obtain ⟨rfl, rfl, hP, hK, hD0, hN⟩ := hv
  have hl := lv_entry ([.ref (q 0), .int x1, .int x2]) (n := 3) (Nat.le_of_ble_eq_true rfl)
  rw [lg_entry_eq]
  generalize (lg_sl ([.ref (q 0), .int x1, .int x2]) ++ List.replicate (3 - (lg_sl ([.ref (q 0), .int x1, .int x2])).length) Slot.unset).toArray = ls at hl ⊢
  exact bX_X6_answerTo ⟨B.exec, B.bytes, hml, findClass_of_methodNamed B.named, fun w h => atoms_spec (ws := vsX6_answerTo) B.pre w (List.mem_cons_of_mem _ h), B.returns, B.notSynchronized⟩ ⟨hK, fun q h => Or.inr h, hN⟩ x1 x2 S s.heap [] ls ⟨hP, hD0.self, va_S.rf⟩ hl  h
def rmX_X4_growIfFull_Row : Room := { frames := 0, cells := 0, slots := 0, locals := 0 }
set_option maxHeartbeats 4000000 in
set_option maxRecDepth 100000 in
theorem bX_X4_growIfFull_Row {p : Program} {l : Launch} {e : Env} {s : State} {m : MethodId} {args : Array Value} {below : List Frame} {meth : Method} {c : Code} {D : va_G} {cI cS cW : ClassId} {q : Nat → Nat} {A : Nat → Prop} {res : Int32 × zSt} (C : zCX p s m args meth c cX4_growIfFull 1 (some .int) zU RX4) (hE : zE D (zyX cI cS cW) znX A s) (S : zSt) (H : Heap) (locs : List Loc) (ls : Array Slot) (hH : zH D (zwX cI cS cW q) A s S H locs) (hl : lv_has ls 1 [(0, .ref (q 0))]) (h : fX_X4_growIfFull_Row   S = some res) : W p l e rmX_X4_growIfFull_Row s m args below meth c H locs 0 0 (zQi below D (zwX cI cS cW q) (zyX cI cS cW) A args s res.1 res.2) (F0 m 0 ls []) := by
  have hx := C.1
  have hb := C.2.1
  unfold fX_X4_growIfFull_Row at h
  refine lv_aload_n hx hb dX4_growIfFull_0 rfl (lv_at hl 0 rfl) ?_
  refine z_get C hE hH zX_o0 rfl zh_X6 3 (by decide) zk3_9 (fun _ h9 => h9) (v := .int (S.1 20)) rfl dX4_growIfFull_1 ?_
  refine lv_aload_n hx hb dX4_growIfFull_4 rfl (lv_at hl 0 rfl) ?_
  refine z_get C hE hH zX_o0 rfl zh_X6 2 (by decide) zk3_11 (fun _ h9 => h9) (v := .int (S.1 19)) rfl dX4_growIfFull_5 ?_
  refine lv_icmp_eq (tgt := 13) hx hb dX4_growIfFull_8 (by decide) (fun c1 => ?_) (fun c1 => ?_)
  · replace h := zif_t c1 h
    refine lv_aload_n hx hb dX4_growIfFull_13 rfl (lv_at hl 0 rfl) ?_
    refine lv_dup hx hb dX4_growIfFull_14 rfl ?_
    refine z_get C hE hH zX_o0 rfl zh_X6 2 (by decide) zk3_11 (fun _ h9 => h9) (v := .int (S.1 19)) rfl dX4_growIfFull_15 ?_
    refine lv_iconst (v := 2) hx hb dX4_growIfFull_18 (by decide) ?_
    refine lv_imul hx hb dX4_growIfFull_19 ?_
    refine z_put C hE hH zX_o0 rfl zh_X6 tyX6_ok nmX6 2 (by decide) zk3_11 (fun _ h9 => h9) rfl (ty := .int) rfl rfl rfl (Nat.le_of_ble_eq_true rfl) zX_i19 dX4_growIfFull_20 (fun H locs hH => ?_)
    refine lv_aload_n hx hb dX4_growIfFull_23 rfl (lv_at hl 0 rfl) ?_
    refine z_get C hE hH zX_o0 rfl zh_X6 3 (by decide) zk3_9 (fun _ h9 => h9) (v := .int (S.1 20)) rfl dX4_growIfFull_24 ?_
    cases h
    exact z_iret C hE hH dX4_growIfFull_27
  · replace h := zif_f c1 h
    refine lv_iconst (v := 0) hx hb dX4_growIfFull_11 (by decide) ?_
    cases h
    exact z_iret C hE hH dX4_growIfFull_12
set_option maxHeartbeats 4000000 in
set_option maxRecDepth 100000 in
theorem cX_X4_growIfFull_Row (l : Launch) (D : va_G) (cI cS cW : ClassId) (q : Nat → Nat) (sz : Nat) (S : zSt) {res : Int32 × zSt} (h : fX_X4_growIfFull_Row  S = some res) : zMi l yX4_growIfFull vsX4_growIfFull rmX_X4_growIfFull_Row [.ref (q 0)] D (zwX cI cS cW q) (zyX cI cS cW) znX sz S res.1 res.2 := by
  refine Met.ofW (cc := cX4_growIfFull) (maxL := 1) (ret := (some .int)) (by decide) rfl ?_
  intro p e s m args below meth c s₁ B hml hv
  obtain ⟨rfl, rfl, hP, hK, hD0, hN⟩ := hv
  have hl := lv_entry ([.ref (q 0)]) (n := 1) (Nat.le_of_ble_eq_true rfl)
  rw [lg_entry_eq]
  generalize (lg_sl ([.ref (q 0)]) ++ List.replicate (1 - (lg_sl ([.ref (q 0)])).length) Slot.unset).toArray = ls at hl ⊢
  exact bX_X4_growIfFull_Row ⟨B.exec, B.bytes, hml, findClass_of_methodNamed B.named, fun w h => atoms_spec (ws := vsX4_growIfFull) B.pre w (List.mem_cons_of_mem _ h), B.returns, B.notSynchronized⟩ ⟨hK, fun q h => Or.inr h, hN⟩  S s.heap [] ls ⟨hP, hD0.self, va_S.rf⟩ hl  h
def rmX_X4_insert_Row : Room := { frames := 1, cells := 0, slots := 0, locals := 30 }
set_option maxHeartbeats 4000000 in
set_option maxRecDepth 100000 in
theorem bX_X4_insert_Row {p : Program} {l : Launch} {e : Env} {s : State} {m : MethodId} {args : Array Value} {below : List Frame} {meth : Method} {c : Code} {D : va_G} {cI cS cW : ClassId} {q : Nat → Nat} {A : Nat → Prop} {res : zSt} (C : zCX p s m args meth c cX4_insert 3 none zU RX4) (hE : zE D (zyX cI cS cW) znX A s) (x1 x2 : Int32) (S : zSt) (H : Heap) (locs : List Loc) (ls : Array Slot) (hH : zH D (zwX cI cS cW q) A s S H locs) (hl : lv_has ls 3 [(0, .ref (q 0)), (1, .int x1), (2, .int x2)]) (h : fX_X4_insert_Row  x1 x2 S = some res) : W p l e rmX_X4_insert_Row s m args below meth c H locs 0 0 (zQv below D (zwX cI cS cW q) (zyX cI cS cW) A args s res) (F0 m 0 ls []) := by
  have hx := C.1
  have hb := C.2.1
  unfold fX_X4_insert_Row at h
  refine lv_iload_n hx hb dX4_insert_0 rfl (lv_at hl 1 rfl) ?_
  refine lv_if_lt (tgt := 60) hx hb dX4_insert_1 (by decide) (fun c1 => ?_) (fun c1 => ?_)
  · replace h := zif_t c1 h
    cases h
    exact z_vret C hE hH dX4_insert_60
  · replace h := zif_f c1 h
    refine lv_iload_n hx hb dX4_insert_4 rfl (lv_at hl 1 rfl) ?_
    refine lv_aload_n hx hb dX4_insert_5 rfl (lv_at hl 0 rfl) ?_
    refine z_get C hE hH zX_o0 rfl zh_X6 3 (by decide) zk3_9 (fun _ h9 => h9) (v := .int (S.1 20)) rfl dX4_insert_6 ?_
    refine lv_icmp_gt (tgt := 60) hx hb dX4_insert_9 (by decide) (fun c2 => ?_) (fun c2 => ?_)
    · replace h := zif_t c2 h
      cases h
      exact z_vret C hE hH dX4_insert_60
    · replace h := zif_f c2 h
      refine lv_aload_n hx hb dX4_insert_12 rfl (lv_at hl 0 rfl) ?_
      refine z_get C hE hH zX_o0 rfl zh_X6 3 (by decide) zk3_9 (fun _ h9 => h9) (v := .int (S.1 20)) rfl dX4_insert_13 ?_
      refine lv_sipush (v := 200) hx hb dX4_insert_16 (by decide) ?_
      refine lv_icmp_ge (tgt := 60) hx hb dX4_insert_19 (by decide) (fun c3 => ?_) (fun c3 => ?_)
      · replace h := zif_t c3 h
        cases h
        exact z_vret C hE hH dX4_insert_60
      · replace h := zif_f c3 h
        refine lv_aload_n hx hb dX4_insert_22 rfl (lv_at hl 0 rfl) ?_
        refine z_get C hE hH zX_o0 rfl zh_X6 0 (by decide) zk3_8 (fun _ h9 => h9) (v := .ref (q 33)) rfl dX4_insert_23 ?_
        refine lv_iload_n hx hb dX4_insert_26 rfl (lv_at hl 1 rfl) ?_
        refine lv_aload_n hx hb dX4_insert_27 rfl (lv_at hl 0 rfl) ?_
        refine z_get C hE hH zX_o0 rfl zh_X6 0 (by decide) zk3_8 (fun _ h9 => h9) (v := .ref (q 33)) rfl dX4_insert_28 ?_
        refine lv_iload_n hx hb dX4_insert_31 rfl (lv_at hl 1 rfl) ?_
        refine lv_iconst (v := 1) hx hb dX4_insert_32 (by decide) ?_
        refine lv_iadd hx hb dX4_insert_33 ?_
        refine lv_aload_n hx hb dX4_insert_34 rfl (lv_at hl 0 rfl) ?_
        refine z_get C hE hH zX_o0 rfl zh_X6 3 (by decide) zk3_9 (fun _ h9 => h9) (v := .int (S.1 20)) rfl dX4_insert_35 ?_
        refine lv_iload_n hx hb dX4_insert_38 rfl (lv_at hl 1 rfl) ?_
        refine lv_isub hx hb dX4_insert_39 ?_
        obtain ⟨g4, h⟩ := zgd_s h
        refine z_copyi C hE hH hl.1 zk10_5 zk9_9 zk9_10 zk9_11 zX_a33 zX_a33 (t0 := 0) rfl g4 zX_c33 (Nat.le_of_ble_eq_true rfl) (by decide) dX4_insert_40 (fun H locs hH => ?_)
        refine lv_aload_n hx hb dX4_insert_43 rfl (lv_at hl 0 rfl) ?_
        refine z_get C hE hH zX_o0 rfl zh_X6 0 (by decide) zk3_8 (fun _ h9 => h9) (v := .ref (q 33)) rfl dX4_insert_44 ?_
        refine lv_iload_n hx hb dX4_insert_47 rfl (lv_at hl 1 rfl) ?_
        refine lv_iload_n hx hb dX4_insert_48 rfl (lv_at hl 2 rfl) ?_
        obtain ⟨g5, h⟩ := zgd_s h
        refine z_iast C hE hH zX_a33 (t0 := 0) rfl g5 zX_r33 dX4_insert_49 (fun H locs hH => ?_)
        refine lv_aload_n hx hb dX4_insert_50 rfl (lv_at hl 0 rfl) ?_
        refine lv_dup hx hb dX4_insert_51 rfl ?_
        refine z_get C hE hH zX_o0 rfl zh_X6 3 (by decide) zk3_9 (fun _ h9 => h9) (v := .int (S.1 20)) rfl dX4_insert_52 ?_
        refine lv_iconst (v := 1) hx hb dX4_insert_55 (by decide) ?_
        refine lv_iadd hx hb dX4_insert_56 ?_
        refine z_put C hE hH zX_o0 rfl zh_X6 tyX6_ok nmX6 3 (by decide) zk3_9 (fun _ h9 => h9) rfl (ty := .int) rfl rfl rfl (Nat.le_of_ble_eq_true rfl) zX_i20 dX4_insert_57 (fun H locs hH => ?_)
        cases h
        exact z_vret C hE hH dX4_insert_60
set_option maxHeartbeats 4000000 in
set_option maxRecDepth 100000 in
theorem cX_X4_insert_Row (l : Launch) (D : va_G) (cI cS cW : ClassId) (q : Nat → Nat) (sz : Nat) (x1 : Int32) (x2 : Int32) (S : zSt) {res : zSt} (h : fX_X4_insert_Row x1 x2 S = some res) : zMv l yX4_insert vsX4_insert rmX_X4_insert_Row [.ref (q 0), .int x1, .int x2] D (zwX cI cS cW q) (zyX cI cS cW) znX sz S res := by
  refine Met.ofW (cc := cX4_insert) (maxL := 3) (ret := none) (by decide) rfl ?_
  intro p e s m args below meth c s₁ B hml hv
  obtain ⟨rfl, rfl, hP, hK, hD0, hN⟩ := hv
  have hl := lv_entry ([.ref (q 0), .int x1, .int x2]) (n := 3) (Nat.le_of_ble_eq_true rfl)
  rw [lg_entry_eq]
  generalize (lg_sl ([.ref (q 0), .int x1, .int x2]) ++ List.replicate (3 - (lg_sl ([.ref (q 0), .int x1, .int x2])).length) Slot.unset).toArray = ls at hl ⊢
  exact bX_X4_insert_Row ⟨B.exec, B.bytes, hml, findClass_of_methodNamed B.named, fun w h => atoms_spec (ws := vsX4_insert) B.pre w (List.mem_cons_of_mem _ h), B.returns, B.notSynchronized⟩ ⟨hK, fun q h => Or.inr h, hN⟩ x1 x2 S s.heap [] ls ⟨hP, hD0.self, va_S.rf⟩ hl  h
def rmX_X4_append_Row : Room := { frames := 2, cells := 0, slots := 0, locals := 52 }
set_option maxHeartbeats 4000000 in
set_option maxRecDepth 100000 in
theorem bX_X4_append_Row {p : Program} {l : Launch} {e : Env} {s : State} {m : MethodId} {args : Array Value} {below : List Frame} {meth : Method} {c : Code} {D : va_G} {cI cS cW : ClassId} {q : Nat → Nat} {A : Nat → Prop} {res : Int32 × zSt} (C : zCX p s m args meth c cX4_append 3 (some .int) zU RX4) (hE : zE D (zyX cI cS cW) znX A s) (x1 : Int32) (S : zSt) (H : Heap) (locs : List Loc) (ls : Array Slot) (hH : zH D (zwX cI cS cW q) A s S H locs) (hl : lv_has ls 3 [(0, .ref (q 0)), (1, .int x1)]) (h : fX_X4_append_Row  x1 S = some res) : W p l e rmX_X4_append_Row s m args below meth c H locs 0 0 (zQi below D (zwX cI cS cW q) (zyX cI cS cW) A args s res.1 res.2) (F0 m 0 ls []) := by
  have hx := C.1
  have hb := C.2.1
  unfold fX_X4_append_Row at h
  refine lv_aload_n hx hb dX4_append_0 rfl (lv_at hl 0 rfl) ?_
  obtain ⟨u1, e2, h⟩ := zbd_s h
  refine z_calli (va_runU (As := []) (rest := []) (z_fix C) (cX_X4_growIfFull_Row l D cI cS cW q H.size   S e2) (va_cwU 0 C.2.2.2.2.1 (zGU (x := ⟨"WhichShelf$Lined", "growIfFull", "()I"⟩) (owner := "WhichShelf$Lined") zk11_8 zk11_9 zk11_14 zk11_11 zk3_6 zk11_12) rfl rfl rfl rfl ydu_X4_growIfFull ⟨Nat.le_of_ble_eq_true rfl, Nat.le_of_ble_eq_true rfl⟩) (z_preV (zNmX hE) hE hH zX_o0 rfl) rfl rfl hl.1 rfl (lv_room (Nat.le_of_ble_eq_true rfl)) dX4_append_1 ⟨Nat.le_refl 0, Nat.le_refl 0⟩) hE hH (fun H locs hH => ?_)
  refine lv_istore_n (lv' := [(2, .int u1.1), (0, .ref (q 0)), (1, .int x1)]) hx hb dX4_append_4 rfl hl (by decide) rfl (fun ls hl => ?_)
  refine lv_aload_n hx hb dX4_append_5 rfl (lv_at hl 1 rfl) ?_
  refine lv_aload_n hx hb dX4_append_6 rfl (lv_at hl 1 rfl) ?_
  refine z_get C hE hH zX_o0 rfl zh_X6 3 (by decide) zk3_9 (fun _ h9 => h9) (v := .int (u1.2.1 20)) rfl dX4_append_7 ?_
  refine lv_iload_n hx hb dX4_append_10 rfl (lv_at hl 2 rfl) ?_
  obtain ⟨u3, e4, h⟩ := zbd_s h
  refine z_callv (va_runU (As := [.int (u1.2.1 20), .int x1]) (rest := []) (z_fix C) (cX_X4_insert_Row l D cI cS cW q H.size  (u1.2.1 20) x1 u1.2 e4) (va_cwU 2 C.2.2.2.2.1 (zGU (x := ⟨"WhichShelf$Lined", "insert", "(II)V"⟩) (owner := "WhichShelf$Lined") zk11_16 zk11_17 zk11_20 zk10_3 zk3_6 zk10_4) rfl rfl rfl rfl ydu_X4_insert ⟨Nat.le_of_ble_eq_true rfl, Nat.le_of_ble_eq_true rfl⟩) (z_preV (zNmX hE) hE hH zX_o0 rfl) rfl rfl hl.1 rfl (lv_room (Nat.le_of_ble_eq_true rfl)) dX4_append_11 ⟨Nat.le_refl 0, Nat.le_refl 0⟩) hE hH (fun H locs hH => ?_)
  refine lv_iload_n hx hb dX4_append_14 rfl (lv_at hl 0 rfl) ?_
  refine lv_iconst (v := 1) hx hb dX4_append_15 (by decide) ?_
  refine lv_iadd hx hb dX4_append_16 ?_
  cases h
  exact z_iret C hE hH dX4_append_17
set_option maxHeartbeats 4000000 in
set_option maxRecDepth 100000 in
theorem cX_X4_append_Row (l : Launch) (D : va_G) (cI cS cW : ClassId) (q : Nat → Nat) (sz : Nat) (x1 : Int32) (S : zSt) {res : Int32 × zSt} (h : fX_X4_append_Row x1 S = some res) : zMi l yX4_append vsX4_append rmX_X4_append_Row [.ref (q 0), .int x1] D (zwX cI cS cW q) (zyX cI cS cW) znX sz S res.1 res.2 := by
  refine Met.ofW (cc := cX4_append) (maxL := 3) (ret := (some .int)) (by decide) rfl ?_
  intro p e s m args below meth c s₁ B hml hv
  obtain ⟨rfl, rfl, hP, hK, hD0, hN⟩ := hv
  have hl := lv_entry ([.ref (q 0), .int x1]) (n := 3) (Nat.le_of_ble_eq_true rfl)
  rw [lg_entry_eq]
  generalize (lg_sl ([.ref (q 0), .int x1]) ++ List.replicate (3 - (lg_sl ([.ref (q 0), .int x1])).length) Slot.unset).toArray = ls at hl ⊢
  exact bX_X4_append_Row ⟨B.exec, B.bytes, hml, findClass_of_methodNamed B.named, fun w h => atoms_spec (ws := vsX4_append) B.pre w (List.mem_cons_of_mem _ h), B.returns, B.notSynchronized⟩ ⟨hK, fun q h => Or.inr h, hN⟩ x1 S s.heap [] ls ⟨hP, hD0.self, va_S.rf⟩ hl  h
def rmX_X4_stepsTo_Row : Room := { frames := 0, cells := 0, slots := 0, locals := 0 }
set_option maxHeartbeats 4000000 in
set_option maxRecDepth 100000 in
theorem bX_X4_stepsTo_Row {p : Program} {l : Launch} {e : Env} {s : State} {m : MethodId} {args : Array Value} {below : List Frame} {meth : Method} {c : Code} {D : va_G} {cI cS cW : ClassId} {q : Nat → Nat} {A : Nat → Prop} {res : Int32} (C : zCX p s m args meth c cX4_stepsTo 2 (some .int) zU RX4) (hE : zE D (zyX cI cS cW) znX A s) (x1 : Int32) (S : zSt) (H : Heap) (locs : List Loc) (ls : Array Slot) (hH : zH D (zwX cI cS cW q) A s S H locs) (hl : lv_has ls 2 [(0, .ref (q 0)), (1, .int x1)]) (h : fX_X4_stepsTo_Row  x1 S = some res) : W p l e rmX_X4_stepsTo_Row s m args below meth c H locs 0 0 (zQi below D (zwX cI cS cW q) (zyX cI cS cW) A args s res S) (F0 m 0 ls []) := by
  have hx := C.1
  have hb := C.2.1
  unfold fX_X4_stepsTo_Row at h
  refine lv_iload_n hx hb dX4_stepsTo_0 rfl (lv_at hl 1 rfl) ?_
  refine lv_iconst (v := (-1)) hx hb dX4_stepsTo_1 (by decide) ?_
  refine lv_icmp_ne (tgt := 12) hx hb dX4_stepsTo_2 (by decide) (fun c1 => ?_) (fun c1 => ?_)
  · replace h := zif_f c1 h
    refine lv_iload_n hx hb dX4_stepsTo_12 rfl (lv_at hl 1 rfl) ?_
    refine lv_iconst (v := 1) hx hb dX4_stepsTo_13 (by decide) ?_
    refine lv_iadd hx hb dX4_stepsTo_14 ?_
    cases h
    exact z_iret C hE hH dX4_stepsTo_15
  · replace h := zif_t c1 h
    refine lv_aload_n hx hb dX4_stepsTo_5 rfl (lv_at hl 0 rfl) ?_
    refine z_get C hE hH zX_o0 rfl zh_X6 3 (by decide) zk3_9 (fun _ h9 => h9) (v := .int (S.1 20)) rfl dX4_stepsTo_6 ?_
    refine lv_goto (tgt := 15) hx hb dX4_stepsTo_9 (by decide) ?_
    cases h
    exact z_iret C hE hH dX4_stepsTo_15
set_option maxHeartbeats 4000000 in
set_option maxRecDepth 100000 in
theorem cX_X4_stepsTo_Row (l : Launch) (D : va_G) (cI cS cW : ClassId) (q : Nat → Nat) (sz : Nat) (x1 : Int32) (S : zSt) {res : Int32} (h : fX_X4_stepsTo_Row x1 S = some res) : zMi l yX4_stepsTo vsX4_stepsTo rmX_X4_stepsTo_Row [.ref (q 0), .int x1] D (zwX cI cS cW q) (zyX cI cS cW) znX sz S res S := by
  refine Met.ofW (cc := cX4_stepsTo) (maxL := 2) (ret := (some .int)) (by decide) rfl ?_
  intro p e s m args below meth c s₁ B hml hv
  obtain ⟨rfl, rfl, hP, hK, hD0, hN⟩ := hv
  have hl := lv_entry ([.ref (q 0), .int x1]) (n := 2) (Nat.le_of_ble_eq_true rfl)
  rw [lg_entry_eq]
  generalize (lg_sl ([.ref (q 0), .int x1]) ++ List.replicate (2 - (lg_sl ([.ref (q 0), .int x1])).length) Slot.unset).toArray = ls at hl ⊢
  exact bX_X4_stepsTo_Row ⟨B.exec, B.bytes, hml, findClass_of_methodNamed B.named, fun w h => atoms_spec (ws := vsX4_stepsTo) B.pre w (List.mem_cons_of_mem _ h), B.returns, B.notSynchronized⟩ ⟨hK, fun q h => Or.inr h, hN⟩ x1 S s.heap [] ls ⟨hP, hD0.self, va_S.rf⟩ hl  h
def rmX_X4_remove_Row : Room := { frames := 1, cells := 0, slots := 0, locals := 30 }
set_option maxHeartbeats 4000000 in
set_option maxRecDepth 100000 in
theorem bX_X4_remove_Row {p : Program} {l : Launch} {e : Env} {s : State} {m : MethodId} {args : Array Value} {below : List Frame} {meth : Method} {c : Code} {D : va_G} {cI cS cW : ClassId} {q : Nat → Nat} {A : Nat → Prop} {res : zSt} (C : zCX p s m args meth c cX4_remove 2 none zU RX4) (hE : zE D (zyX cI cS cW) znX A s) (x1 : Int32) (S : zSt) (H : Heap) (locs : List Loc) (ls : Array Slot) (hH : zH D (zwX cI cS cW q) A s S H locs) (hl : lv_has ls 2 [(0, .ref (q 0)), (1, .int x1)]) (h : fX_X4_remove_Row  x1 S = some res) : W p l e rmX_X4_remove_Row s m args below meth c H locs 0 0 (zQv below D (zwX cI cS cW q) (zyX cI cS cW) A args s res) (F0 m 0 ls []) := by
  have hx := C.1
  have hb := C.2.1
  unfold fX_X4_remove_Row at h
  refine lv_iload_n hx hb dX4_remove_0 rfl (lv_at hl 1 rfl) ?_
  refine lv_if_lt (tgt := 45) hx hb dX4_remove_1 (by decide) (fun c1 => ?_) (fun c1 => ?_)
  · replace h := zif_t c1 h
    cases h
    exact z_vret C hE hH dX4_remove_45
  · replace h := zif_f c1 h
    refine lv_iload_n hx hb dX4_remove_4 rfl (lv_at hl 1 rfl) ?_
    refine lv_aload_n hx hb dX4_remove_5 rfl (lv_at hl 0 rfl) ?_
    refine z_get C hE hH zX_o0 rfl zh_X6 3 (by decide) zk3_9 (fun _ h9 => h9) (v := .int (S.1 20)) rfl dX4_remove_6 ?_
    refine lv_icmp_ge (tgt := 45) hx hb dX4_remove_9 (by decide) (fun c2 => ?_) (fun c2 => ?_)
    · replace h := zif_t c2 h
      cases h
      exact z_vret C hE hH dX4_remove_45
    · replace h := zif_f c2 h
      refine lv_aload_n hx hb dX4_remove_12 rfl (lv_at hl 0 rfl) ?_
      refine z_get C hE hH zX_o0 rfl zh_X6 0 (by decide) zk3_8 (fun _ h9 => h9) (v := .ref (q 33)) rfl dX4_remove_13 ?_
      refine lv_iload_n hx hb dX4_remove_16 rfl (lv_at hl 1 rfl) ?_
      refine lv_iconst (v := 1) hx hb dX4_remove_17 (by decide) ?_
      refine lv_iadd hx hb dX4_remove_18 ?_
      refine lv_aload_n hx hb dX4_remove_19 rfl (lv_at hl 0 rfl) ?_
      refine z_get C hE hH zX_o0 rfl zh_X6 0 (by decide) zk3_8 (fun _ h9 => h9) (v := .ref (q 33)) rfl dX4_remove_20 ?_
      refine lv_iload_n hx hb dX4_remove_23 rfl (lv_at hl 1 rfl) ?_
      refine lv_aload_n hx hb dX4_remove_24 rfl (lv_at hl 0 rfl) ?_
      refine z_get C hE hH zX_o0 rfl zh_X6 3 (by decide) zk3_9 (fun _ h9 => h9) (v := .int (S.1 20)) rfl dX4_remove_25 ?_
      refine lv_iload_n hx hb dX4_remove_28 rfl (lv_at hl 1 rfl) ?_
      refine lv_isub hx hb dX4_remove_29 ?_
      refine lv_iconst (v := 1) hx hb dX4_remove_30 (by decide) ?_
      refine lv_isub hx hb dX4_remove_31 ?_
      obtain ⟨g3, h⟩ := zgd_s h
      refine z_copyi C hE hH hl.1 zk10_5 zk9_9 zk9_10 zk9_11 zX_a33 zX_a33 (t0 := 0) rfl g3 zX_c33 (Nat.le_of_ble_eq_true rfl) (by decide) dX4_remove_32 (fun H locs hH => ?_)
      refine lv_aload_n hx hb dX4_remove_35 rfl (lv_at hl 0 rfl) ?_
      refine lv_dup hx hb dX4_remove_36 rfl ?_
      refine z_get C hE hH zX_o0 rfl zh_X6 3 (by decide) zk3_9 (fun _ h9 => h9) (v := .int (S.1 20)) rfl dX4_remove_37 ?_
      refine lv_iconst (v := 1) hx hb dX4_remove_40 (by decide) ?_
      refine lv_isub hx hb dX4_remove_41 ?_
      refine z_put C hE hH zX_o0 rfl zh_X6 tyX6_ok nmX6 3 (by decide) zk3_9 (fun _ h9 => h9) rfl (ty := .int) rfl rfl rfl (Nat.le_of_ble_eq_true rfl) zX_i20 dX4_remove_42 (fun H locs hH => ?_)
      cases h
      exact z_vret C hE hH dX4_remove_45
set_option maxHeartbeats 4000000 in
set_option maxRecDepth 100000 in
theorem cX_X4_remove_Row (l : Launch) (D : va_G) (cI cS cW : ClassId) (q : Nat → Nat) (sz : Nat) (x1 : Int32) (S : zSt) {res : zSt} (h : fX_X4_remove_Row x1 S = some res) : zMv l yX4_remove vsX4_remove rmX_X4_remove_Row [.ref (q 0), .int x1] D (zwX cI cS cW q) (zyX cI cS cW) znX sz S res := by
  refine Met.ofW (cc := cX4_remove) (maxL := 2) (ret := none) (by decide) rfl ?_
  intro p e s m args below meth c s₁ B hml hv
  obtain ⟨rfl, rfl, hP, hK, hD0, hN⟩ := hv
  have hl := lv_entry ([.ref (q 0), .int x1]) (n := 2) (Nat.le_of_ble_eq_true rfl)
  rw [lg_entry_eq]
  generalize (lg_sl ([.ref (q 0), .int x1]) ++ List.replicate (2 - (lg_sl ([.ref (q 0), .int x1])).length) Slot.unset).toArray = ls at hl ⊢
  exact bX_X4_remove_Row ⟨B.exec, B.bytes, hml, findClass_of_methodNamed B.named, fun w h => atoms_spec (ws := vsX4_remove) B.pre w (List.mem_cons_of_mem _ h), B.returns, B.notSynchronized⟩ ⟨hK, fun q h => Or.inr h, hN⟩ x1 S s.heap [] ls ⟨hP, hD0.self, va_S.rf⟩ hl  h
def rmX_X6_strike : Room := { frames := 2, cells := 0, slots := 0, locals := 51 }
set_option maxHeartbeats 4000000 in
set_option maxRecDepth 100000 in
theorem bX_X6_strike {p : Program} {l : Launch} {e : Env} {s : State} {m : MethodId} {args : Array Value} {below : List Frame} {meth : Method} {c : Code} {D : va_G} {cI cS cW : ClassId} {q : Nat → Nat} {A : Nat → Prop} {res : Int32 × zSt} (C : zCX p s m args meth c cX6_strike 4 (some .int) zU RX6) (hE : zE D (zyX cI cS cW) znX A s) (x1 : Int32) (S : zSt) (H : Heap) (locs : List Loc) (ls : Array Slot) (hH : zH D (zwX cI cS cW q) A s S H locs) (hl : lv_has ls 4 [(0, .ref (q 0)), (1, .int x1)]) (h : fX_X6_strike  x1 S = some res) : W p l e rmX_X6_strike s m args below meth c H locs 0 0 (zQi below D (zwX cI cS cW q) (zyX cI cS cW) A args s res.1 res.2) (F0 m 0 ls []) := by
  have hx := C.1
  have hb := C.2.1
  unfold fX_X6_strike at h
  refine lv_aload_n hx hb dX6_strike_0 rfl (lv_at hl 0 rfl) ?_
  refine lv_iload_n hx hb dX6_strike_1 rfl (lv_at hl 1 rfl) ?_
  obtain ⟨u1, e2, h⟩ := zbd_s h
  refine z_calli (va_runU (As := [.int x1]) (rest := []) (z_fix C) (cX_X4_placeOf_Row l D cI cS cW q H.size  x1 S e2) (va_cwU 1 C.2.2.2.2.1 (zGU (x := ⟨"WhichShelf$Row", "placeOf", "(I)I"⟩) (owner := "WhichShelf$Lined") zk7_3 zk7_4 zk7_5 zk7_6 zk3_6 zk7_7) rfl rfl rfl rfl ydu_X4_placeOf ⟨Nat.le_of_ble_eq_true rfl, Nat.le_of_ble_eq_true rfl⟩) (z_preV (zNmX hE) hE hH zX_o0 rfl) rfl rfl hl.1 rfl (lv_room (Nat.le_of_ble_eq_true rfl)) dX6_strike_2 ⟨Nat.le_refl 0, Nat.le_refl 0⟩) hE hH (fun H locs hH => ?_)
  refine lv_istore_n (lv' := [(2, .int u1), (0, .ref (q 0)), (1, .int x1)]) hx hb dX6_strike_5 rfl hl (by decide) rfl (fun ls hl => ?_)
  refine lv_aload_n hx hb dX6_strike_6 rfl (lv_at hl 1 rfl) ?_
  refine lv_iload_n hx hb dX6_strike_7 rfl (lv_at hl 0 rfl) ?_
  obtain ⟨u3, e4, h⟩ := zbd_s h
  refine z_calli (va_runU (As := [.int u1]) (rest := []) (z_fix C) (cX_X4_stepsTo_Row l D cI cS cW q H.size  u1 S e4) (va_cwU 1 C.2.2.2.2.1 (zGU (x := ⟨"WhichShelf$Row", "stepsTo", "(I)I"⟩) (owner := "WhichShelf$Lined") zk13_10 zk13_11 zk13_12 zk12_14 zk3_6 zk12_15) rfl rfl rfl rfl ydu_X4_stepsTo ⟨Nat.le_of_ble_eq_true rfl, Nat.le_of_ble_eq_true rfl⟩) (z_preV (zNmX hE) hE hH zX_o0 rfl) rfl rfl hl.1 rfl (lv_room (Nat.le_of_ble_eq_true rfl)) dX6_strike_8 ⟨Nat.le_refl 0, Nat.le_refl 0⟩) hE hH (fun H locs hH => ?_)
  refine lv_istore_n (lv' := [(3, .int u3), (2, .int u1), (0, .ref (q 0)), (1, .int x1)]) hx hb dX6_strike_11 rfl hl (by decide) rfl (fun ls hl => ?_)
  refine lv_iload_n hx hb dX6_strike_12 rfl (lv_at hl 1 rfl) ?_
  refine lv_iconst (v := (-1)) hx hb dX6_strike_13 (by decide) ?_
  refine lv_icmp_ne (tgt := 19) hx hb dX6_strike_14 (by decide) (fun c5 => ?_) (fun c5 => ?_)
  · replace h := zif_f c5 h
    refine lv_aload_n hx hb dX6_strike_19 rfl (lv_at hl 2 rfl) ?_
    refine lv_iload_n hx hb dX6_strike_20 rfl (lv_at hl 1 rfl) ?_
    obtain ⟨u6, e7, h⟩ := zbd_s h
    refine z_callv (va_runU (As := [.int u1]) (rest := []) (z_fix C) (cX_X4_remove_Row l D cI cS cW q H.size  u1 S e7) (va_cwU 1 C.2.2.2.2.1 (zGU (x := ⟨"WhichShelf$Row", "remove", "(I)V"⟩) (owner := "WhichShelf$Lined") zk13_17 zk13_18 zk13_19 zk10_20 zk3_6 zk10_21) rfl rfl rfl rfl ydu_X4_remove ⟨Nat.le_of_ble_eq_true rfl, Nat.le_of_ble_eq_true rfl⟩) (z_preV (zNmX hE) hE hH zX_o0 rfl) rfl rfl hl.1 rfl (lv_room (Nat.le_of_ble_eq_true rfl)) dX6_strike_21 ⟨Nat.le_refl 0, Nat.le_refl 0⟩) hE hH (fun H locs hH => ?_)
    refine lv_iload_n hx hb dX6_strike_24 rfl (lv_at hl 0 rfl) ?_
    refine lv_aload_n hx hb dX6_strike_25 rfl (lv_at hl 2 rfl) ?_
    refine z_get C hE hH zX_o0 rfl zh_X6 3 (by decide) zk7_2 (u_same (C.2.2.2.2.1 _ zk6_21)) (v := .int (u6.1 20)) rfl dX6_strike_26 ?_
    refine lv_iadd hx hb dX6_strike_29 ?_
    refine lv_iload_n hx hb dX6_strike_30 rfl (lv_at hl 1 rfl) ?_
    refine lv_isub hx hb dX6_strike_31 ?_
    cases h
    exact z_iret C hE hH dX6_strike_32
  · replace h := zif_t c5 h
    refine lv_iload_n hx hb dX6_strike_17 rfl (lv_at hl 0 rfl) ?_
    cases h
    exact z_iret C hE hH dX6_strike_18
set_option maxHeartbeats 4000000 in
set_option maxRecDepth 100000 in
theorem cX_X6_strike (l : Launch) (D : va_G) (cI cS cW : ClassId) (q : Nat → Nat) (sz : Nat) (x1 : Int32) (S : zSt) {res : Int32 × zSt} (h : fX_X6_strike x1 S = some res) : zMi l yX6_strike vsX6_strike rmX_X6_strike [.ref (q 0), .int x1] D (zwX cI cS cW q) (zyX cI cS cW) znX sz S res.1 res.2 := by
  refine Met.ofW (cc := cX6_strike) (maxL := 4) (ret := (some .int)) (by decide) rfl ?_
  intro p e s m args below meth c s₁ B hml hv
  obtain ⟨rfl, rfl, hP, hK, hD0, hN⟩ := hv
  have hl := lv_entry ([.ref (q 0), .int x1]) (n := 4) (Nat.le_of_ble_eq_true rfl)
  rw [lg_entry_eq]
  generalize (lg_sl ([.ref (q 0), .int x1]) ++ List.replicate (4 - (lg_sl ([.ref (q 0), .int x1])).length) Slot.unset).toArray = ls at hl ⊢
  exact bX_X6_strike ⟨B.exec, B.bytes, hml, findClass_of_methodNamed B.named, fun w h => atoms_spec (ws := vsX6_strike) B.pre w (List.mem_cons_of_mem _ h), B.returns, B.notSynchronized⟩ ⟨hK, fun q h => Or.inr h, hN⟩ x1 S s.heap [] ls ⟨hP, hD0.self, va_S.rf⟩ hl  h
def rmX_X6_step : Room := { frames := 3, cells := 0, slots := 0, locals := 74 }
set_option maxHeartbeats 4000000 in
set_option maxRecDepth 100000 in
theorem bX_X6_step {p : Program} {l : Launch} {e : Env} {s : State} {m : MethodId} {args : Array Value} {below : List Frame} {meth : Method} {c : Code} {D : va_G} {cI cS cW : ClassId} {q : Nat → Nat} {A : Nat → Prop} {res : Int32 × zSt} (C : zCX p s m args meth c cX6_step 3 (some .int) zU RX6) (hE : zE D (zyX cI cS cW) znX A s) (x1 x2 : Int32) (S : zSt) (H : Heap) (locs : List Loc) (ls : Array Slot) (hH : zH D (zwX cI cS cW q) A s S H locs) (hl : lv_has ls 3 [(0, .ref (q 0)), (1, .int x1), (2, .int x2)]) (h : fX_X6_step  x1 x2 S = some res) : W p l e rmX_X6_step s m args below meth c H locs 0 0 (zQi below D (zwX cI cS cW q) (zyX cI cS cW) A args s res.1 res.2) (F0 m 0 ls []) := by
  have hx := C.1
  have hb := C.2.1
  unfold fX_X6_step at h
  refine lv_iload_n hx hb dX6_step_0 rfl (lv_at hl 1 rfl) ?_
  by_cases c1_0 : x1 = 0
  · replace h := zif_t c1_0 h
    refine lv_tableIn (tgt := 44) hx hb dX6_step_1 (by rw [c1_0]; decide) (by rw [c1_0]; decide) (by rw [c1_0]; rfl) (by decide) ?_
    refine lv_aload_n hx hb dX6_step_44 rfl (lv_at hl 0 rfl) ?_
    refine lv_iload_n hx hb dX6_step_45 rfl (lv_at hl 2 rfl) ?_
    obtain ⟨u2, e3, h⟩ := zbd_s h
    refine z_calli (va_runU (As := [.int x2]) (rest := []) (z_fix C) (cX_X4_append_Row l D cI cS cW q H.size  x2 S e3) (va_cwU 1 C.2.2.2.2.1 (zGU (x := ⟨"WhichShelf$Row", "append", "(I)I"⟩) (owner := "WhichShelf$Lined") zk13_7 zk13_8 zk13_9 zk11_6 zk3_6 zk11_7) rfl rfl rfl rfl ydu_X4_append ⟨Nat.le_of_ble_eq_true rfl, Nat.le_of_ble_eq_true rfl⟩) (z_preV (zNmX hE) hE hH zX_o0 rfl) rfl rfl hl.1 rfl (lv_room (Nat.le_of_ble_eq_true rfl)) dX6_step_46 ⟨Nat.le_refl 0, Nat.le_refl 0⟩) hE hH (fun H locs hH => ?_)
    cases h
    exact z_iret C hE hH dX6_step_49
  · replace h := zif_f c1_0 h
    by_cases c1_1 : x1 = 1
    · replace h := zif_t c1_1 h
      refine lv_tableIn (tgt := 50) hx hb dX6_step_1 (by rw [c1_1]; decide) (by rw [c1_1]; decide) (by rw [c1_1]; rfl) (by decide) ?_
      refine lv_aload_n hx hb dX6_step_50 rfl (lv_at hl 0 rfl) ?_
      refine lv_aload_n hx hb dX6_step_51 rfl (lv_at hl 0 rfl) ?_
      refine lv_iload_n hx hb dX6_step_52 rfl (lv_at hl 2 rfl) ?_
      obtain ⟨u4, e5, h⟩ := zbd_s h
      refine z_calli (va_runU (As := [.int x2]) (rest := [.ref (q 0)]) (z_fix C) (cX_X4_placeOf_Row l D cI cS cW q H.size  x2 S e5) (va_cwU 1 C.2.2.2.2.1 (zGU (x := ⟨"WhichShelf$Row", "placeOf", "(I)I"⟩) (owner := "WhichShelf$Lined") zk7_3 zk7_4 zk7_5 zk7_6 zk3_6 zk7_7) rfl rfl rfl rfl ydu_X4_placeOf ⟨Nat.le_of_ble_eq_true rfl, Nat.le_of_ble_eq_true rfl⟩) (z_preV (zNmX hE) hE hH zX_o0 rfl) rfl rfl hl.1 rfl (lv_room (Nat.le_of_ble_eq_true rfl)) dX6_step_53 ⟨Nat.le_refl 0, Nat.le_refl 0⟩) hE hH (fun H locs hH => ?_)
      obtain ⟨u6, e7, h⟩ := zbd_s h
      refine z_calli (va_runU (As := [.int u4]) (rest := []) (z_fix C) (cX_X4_stepsTo_Row l D cI cS cW q H.size  u4 S e7) (va_cwU 1 C.2.2.2.2.1 (zGU (x := ⟨"WhichShelf$Row", "stepsTo", "(I)I"⟩) (owner := "WhichShelf$Lined") zk13_10 zk13_11 zk13_12 zk12_14 zk3_6 zk12_15) rfl rfl rfl rfl ydu_X4_stepsTo ⟨Nat.le_of_ble_eq_true rfl, Nat.le_of_ble_eq_true rfl⟩) (z_preV (zNmX hE) hE hH zX_o0 rfl) rfl rfl hl.1 rfl (lv_room (Nat.le_of_ble_eq_true rfl)) dX6_step_56 ⟨Nat.le_refl 0, Nat.le_refl 0⟩) hE hH (fun H locs hH => ?_)
      cases h
      exact z_iret C hE hH dX6_step_59
    · replace h := zif_f c1_1 h
      by_cases c1_2 : x1 = 2
      · replace h := zif_t c1_2 h
        refine lv_tableIn (tgt := 60) hx hb dX6_step_1 (by rw [c1_2]; decide) (by rw [c1_2]; decide) (by rw [c1_2]; rfl) (by decide) ?_
        refine lv_aload_n hx hb dX6_step_60 rfl (lv_at hl 0 rfl) ?_
        refine lv_iload_n hx hb dX6_step_61 rfl (lv_at hl 2 rfl) ?_
        obtain ⟨u8, e9, h⟩ := zbd_s h
        refine z_calli (va_runV (As := [.int x2]) (rest := []) (z_fix C) (cX_X6_strike l D cI cS cW q H.size  x2 S e9) (cwV 1 C.2.2.2.2.1 (zGV zk13_13 zk13_14 zk13_15 zk1_15 zk13_16) rfl rfl rfl yd_X6_strike ⟨Nat.le_of_ble_eq_true rfl, Nat.le_of_ble_eq_true rfl⟩) (z_preV (zNmX hE) hE hH zX_o0 rfl) rfl rfl hl.1 rfl (lv_room (Nat.le_of_ble_eq_true rfl)) dX6_step_62 ⟨Nat.le_refl 0, Nat.le_refl 0⟩) hE hH (fun H locs hH => ?_)
        cases h
        exact z_iret C hE hH dX6_step_65
      · replace h := zif_f c1_2 h
        by_cases c1_3 : x1 = 3
        · replace h := zif_t c1_3 h
          refine lv_tableIn (tgt := 68) hx hb dX6_step_1 (by rw [c1_3]; decide) (by rw [c1_3]; decide) (by rw [c1_3]; rfl) (by decide) ?_
          refine lv_aload_n hx hb dX6_step_68 rfl (lv_at hl 0 rfl) ?_
          refine z_get C hE hH zX_o0 rfl zh_X6 3 (by decide) zk7_2 (u_same (C.2.2.2.2.1 _ zk6_21)) (v := .int (S.1 20)) rfl dX6_step_69 ?_
          cases h
          exact z_iret C hE hH dX6_step_72
        · replace h := zif_f c1_3 h
          by_cases c1_4 : x1 = 4
          · replace h := zif_t c1_4 h
            refine lv_tableIn (tgt := 68) hx hb dX6_step_1 (by rw [c1_4]; decide) (by rw [c1_4]; decide) (by rw [c1_4]; rfl) (by decide) ?_
            refine lv_aload_n hx hb dX6_step_68 rfl (lv_at hl 0 rfl) ?_
            refine z_get C hE hH zX_o0 rfl zh_X6 3 (by decide) zk7_2 (u_same (C.2.2.2.2.1 _ zk6_21)) (v := .int (S.1 20)) rfl dX6_step_69 ?_
            cases h
            exact z_iret C hE hH dX6_step_72
          · replace h := zif_f c1_4 h
            by_cases c1_5 : x1 = 5
            · replace h := zif_t c1_5 h
              refine lv_tableIn (tgt := 68) hx hb dX6_step_1 (by rw [c1_5]; decide) (by rw [c1_5]; decide) (by rw [c1_5]; rfl) (by decide) ?_
              refine lv_aload_n hx hb dX6_step_68 rfl (lv_at hl 0 rfl) ?_
              refine z_get C hE hH zX_o0 rfl zh_X6 3 (by decide) zk7_2 (u_same (C.2.2.2.2.1 _ zk6_21)) (v := .int (S.1 20)) rfl dX6_step_69 ?_
              cases h
              exact z_iret C hE hH dX6_step_72
            · replace h := zif_f c1_5 h
              by_cases c1_6 : x1 = 6
              · replace h := zif_t c1_6 h
                refine lv_tableIn (tgt := 66) hx hb dX6_step_1 (by rw [c1_6]; decide) (by rw [c1_6]; decide) (by rw [c1_6]; rfl) (by decide) ?_
                refine lv_iconst (v := 1) hx hb dX6_step_66 (by decide) ?_
                cases h
                exact z_iret C hE hH dX6_step_67
              · replace h := zif_f c1_6 h
                have ec1_0 : ¬ (x1).toInt = 0 := zsw_ne c1_0
                have ec1_1 : ¬ (x1).toInt = 1 := zsw_ne c1_1
                have ec1_2 : ¬ (x1).toInt = 2 := zsw_ne c1_2
                have ec1_3 : ¬ (x1).toInt = 3 := zsw_ne c1_3
                have ec1_4 : ¬ (x1).toInt = 4 := zsw_ne c1_4
                have ec1_5 : ¬ (x1).toInt = 5 := zsw_ne c1_5
                have ec1_6 : ¬ (x1).toInt = 6 := zsw_ne c1_6
                refine lv_tableOut (tgt := 68) hx hb dX6_step_1 (by omega) (by decide) ?_
                refine lv_aload_n hx hb dX6_step_68 rfl (lv_at hl 0 rfl) ?_
                refine z_get C hE hH zX_o0 rfl zh_X6 3 (by decide) zk7_2 (u_same (C.2.2.2.2.1 _ zk6_21)) (v := .int (S.1 20)) rfl dX6_step_69 ?_
                cases h
                exact z_iret C hE hH dX6_step_72
set_option maxHeartbeats 4000000 in
set_option maxRecDepth 100000 in
theorem cX_X6_step (l : Launch) (D : va_G) (cI cS cW : ClassId) (q : Nat → Nat) (sz : Nat) (x1 : Int32) (x2 : Int32) (S : zSt) {res : Int32 × zSt} (h : fX_X6_step x1 x2 S = some res) : zMi l yX6_step vsX6_step rmX_X6_step [.ref (q 0), .int x1, .int x2] D (zwX cI cS cW q) (zyX cI cS cW) znX sz S res.1 res.2 := by
  refine Met.ofW (cc := cX6_step) (maxL := 3) (ret := (some .int)) (by decide) rfl ?_
  intro p e s m args below meth c s₁ B hml hv
  obtain ⟨rfl, rfl, hP, hK, hD0, hN⟩ := hv
  have hl := lv_entry ([.ref (q 0), .int x1, .int x2]) (n := 3) (Nat.le_of_ble_eq_true rfl)
  rw [lg_entry_eq]
  generalize (lg_sl ([.ref (q 0), .int x1, .int x2]) ++ List.replicate (3 - (lg_sl ([.ref (q 0), .int x1, .int x2])).length) Slot.unset).toArray = ls at hl ⊢
  exact bX_X6_step ⟨B.exec, B.bytes, hml, findClass_of_methodNamed B.named, fun w h => atoms_spec (ws := vsX6_step) B.pre w (List.mem_cons_of_mem _ h), B.returns, B.notSynchronized⟩ ⟨hK, fun q h => Or.inr h, hN⟩ x1 x2 S s.heap [] ls ⟨hP, hD0.self, va_S.rf⟩ hl  h
def rmX_X4_room_Row : Room := { frames := 0, cells := 0, slots := 0, locals := 0 }
set_option maxHeartbeats 4000000 in
set_option maxRecDepth 100000 in
theorem bX_X4_room_Row {p : Program} {l : Launch} {e : Env} {s : State} {m : MethodId} {args : Array Value} {below : List Frame} {meth : Method} {c : Code} {D : va_G} {cI cS cW : ClassId} {q : Nat → Nat} {A : Nat → Prop} {res : Int32} (C : zCX p s m args meth c cX4_room 1 (some .int) zU RX4) (hE : zE D (zyX cI cS cW) znX A s) (S : zSt) (H : Heap) (locs : List Loc) (ls : Array Slot) (hH : zH D (zwX cI cS cW q) A s S H locs) (hl : lv_has ls 1 [(0, .ref (q 0))]) (h : fX_X4_room_Row   S = some res) : W p l e rmX_X4_room_Row s m args below meth c H locs 0 0 (zQi below D (zwX cI cS cW q) (zyX cI cS cW) A args s res S) (F0 m 0 ls []) := by
  have hx := C.1
  have hb := C.2.1
  unfold fX_X4_room_Row at h
  refine lv_aload_n hx hb dX4_room_0 rfl (lv_at hl 0 rfl) ?_
  refine z_get C hE hH zX_o0 rfl zh_X6 2 (by decide) zk3_11 (fun _ h9 => h9) (v := .int (S.1 19)) rfl dX4_room_1 ?_
  cases h
  exact z_iret C hE hH dX4_room_4
set_option maxHeartbeats 4000000 in
set_option maxRecDepth 100000 in
theorem cX_X4_room_Row (l : Launch) (D : va_G) (cI cS cW : ClassId) (q : Nat → Nat) (sz : Nat) (S : zSt) {res : Int32} (h : fX_X4_room_Row  S = some res) : zMi l yX4_room vsX4_room rmX_X4_room_Row [.ref (q 0)] D (zwX cI cS cW q) (zyX cI cS cW) znX sz S res S := by
  refine Met.ofW (cc := cX4_room) (maxL := 1) (ret := (some .int)) (by decide) rfl ?_
  intro p e s m args below meth c s₁ B hml hv
  obtain ⟨rfl, rfl, hP, hK, hD0, hN⟩ := hv
  have hl := lv_entry ([.ref (q 0)]) (n := 1) (Nat.le_of_ble_eq_true rfl)
  rw [lg_entry_eq]
  generalize (lg_sl ([.ref (q 0)]) ++ List.replicate (1 - (lg_sl ([.ref (q 0)])).length) Slot.unset).toArray = ls at hl ⊢
  exact bX_X4_room_Row ⟨B.exec, B.bytes, hml, findClass_of_methodNamed B.named, fun w h => atoms_spec (ws := vsX4_room) B.pre w (List.mem_cons_of_mem _ h), B.returns, B.notSynchronized⟩ ⟨hK, fun q h => Or.inr h, hN⟩  S s.heap [] ls ⟨hP, hD0.self, va_S.rf⟩ hl  h
def rmX_X7_take_Row : Room := { frames := 4, cells := 0, slots := 0, locals := 96 }
set_option maxHeartbeats 4000000 in
set_option maxRecDepth 100000 in
theorem bX_X7_take_Row {p : Program} {l : Launch} {e : Env} {s : State} {m : MethodId} {args : Array Value} {below : List Frame} {meth : Method} {c : Code} {D : va_G} {cI cS cW : ClassId} {q : Nat → Nat} {A : Nat → Prop} {res : zSt} (C : zCX p s m args meth c cX7_take 3 none zU RX7) (hE : zE D (zyX cI cS cW) znX A s) (x1 x2 : Int32) (S : zSt) (H : Heap) (locs : List Loc) (ls : Array Slot) (hH : zH D (zwX cI cS cW q) A s S H locs) (hl : lv_has ls 3 [(0, .ref (q 0)), (1, .int x1), (2, .int x2)]) (h : fX_X7_take_Row  x1 x2 S = some res) : W p l e rmX_X7_take_Row s m args below meth c H locs 0 0 (zQv below D (zwX cI cS cW q) (zyX cI cS cW) A args s res) (F0 m 0 ls []) := by
  have hx := C.1
  have hb := C.2.1
  unfold fX_X7_take_Row at h
  refine lv_aload_n hx hb dX7_take_0 rfl (lv_at hl 0 rfl) ?_
  refine z_get C hE hH zX_o0 rfl zh_X6 6 (by decide) zk3_18 (fun _ h9 => h9) (v := .int (S.1 12)) rfl dX7_take_1 ?_
  refine lv_sipush (v := 200) hx hb dX7_take_4 (by decide) ?_
  refine lv_icmp_ge (tgt := 48) hx hb dX7_take_7 (by decide) (fun c1 => ?_) (fun c1 => ?_)
  · replace h := zif_t c1 h
    cases h
    exact z_vret C hE hH dX7_take_48
  · replace h := zif_f c1 h
    refine lv_aload_n hx hb dX7_take_10 rfl (lv_at hl 0 rfl) ?_
    refine z_get C hE hH zX_o0 rfl zh_X6 4 (by decide) zk3_16 (fun _ h9 => h9) (v := .ref (q 10)) rfl dX7_take_11 ?_
    refine lv_aload_n hx hb dX7_take_14 rfl (lv_at hl 0 rfl) ?_
    refine z_get C hE hH zX_o0 rfl zh_X6 6 (by decide) zk3_18 (fun _ h9 => h9) (v := .int (S.1 12)) rfl dX7_take_15 ?_
    refine lv_aload_n hx hb dX7_take_18 rfl (lv_at hl 0 rfl) ?_
    refine lv_iload_n hx hb dX7_take_19 rfl (lv_at hl 1 rfl) ?_
    refine lv_iload_n hx hb dX7_take_20 rfl (lv_at hl 2 rfl) ?_
    obtain ⟨u2, e3, h⟩ := zbd_s h
    refine z_calli (va_runU (As := [.int x1, .int x2]) (rest := [.int (S.1 12), .ref (q 10)]) (z_fix C) (cX_X6_step l D cI cS cW q H.size  x1 x2 S e3) (va_cwA 2 C.2.2.2.2.1 (zGU (x := ⟨"WhichShelf$Shelf", "step", "(II)I"⟩) (owner := "WhichShelf$Shelf") zk8_4 zk8_5 zk13_4 zk13_5 zk1_15 zk13_6) rfl rfl rfl ((hE.2.2 _ znX_2).2) ydu_X7_step ⟨Nat.le_of_ble_eq_true rfl, Nat.le_of_ble_eq_true rfl⟩) (z_preV (zNmX hE) hE hH zX_o0 rfl) rfl rfl hl.1 rfl (lv_room (Nat.le_of_ble_eq_true rfl)) dX7_take_21 ⟨Nat.le_refl 0, Nat.le_refl 0⟩) hE hH (fun H locs hH => ?_)
    obtain ⟨g4, h⟩ := zgd_s h
    refine z_iast C hE hH zX_a10 (t0 := 0) rfl g4 zX_r10 dX7_take_24 (fun H locs hH => ?_)
    refine lv_aload_n hx hb dX7_take_25 rfl (lv_at hl 0 rfl) ?_
    refine z_get C hE hH zX_o0 rfl zh_X6 5 (by decide) zk3_17 (fun _ h9 => h9) (v := .ref (q 16)) rfl dX7_take_26 ?_
    refine lv_aload_n hx hb dX7_take_29 rfl (lv_at hl 0 rfl) ?_
    refine z_get C hE hH zX_o0 rfl zh_X6 6 (by decide) zk3_18 (fun _ h9 => h9) (v := .int (u2.2.1 12)) rfl dX7_take_30 ?_
    refine lv_aload_n hx hb dX7_take_33 rfl (lv_at hl 0 rfl) ?_
    obtain ⟨u5, e6, h⟩ := zbd_s h
    refine z_calli (va_runU (As := []) (rest := [.int (u2.2.1 12), .ref (q 16)]) (z_fix C) (cX_X4_room_Row l D cI cS cW q H.size   (zsR u2.2 10 (S.1 12).toNatClampNeg u2.1) e6) (va_cwA 0 C.2.2.2.2.1 (zGU (x := ⟨"WhichShelf$Shelf", "room", "()I"⟩) (owner := "WhichShelf$Shelf") zk16_16 zk16_17 zk17_3 zk17_1 zk3_6 zk17_2) rfl rfl rfl ((hE.2.2 _ znX_3).2) ydu_X7_room ⟨Nat.le_of_ble_eq_true rfl, Nat.le_of_ble_eq_true rfl⟩) (z_preV (zNmX hE) hE hH zX_o0 rfl) rfl rfl hl.1 rfl (lv_room (Nat.le_of_ble_eq_true rfl)) dX7_take_34 ⟨Nat.le_refl 0, Nat.le_refl 0⟩) hE hH (fun H locs hH => ?_)
    obtain ⟨g7, h⟩ := zgd_s h
    refine z_iast C hE hH zX_a16 (t0 := 0) rfl g7 zX_r16 dX7_take_37 (fun H locs hH => ?_)
    refine lv_aload_n hx hb dX7_take_38 rfl (lv_at hl 0 rfl) ?_
    refine lv_dup hx hb dX7_take_39 rfl ?_
    refine z_get C hE hH zX_o0 rfl zh_X6 6 (by decide) zk3_18 (fun _ h9 => h9) (v := .int (u2.2.1 12)) rfl dX7_take_40 ?_
    refine lv_iconst (v := 1) hx hb dX7_take_43 (by decide) ?_
    refine lv_iadd hx hb dX7_take_44 ?_
    refine z_put C hE hH zX_o0 rfl zh_X6 tyX6_ok nmX6 6 (by decide) zk3_18 (fun _ h9 => h9) rfl (ty := .int) rfl rfl rfl (Nat.le_of_ble_eq_true rfl) zX_i12 dX7_take_45 (fun H locs hH => ?_)
    cases h
    exact z_vret C hE hH dX7_take_48
set_option maxHeartbeats 4000000 in
set_option maxRecDepth 100000 in
theorem cX_X7_take_Row (l : Launch) (D : va_G) (cI cS cW : ClassId) (q : Nat → Nat) (sz : Nat) (x1 : Int32) (x2 : Int32) (S : zSt) {res : zSt} (h : fX_X7_take_Row x1 x2 S = some res) : zMv l yX7_take vsX7_take rmX_X7_take_Row [.ref (q 0), .int x1, .int x2] D (zwX cI cS cW q) (zyX cI cS cW) znX sz S res := by
  refine Met.ofW (cc := cX7_take) (maxL := 3) (ret := none) (by decide) rfl ?_
  intro p e s m args below meth c s₁ B hml hv
  obtain ⟨rfl, rfl, hP, hK, hD0, hN⟩ := hv
  have hl := lv_entry ([.ref (q 0), .int x1, .int x2]) (n := 3) (Nat.le_of_ble_eq_true rfl)
  rw [lg_entry_eq]
  generalize (lg_sl ([.ref (q 0), .int x1, .int x2]) ++ List.replicate (3 - (lg_sl ([.ref (q 0), .int x1, .int x2])).length) Slot.unset).toArray = ls at hl ⊢
  exact bX_X7_take_Row ⟨B.exec, B.bytes, hml, findClass_of_methodNamed B.named, fun w h => atoms_spec (ws := vsX7_take) B.pre w (List.mem_cons_of_mem _ h), B.returns, B.notSynchronized⟩ ⟨hK, fun q h => Or.inr h, hN⟩ x1 x2 S s.heap [] ls ⟨hP, hD0.self, va_S.rf⟩ hl  h
def rmX_X4_growIfFull_Sorted : Room := { frames := 0, cells := 0, slots := 0, locals := 0 }
set_option maxHeartbeats 4000000 in
set_option maxRecDepth 100000 in
theorem bX_X4_growIfFull_Sorted {p : Program} {l : Launch} {e : Env} {s : State} {m : MethodId} {args : Array Value} {below : List Frame} {meth : Method} {c : Code} {D : va_G} {cI cS cW : ClassId} {q : Nat → Nat} {A : Nat → Prop} {res : Int32 × zSt} (C : zCX p s m args meth c cX4_growIfFull 1 (some .int) zU RX4) (hE : zE D (zyX cI cS cW) znX A s) (S : zSt) (H : Heap) (locs : List Loc) (ls : Array Slot) (hH : zH D (zwX cI cS cW q) A s S H locs) (hl : lv_has ls 1 [(0, .ref (q 1))]) (h : fX_X4_growIfFull_Sorted   S = some res) : W p l e rmX_X4_growIfFull_Sorted s m args below meth c H locs 0 0 (zQi below D (zwX cI cS cW q) (zyX cI cS cW) A args s res.1 res.2) (F0 m 0 ls []) := by
  have hx := C.1
  have hb := C.2.1
  unfold fX_X4_growIfFull_Sorted at h
  refine lv_aload_n hx hb dX4_growIfFull_0 rfl (lv_at hl 0 rfl) ?_
  refine z_get C hE hH zX_o1 rfl zh_X8 3 (by decide) zk3_9 (fun _ h9 => h9) (v := .int (S.1 23)) rfl dX4_growIfFull_1 ?_
  refine lv_aload_n hx hb dX4_growIfFull_4 rfl (lv_at hl 0 rfl) ?_
  refine z_get C hE hH zX_o1 rfl zh_X8 2 (by decide) zk3_11 (fun _ h9 => h9) (v := .int (S.1 22)) rfl dX4_growIfFull_5 ?_
  refine lv_icmp_eq (tgt := 13) hx hb dX4_growIfFull_8 (by decide) (fun c1 => ?_) (fun c1 => ?_)
  · replace h := zif_t c1 h
    refine lv_aload_n hx hb dX4_growIfFull_13 rfl (lv_at hl 0 rfl) ?_
    refine lv_dup hx hb dX4_growIfFull_14 rfl ?_
    refine z_get C hE hH zX_o1 rfl zh_X8 2 (by decide) zk3_11 (fun _ h9 => h9) (v := .int (S.1 22)) rfl dX4_growIfFull_15 ?_
    refine lv_iconst (v := 2) hx hb dX4_growIfFull_18 (by decide) ?_
    refine lv_imul hx hb dX4_growIfFull_19 ?_
    refine z_put C hE hH zX_o1 rfl zh_X8 tyX8_ok nmX8 2 (by decide) zk3_11 (fun _ h9 => h9) rfl (ty := .int) rfl rfl rfl (Nat.le_of_ble_eq_true rfl) zX_i22 dX4_growIfFull_20 (fun H locs hH => ?_)
    refine lv_aload_n hx hb dX4_growIfFull_23 rfl (lv_at hl 0 rfl) ?_
    refine z_get C hE hH zX_o1 rfl zh_X8 3 (by decide) zk3_9 (fun _ h9 => h9) (v := .int (S.1 23)) rfl dX4_growIfFull_24 ?_
    cases h
    exact z_iret C hE hH dX4_growIfFull_27
  · replace h := zif_f c1 h
    refine lv_iconst (v := 0) hx hb dX4_growIfFull_11 (by decide) ?_
    cases h
    exact z_iret C hE hH dX4_growIfFull_12
set_option maxHeartbeats 4000000 in
set_option maxRecDepth 100000 in
theorem cX_X4_growIfFull_Sorted (l : Launch) (D : va_G) (cI cS cW : ClassId) (q : Nat → Nat) (sz : Nat) (S : zSt) {res : Int32 × zSt} (h : fX_X4_growIfFull_Sorted  S = some res) : zMi l yX4_growIfFull vsX4_growIfFull rmX_X4_growIfFull_Sorted [.ref (q 1)] D (zwX cI cS cW q) (zyX cI cS cW) znX sz S res.1 res.2 := by
  refine Met.ofW (cc := cX4_growIfFull) (maxL := 1) (ret := (some .int)) (by decide) rfl ?_
  intro p e s m args below meth c s₁ B hml hv
  obtain ⟨rfl, rfl, hP, hK, hD0, hN⟩ := hv
  have hl := lv_entry ([.ref (q 1)]) (n := 1) (Nat.le_of_ble_eq_true rfl)
  rw [lg_entry_eq]
  generalize (lg_sl ([.ref (q 1)]) ++ List.replicate (1 - (lg_sl ([.ref (q 1)])).length) Slot.unset).toArray = ls at hl ⊢
  exact bX_X4_growIfFull_Sorted ⟨B.exec, B.bytes, hml, findClass_of_methodNamed B.named, fun w h => atoms_spec (ws := vsX4_growIfFull) B.pre w (List.mem_cons_of_mem _ h), B.returns, B.notSynchronized⟩ ⟨hK, fun q h => Or.inr h, hN⟩  S s.heap [] ls ⟨hP, hD0.self, va_S.rf⟩ hl  h
def rmX_X8_halve : Room := { frames := 0, cells := 0, slots := 0, locals := 0 }
set_option maxHeartbeats 4000000 in
set_option maxRecDepth 100000 in
theorem bX_X8_halve_56 {p : Program} {l : Launch} {e : Env} {s : State} {m : MethodId} {args : Array Value} {below : List Frame} {meth : Method} {c : Code} {D : va_G} {cI cS cW : ClassId} {q : Nat → Nat} {A : Nat → Prop} {res : Int32 × zSt} (C : zCX p s m args meth c cX8_halve 5 (some .int) zU RX8) (hE : zE D (zyX cI cS cW) znX A s) (K12 : (Int32 → Int32 → Int32 → zSt → Option (Int32 × zSt))) (hK12 : ∀ (x1 x2 x3 : Int32) (S : zSt) (H : Heap) (locs : List Loc) (ls : Array Slot), zH D (zwX cI cS cW q) A s S H locs → lv_has ls 5 [(0, .ref (q 1)), (1, .int x1), (2, .int x2), (3, .int x3)] → K12 x1 x2 x3 S = some res → W p l e rmX_X8_halve s m args below meth c H locs 0 0 (zQi below D (zwX cI cS cW q) (zyX cI cS cW) A args s res.1 res.2) (F0 m 12 ls [])) (x1 x2 x3 : Int32) (S : zSt) (H : Heap) (locs : List Loc) (ls : Array Slot) (hH : zH D (zwX cI cS cW q) A s S H locs) (hl : lv_has ls 5 [(0, .ref (q 1)), (1, .int x1), (2, .int x2), (3, .int x3)]) (h : fX_X8_halve_56 K12 x1 x2 x3 S = some res) : W p l e rmX_X8_halve s m args below meth c H locs 0 0 (zQi below D (zwX cI cS cW q) (zyX cI cS cW) A args s res.1 res.2) (F0 m 56 ls []) := by
  have hx := C.1
  have hb := C.2.1
  unfold fX_X8_halve_56 at h
  refine lv_goto (tgt := 12) hx hb dX8_halve_56 (by decide) ?_
  exact hK12 x1 x2 x3 S H locs ls hH (lv_sub hl [0, 1, 2, 3] rfl) h
set_option maxHeartbeats 4000000 in
set_option maxRecDepth 100000 in
theorem bX_X8_halve_12 {p : Program} {l : Launch} {e : Env} {s : State} {m : MethodId} {args : Array Value} {below : List Frame} {meth : Method} {c : Code} {D : va_G} {cI cS cW : ClassId} {q : Nat → Nat} {A : Nat → Prop} {res : Int32 × zSt} (C : zCX p s m args meth c cX8_halve 5 (some .int) zU RX8) (hE : zE D (zyX cI cS cW) znX A s) : ∀ (n : Nat) (x1 x2 x3 : Int32) (S : zSt) (H : Heap) (locs : List Loc) (ls : Array Slot), zH D (zwX cI cS cW q) A s S H locs → lv_has ls 5 [(0, .ref (q 1)), (1, .int x1), (2, .int x2), (3, .int x3)] → fX_X8_halve_12  n x1 x2 x3 S = some res → W p l e rmX_X8_halve s m args below meth c H locs 0 0 (zQi below D (zwX cI cS cW q) (zyX cI cS cW) A args s res.1 res.2) (F0 m 12 ls []) := by
  have hx := C.1
  have hb := C.2.1
  intro n
  induction n with
  | zero =>
    intro x1 x2 x3 S H locs ls hH hl  h
    cases h
  | succ n hK12 =>
    intro x1 x2 x3 S H locs ls hH hl  h
    rw [fX_X8_halve_12] at h
    refine lv_iload_n hx hb dX8_halve_12 rfl (lv_at hl 2 rfl) ?_
    refine lv_iload_n hx hb dX8_halve_13 rfl (lv_at hl 3 rfl) ?_
    refine lv_icmp_ge (tgt := 59) hx hb dX8_halve_14 (by decide) (fun c1 => ?_) (fun c1 => ?_)
    · replace h := zif_t c1 h
      refine lv_iload_n hx hb dX8_halve_59 rfl (lv_at hl 2 rfl) ?_
      cases h
      exact z_iret C hE hH dX8_halve_60
    · replace h := zif_f c1 h
      refine lv_iload_n hx hb dX8_halve_17 rfl (lv_at hl 2 rfl) ?_
      refine lv_iload_n hx hb dX8_halve_18 rfl (lv_at hl 3 rfl) ?_
      refine lv_iadd hx hb dX8_halve_19 ?_
      refine lv_iconst (v := 2) hx hb dX8_halve_20 (by decide) ?_
      refine lv_idiv hx hb dX8_halve_21 (by decide) ?_
      refine lv_istore (lv' := [(4, .int ((x2 + x3) / 2)), (0, .ref (q 1)), (1, .int x1), (2, .int x2), (3, .int x3)]) hx hb dX8_halve_22 hl (by decide) rfl (fun ls hl => ?_)
      refine lv_aload_n hx hb dX8_halve_24 rfl (lv_at hl 1 rfl) ?_
      refine lv_dup hx hb dX8_halve_25 rfl ?_
      refine z_get C hE hH zX_o1 rfl zh_X8 7 (by decide) zk3_22 (fun _ h9 => h9) (v := .int (S.1 24)) rfl dX8_halve_26 ?_
      refine lv_iconst (v := 1) hx hb dX8_halve_29 (by decide) ?_
      refine lv_iadd hx hb dX8_halve_30 ?_
      refine z_put C hE hH zX_o1 rfl zh_X8 tyX8_ok nmX8 7 (by decide) zk3_22 (fun _ h9 => h9) rfl (ty := .int) rfl rfl rfl (Nat.le_of_ble_eq_true rfl) zX_i24 dX8_halve_31 (fun H locs hH => ?_)
      refine lv_aload_n hx hb dX8_halve_34 rfl (lv_at hl 1 rfl) ?_
      refine z_get C hE hH zX_o1 rfl zh_X8 0 (by decide) zk14_12 (u_same (C.2.2.2.2.1 _ zk14_13)) (v := .ref (q 34)) rfl dX8_halve_35 ?_
      refine lv_iload hx hb dX8_halve_38 (lv_at hl 0 rfl) ?_
      obtain ⟨g2, h⟩ := zgd_s h
      refine z_iald C hE hH zX_a34 (t0 := 0) rfl g2 dX8_halve_40 ?_
      refine lv_iload_n hx hb dX8_halve_41 rfl (lv_at hl 2 rfl) ?_
      refine lv_icmp_ge (tgt := 53) hx hb dX8_halve_42 (by decide) (fun c3 => ?_) (fun c3 => ?_)
      · replace h := zif_t c3 h
        refine lv_iload hx hb dX8_halve_53 (lv_at hl 0 rfl) ?_
        refine lv_istore_n (lv' := [(3, .int ((x2 + x3) / 2)), (4, .int ((x2 + x3) / 2)), (0, .ref (q 1)), (1, .int x1), (2, .int x2)]) hx hb dX8_halve_55 rfl hl (by decide) rfl (fun ls hl => ?_)
        exact bX_X8_halve_56 C hE (fX_X8_halve_12  n) hK12 x1 x2 ((x2 + x3) / 2) (zsI S 24 ((S.1 24) + 1)) H locs ls hH (lv_sub hl [2, 3, 4, 0] rfl) h
      · replace h := zif_f c3 h
        refine lv_iload hx hb dX8_halve_45 (lv_at hl 0 rfl) ?_
        refine lv_iconst (v := 1) hx hb dX8_halve_47 (by decide) ?_
        refine lv_iadd hx hb dX8_halve_48 ?_
        refine lv_istore_n (lv' := [(2, .int (((x2 + x3) / 2) + 1)), (4, .int ((x2 + x3) / 2)), (0, .ref (q 1)), (1, .int x1), (3, .int x3)]) hx hb dX8_halve_49 rfl hl (by decide) rfl (fun ls hl => ?_)
        refine lv_goto (tgt := 56) hx hb dX8_halve_50 (by decide) ?_
        exact bX_X8_halve_56 C hE (fX_X8_halve_12  n) hK12 x1 (((x2 + x3) / 2) + 1) x3 (zsI S 24 ((S.1 24) + 1)) H locs ls hH (lv_sub hl [2, 3, 0, 4] rfl) h
set_option maxHeartbeats 4000000 in
set_option maxRecDepth 100000 in
theorem bX_X8_halve {p : Program} {l : Launch} {e : Env} {s : State} {m : MethodId} {args : Array Value} {below : List Frame} {meth : Method} {c : Code} {D : va_G} {cI cS cW : ClassId} {q : Nat → Nat} {A : Nat → Prop} {res : Int32 × zSt} (C : zCX p s m args meth c cX8_halve 5 (some .int) zU RX8) (hE : zE D (zyX cI cS cW) znX A s) (x1 : Int32) (S : zSt) (H : Heap) (locs : List Loc) (ls : Array Slot) (hH : zH D (zwX cI cS cW q) A s S H locs) (hl : lv_has ls 5 [(0, .ref (q 1)), (1, .int x1)]) (h : fX_X8_halve  x1 S = some res) : W p l e rmX_X8_halve s m args below meth c H locs 0 0 (zQi below D (zwX cI cS cW q) (zyX cI cS cW) A args s res.1 res.2) (F0 m 0 ls []) := by
  have hx := C.1
  have hb := C.2.1
  unfold fX_X8_halve at h
  refine lv_iconst (v := 0) hx hb dX8_halve_0 (by decide) ?_
  refine lv_istore_n (lv' := [(2, .int 0), (0, .ref (q 1)), (1, .int x1)]) hx hb dX8_halve_1 rfl hl (by decide) rfl (fun ls hl => ?_)
  refine lv_aload_n hx hb dX8_halve_2 rfl (lv_at hl 1 rfl) ?_
  refine z_get C hE hH zX_o1 rfl zh_X8 3 (by decide) zk13_23 (u_same (C.2.2.2.2.1 _ zk14_0)) (v := .int (S.1 23)) rfl dX8_halve_3 ?_
  refine lv_istore_n (lv' := [(3, .int (S.1 23)), (2, .int 0), (0, .ref (q 1)), (1, .int x1)]) hx hb dX8_halve_6 rfl hl (by decide) rfl (fun ls hl => ?_)
  refine lv_aload_n hx hb dX8_halve_7 rfl (lv_at hl 2 rfl) ?_
  refine lv_iconst (v := 0) hx hb dX8_halve_8 (by decide) ?_
  refine z_put C hE hH zX_o1 rfl zh_X8 tyX8_ok nmX8 7 (by decide) zk3_22 (fun _ h9 => h9) rfl (ty := .int) rfl rfl rfl (Nat.le_of_ble_eq_true rfl) zX_i24 dX8_halve_9 (fun H locs hH => ?_)
  exact bX_X8_halve_12 C hE   1000 x1 0 (S.1 23) (zsI S 24 0) H locs ls hH (lv_sub hl [2, 3, 1, 0] rfl) h
set_option maxHeartbeats 4000000 in
set_option maxRecDepth 100000 in
theorem cX_X8_halve (l : Launch) (D : va_G) (cI cS cW : ClassId) (q : Nat → Nat) (sz : Nat) (x1 : Int32) (S : zSt) {res : Int32 × zSt} (h : fX_X8_halve x1 S = some res) : zMi l yX8_halve vsX8_halve rmX_X8_halve [.ref (q 1), .int x1] D (zwX cI cS cW q) (zyX cI cS cW) znX sz S res.1 res.2 := by
  refine Met.ofW (cc := cX8_halve) (maxL := 5) (ret := (some .int)) (by decide) rfl ?_
  intro p e s m args below meth c s₁ B hml hv
  obtain ⟨rfl, rfl, hP, hK, hD0, hN⟩ := hv
  have hl := lv_entry ([.ref (q 1), .int x1]) (n := 5) (Nat.le_of_ble_eq_true rfl)
  rw [lg_entry_eq]
  generalize (lg_sl ([.ref (q 1), .int x1]) ++ List.replicate (5 - (lg_sl ([.ref (q 1), .int x1])).length) Slot.unset).toArray = ls at hl ⊢
  exact bX_X8_halve ⟨B.exec, B.bytes, hml, findClass_of_methodNamed B.named, fun w h => atoms_spec (ws := vsX8_halve) B.pre w (List.mem_cons_of_mem _ h), B.returns, B.notSynchronized⟩ ⟨hK, fun q h => Or.inr h, hN⟩ x1 S s.heap [] ls ⟨hP, hD0.self, va_S.rf⟩ hl  h
def rmX_X4_insert_Sorted : Room := { frames := 1, cells := 0, slots := 0, locals := 30 }
set_option maxHeartbeats 4000000 in
set_option maxRecDepth 100000 in
theorem bX_X4_insert_Sorted {p : Program} {l : Launch} {e : Env} {s : State} {m : MethodId} {args : Array Value} {below : List Frame} {meth : Method} {c : Code} {D : va_G} {cI cS cW : ClassId} {q : Nat → Nat} {A : Nat → Prop} {res : zSt} (C : zCX p s m args meth c cX4_insert 3 none zU RX4) (hE : zE D (zyX cI cS cW) znX A s) (x1 x2 : Int32) (S : zSt) (H : Heap) (locs : List Loc) (ls : Array Slot) (hH : zH D (zwX cI cS cW q) A s S H locs) (hl : lv_has ls 3 [(0, .ref (q 1)), (1, .int x1), (2, .int x2)]) (h : fX_X4_insert_Sorted  x1 x2 S = some res) : W p l e rmX_X4_insert_Sorted s m args below meth c H locs 0 0 (zQv below D (zwX cI cS cW q) (zyX cI cS cW) A args s res) (F0 m 0 ls []) := by
  have hx := C.1
  have hb := C.2.1
  unfold fX_X4_insert_Sorted at h
  refine lv_iload_n hx hb dX4_insert_0 rfl (lv_at hl 1 rfl) ?_
  refine lv_if_lt (tgt := 60) hx hb dX4_insert_1 (by decide) (fun c1 => ?_) (fun c1 => ?_)
  · replace h := zif_t c1 h
    cases h
    exact z_vret C hE hH dX4_insert_60
  · replace h := zif_f c1 h
    refine lv_iload_n hx hb dX4_insert_4 rfl (lv_at hl 1 rfl) ?_
    refine lv_aload_n hx hb dX4_insert_5 rfl (lv_at hl 0 rfl) ?_
    refine z_get C hE hH zX_o1 rfl zh_X8 3 (by decide) zk3_9 (fun _ h9 => h9) (v := .int (S.1 23)) rfl dX4_insert_6 ?_
    refine lv_icmp_gt (tgt := 60) hx hb dX4_insert_9 (by decide) (fun c2 => ?_) (fun c2 => ?_)
    · replace h := zif_t c2 h
      cases h
      exact z_vret C hE hH dX4_insert_60
    · replace h := zif_f c2 h
      refine lv_aload_n hx hb dX4_insert_12 rfl (lv_at hl 0 rfl) ?_
      refine z_get C hE hH zX_o1 rfl zh_X8 3 (by decide) zk3_9 (fun _ h9 => h9) (v := .int (S.1 23)) rfl dX4_insert_13 ?_
      refine lv_sipush (v := 200) hx hb dX4_insert_16 (by decide) ?_
      refine lv_icmp_ge (tgt := 60) hx hb dX4_insert_19 (by decide) (fun c3 => ?_) (fun c3 => ?_)
      · replace h := zif_t c3 h
        cases h
        exact z_vret C hE hH dX4_insert_60
      · replace h := zif_f c3 h
        refine lv_aload_n hx hb dX4_insert_22 rfl (lv_at hl 0 rfl) ?_
        refine z_get C hE hH zX_o1 rfl zh_X8 0 (by decide) zk3_8 (fun _ h9 => h9) (v := .ref (q 34)) rfl dX4_insert_23 ?_
        refine lv_iload_n hx hb dX4_insert_26 rfl (lv_at hl 1 rfl) ?_
        refine lv_aload_n hx hb dX4_insert_27 rfl (lv_at hl 0 rfl) ?_
        refine z_get C hE hH zX_o1 rfl zh_X8 0 (by decide) zk3_8 (fun _ h9 => h9) (v := .ref (q 34)) rfl dX4_insert_28 ?_
        refine lv_iload_n hx hb dX4_insert_31 rfl (lv_at hl 1 rfl) ?_
        refine lv_iconst (v := 1) hx hb dX4_insert_32 (by decide) ?_
        refine lv_iadd hx hb dX4_insert_33 ?_
        refine lv_aload_n hx hb dX4_insert_34 rfl (lv_at hl 0 rfl) ?_
        refine z_get C hE hH zX_o1 rfl zh_X8 3 (by decide) zk3_9 (fun _ h9 => h9) (v := .int (S.1 23)) rfl dX4_insert_35 ?_
        refine lv_iload_n hx hb dX4_insert_38 rfl (lv_at hl 1 rfl) ?_
        refine lv_isub hx hb dX4_insert_39 ?_
        obtain ⟨g4, h⟩ := zgd_s h
        refine z_copyi C hE hH hl.1 zk10_5 zk9_9 zk9_10 zk9_11 zX_a34 zX_a34 (t0 := 0) rfl g4 zX_c34 (Nat.le_of_ble_eq_true rfl) (by decide) dX4_insert_40 (fun H locs hH => ?_)
        refine lv_aload_n hx hb dX4_insert_43 rfl (lv_at hl 0 rfl) ?_
        refine z_get C hE hH zX_o1 rfl zh_X8 0 (by decide) zk3_8 (fun _ h9 => h9) (v := .ref (q 34)) rfl dX4_insert_44 ?_
        refine lv_iload_n hx hb dX4_insert_47 rfl (lv_at hl 1 rfl) ?_
        refine lv_iload_n hx hb dX4_insert_48 rfl (lv_at hl 2 rfl) ?_
        obtain ⟨g5, h⟩ := zgd_s h
        refine z_iast C hE hH zX_a34 (t0 := 0) rfl g5 zX_r34 dX4_insert_49 (fun H locs hH => ?_)
        refine lv_aload_n hx hb dX4_insert_50 rfl (lv_at hl 0 rfl) ?_
        refine lv_dup hx hb dX4_insert_51 rfl ?_
        refine z_get C hE hH zX_o1 rfl zh_X8 3 (by decide) zk3_9 (fun _ h9 => h9) (v := .int (S.1 23)) rfl dX4_insert_52 ?_
        refine lv_iconst (v := 1) hx hb dX4_insert_55 (by decide) ?_
        refine lv_iadd hx hb dX4_insert_56 ?_
        refine z_put C hE hH zX_o1 rfl zh_X8 tyX8_ok nmX8 3 (by decide) zk3_9 (fun _ h9 => h9) rfl (ty := .int) rfl rfl rfl (Nat.le_of_ble_eq_true rfl) zX_i23 dX4_insert_57 (fun H locs hH => ?_)
        cases h
        exact z_vret C hE hH dX4_insert_60
set_option maxHeartbeats 4000000 in
set_option maxRecDepth 100000 in
theorem cX_X4_insert_Sorted (l : Launch) (D : va_G) (cI cS cW : ClassId) (q : Nat → Nat) (sz : Nat) (x1 : Int32) (x2 : Int32) (S : zSt) {res : zSt} (h : fX_X4_insert_Sorted x1 x2 S = some res) : zMv l yX4_insert vsX4_insert rmX_X4_insert_Sorted [.ref (q 1), .int x1, .int x2] D (zwX cI cS cW q) (zyX cI cS cW) znX sz S res := by
  refine Met.ofW (cc := cX4_insert) (maxL := 3) (ret := none) (by decide) rfl ?_
  intro p e s m args below meth c s₁ B hml hv
  obtain ⟨rfl, rfl, hP, hK, hD0, hN⟩ := hv
  have hl := lv_entry ([.ref (q 1), .int x1, .int x2]) (n := 3) (Nat.le_of_ble_eq_true rfl)
  rw [lg_entry_eq]
  generalize (lg_sl ([.ref (q 1), .int x1, .int x2]) ++ List.replicate (3 - (lg_sl ([.ref (q 1), .int x1, .int x2])).length) Slot.unset).toArray = ls at hl ⊢
  exact bX_X4_insert_Sorted ⟨B.exec, B.bytes, hml, findClass_of_methodNamed B.named, fun w h => atoms_spec (ws := vsX4_insert) B.pre w (List.mem_cons_of_mem _ h), B.returns, B.notSynchronized⟩ ⟨hK, fun q h => Or.inr h, hN⟩ x1 x2 S s.heap [] ls ⟨hP, hD0.self, va_S.rf⟩ hl  h
def rmX_X8_putInOrder : Room := { frames := 2, cells := 0, slots := 0, locals := 52 }
set_option maxHeartbeats 4000000 in
set_option maxRecDepth 100000 in
theorem bX_X8_putInOrder {p : Program} {l : Launch} {e : Env} {s : State} {m : MethodId} {args : Array Value} {below : List Frame} {meth : Method} {c : Code} {D : va_G} {cI cS cW : ClassId} {q : Nat → Nat} {A : Nat → Prop} {res : Int32 × zSt} (C : zCX p s m args meth c cX8_putInOrder 5 (some .int) zU RX8) (hE : zE D (zyX cI cS cW) znX A s) (x1 : Int32) (S : zSt) (H : Heap) (locs : List Loc) (ls : Array Slot) (hH : zH D (zwX cI cS cW q) A s S H locs) (hl : lv_has ls 5 [(0, .ref (q 1)), (1, .int x1)]) (h : fX_X8_putInOrder  x1 S = some res) : W p l e rmX_X8_putInOrder s m args below meth c H locs 0 0 (zQi below D (zwX cI cS cW q) (zyX cI cS cW) A args s res.1 res.2) (F0 m 0 ls []) := by
  have hx := C.1
  have hb := C.2.1
  unfold fX_X8_putInOrder at h
  refine lv_aload_n hx hb dX8_putInOrder_0 rfl (lv_at hl 0 rfl) ?_
  obtain ⟨u1, e2, h⟩ := zbd_s h
  refine z_calli (va_runU (As := []) (rest := []) (z_fix C) (cX_X4_growIfFull_Sorted l D cI cS cW q H.size   S e2) (va_cwU 0 C.2.2.2.2.1 (zGU (x := ⟨"WhichShelf$Sorted", "growIfFull", "()I"⟩) (owner := "WhichShelf$Lined") zk14_5 zk14_6 zk14_7 zk11_11 zk3_6 zk11_12) rfl rfl rfl rfl ydu_X4_growIfFull ⟨Nat.le_of_ble_eq_true rfl, Nat.le_of_ble_eq_true rfl⟩) (z_preV (zNmX hE) hE hH zX_o1 rfl) rfl rfl hl.1 rfl (lv_room (Nat.le_of_ble_eq_true rfl)) dX8_putInOrder_1 ⟨Nat.le_refl 0, Nat.le_refl 0⟩) hE hH (fun H locs hH => ?_)
  refine lv_istore_n (lv' := [(2, .int u1.1), (0, .ref (q 1)), (1, .int x1)]) hx hb dX8_putInOrder_4 rfl hl (by decide) rfl (fun ls hl => ?_)
  refine lv_aload_n hx hb dX8_putInOrder_5 rfl (lv_at hl 1 rfl) ?_
  refine lv_iload_n hx hb dX8_putInOrder_6 rfl (lv_at hl 2 rfl) ?_
  obtain ⟨u3, e4, h⟩ := zbd_s h
  refine z_calli (va_runV (As := [.int x1]) (rest := []) (z_fix C) (cX_X8_halve l D cI cS cW q H.size  x1 u1.2 e4) (cwV 1 C.2.2.2.2.1 (zGV zk14_8 zk14_9 zk14_10 zk1_20 zk14_11) rfl rfl rfl yd_X8_halve ⟨Nat.le_of_ble_eq_true rfl, Nat.le_of_ble_eq_true rfl⟩) (z_preV (zNmX hE) hE hH zX_o1 rfl) rfl rfl hl.1 rfl (lv_room (Nat.le_of_ble_eq_true rfl)) dX8_putInOrder_7 ⟨Nat.le_refl 0, Nat.le_refl 0⟩) hE hH (fun H locs hH => ?_)
  refine lv_istore_n (lv' := [(3, .int u3.1), (2, .int u1.1), (0, .ref (q 1)), (1, .int x1)]) hx hb dX8_putInOrder_10 rfl hl (by decide) rfl (fun ls hl => ?_)
  refine lv_aload_n hx hb dX8_putInOrder_11 rfl (lv_at hl 2 rfl) ?_
  refine z_get C hE hH zX_o1 rfl zh_X8 3 (by decide) zk13_23 (u_same (C.2.2.2.2.1 _ zk14_0)) (v := .int (u3.2.1 23)) rfl dX8_putInOrder_12 ?_
  refine lv_iload_n hx hb dX8_putInOrder_15 rfl (lv_at hl 0 rfl) ?_
  refine lv_isub hx hb dX8_putInOrder_16 ?_
  refine lv_istore (lv' := [(4, .int ((u3.2.1 23) - u3.1)), (3, .int u3.1), (2, .int u1.1), (0, .ref (q 1)), (1, .int x1)]) hx hb dX8_putInOrder_17 hl (by decide) rfl (fun ls hl => ?_)
  refine lv_aload_n hx hb dX8_putInOrder_19 rfl (lv_at hl 3 rfl) ?_
  refine lv_iload_n hx hb dX8_putInOrder_20 rfl (lv_at hl 1 rfl) ?_
  refine lv_iload_n hx hb dX8_putInOrder_21 rfl (lv_at hl 4 rfl) ?_
  obtain ⟨u5, e6, h⟩ := zbd_s h
  refine z_callv (va_runU (As := [.int u3.1, .int x1]) (rest := []) (z_fix C) (cX_X4_insert_Sorted l D cI cS cW q H.size  u3.1 x1 u3.2 e6) (va_cwU 2 C.2.2.2.2.1 (zGU (x := ⟨"WhichShelf$Sorted", "insert", "(II)V"⟩) (owner := "WhichShelf$Lined") zk14_14 zk14_15 zk14_16 zk10_3 zk3_6 zk10_4) rfl rfl rfl rfl ydu_X4_insert ⟨Nat.le_of_ble_eq_true rfl, Nat.le_of_ble_eq_true rfl⟩) (z_preV (zNmX hE) hE hH zX_o1 rfl) rfl rfl hl.1 rfl (lv_room (Nat.le_of_ble_eq_true rfl)) dX8_putInOrder_22 ⟨Nat.le_refl 0, Nat.le_refl 0⟩) hE hH (fun H locs hH => ?_)
  refine lv_iload_n hx hb dX8_putInOrder_25 rfl (lv_at hl 2 rfl) ?_
  refine lv_aload_n hx hb dX8_putInOrder_26 rfl (lv_at hl 3 rfl) ?_
  refine z_get C hE hH zX_o1 rfl zh_X8 7 (by decide) zk3_22 (fun _ h9 => h9) (v := .int (u5.1 24)) rfl dX8_putInOrder_27 ?_
  refine lv_iadd hx hb dX8_putInOrder_30 ?_
  refine lv_iload hx hb dX8_putInOrder_31 (lv_at hl 0 rfl) ?_
  refine lv_iadd hx hb dX8_putInOrder_33 ?_
  refine lv_iconst (v := 1) hx hb dX8_putInOrder_34 (by decide) ?_
  refine lv_iadd hx hb dX8_putInOrder_35 ?_
  cases h
  exact z_iret C hE hH dX8_putInOrder_36
set_option maxHeartbeats 4000000 in
set_option maxRecDepth 100000 in
theorem cX_X8_putInOrder (l : Launch) (D : va_G) (cI cS cW : ClassId) (q : Nat → Nat) (sz : Nat) (x1 : Int32) (S : zSt) {res : Int32 × zSt} (h : fX_X8_putInOrder x1 S = some res) : zMi l yX8_putInOrder vsX8_putInOrder rmX_X8_putInOrder [.ref (q 1), .int x1] D (zwX cI cS cW q) (zyX cI cS cW) znX sz S res.1 res.2 := by
  refine Met.ofW (cc := cX8_putInOrder) (maxL := 5) (ret := (some .int)) (by decide) rfl ?_
  intro p e s m args below meth c s₁ B hml hv
  obtain ⟨rfl, rfl, hP, hK, hD0, hN⟩ := hv
  have hl := lv_entry ([.ref (q 1), .int x1]) (n := 5) (Nat.le_of_ble_eq_true rfl)
  rw [lg_entry_eq]
  generalize (lg_sl ([.ref (q 1), .int x1]) ++ List.replicate (5 - (lg_sl ([.ref (q 1), .int x1])).length) Slot.unset).toArray = ls at hl ⊢
  exact bX_X8_putInOrder ⟨B.exec, B.bytes, hml, findClass_of_methodNamed B.named, fun w h => atoms_spec (ws := vsX8_putInOrder) B.pre w (List.mem_cons_of_mem _ h), B.returns, B.notSynchronized⟩ ⟨hK, fun q h => Or.inr h, hN⟩ x1 S s.heap [] ls ⟨hP, hD0.self, va_S.rf⟩ hl  h
def rmX_X8_askedAt : Room := { frames := 0, cells := 0, slots := 0, locals := 0 }
set_option maxHeartbeats 4000000 in
set_option maxRecDepth 100000 in
theorem bX_X8_askedAt_17 {p : Program} {l : Launch} {e : Env} {s : State} {m : MethodId} {args : Array Value} {below : List Frame} {meth : Method} {c : Code} {D : va_G} {cI cS cW : ClassId} {q : Nat → Nat} {A : Nat → Prop} {res : Int32} (C : zCX p s m args meth c cX8_askedAt 2 (some .int) zU RX8) (hE : zE D (zyX cI cS cW) znX A s) (t0 t1 : Int32) (S : zSt) (H : Heap) (locs : List Loc) (ls : Array Slot) (hH : zH D (zwX cI cS cW q) A s S H locs) (hl : lv_has ls 2 []) (h : fX_X8_askedAt_17  t0 t1 S = some res) : W p l e rmX_X8_askedAt s m args below meth c H locs 0 0 (zQi below D (zwX cI cS cW q) (zyX cI cS cW) A args s res S) (F0 m 17 ls [.int t1, .int t0]) := by
  have hx := C.1
  have hb := C.2.1
  unfold fX_X8_askedAt_17 at h
  refine lv_iadd hx hb dX8_askedAt_17 ?_
  cases h
  exact z_iret C hE hH dX8_askedAt_18
set_option maxHeartbeats 4000000 in
set_option maxRecDepth 100000 in
theorem bX_X8_askedAt {p : Program} {l : Launch} {e : Env} {s : State} {m : MethodId} {args : Array Value} {below : List Frame} {meth : Method} {c : Code} {D : va_G} {cI cS cW : ClassId} {q : Nat → Nat} {A : Nat → Prop} {res : Int32} (C : zCX p s m args meth c cX8_askedAt 2 (some .int) zU RX8) (hE : zE D (zyX cI cS cW) znX A s) (x1 : Int32) (S : zSt) (H : Heap) (locs : List Loc) (ls : Array Slot) (hH : zH D (zwX cI cS cW q) A s S H locs) (hl : lv_has ls 2 [(0, .ref (q 1)), (1, .int x1)]) (h : fX_X8_askedAt  x1 S = some res) : W p l e rmX_X8_askedAt s m args below meth c H locs 0 0 (zQi below D (zwX cI cS cW q) (zyX cI cS cW) A args s res S) (F0 m 0 ls []) := by
  have hx := C.1
  have hb := C.2.1
  unfold fX_X8_askedAt at h
  refine lv_aload_n hx hb dX8_askedAt_0 rfl (lv_at hl 0 rfl) ?_
  refine z_get C hE hH zX_o1 rfl zh_X8 7 (by decide) zk3_22 (fun _ h9 => h9) (v := .int (S.1 24)) rfl dX8_askedAt_1 ?_
  refine lv_iload_n hx hb dX8_askedAt_4 rfl (lv_at hl 1 rfl) ?_
  refine lv_aload_n hx hb dX8_askedAt_5 rfl (lv_at hl 0 rfl) ?_
  refine z_get C hE hH zX_o1 rfl zh_X8 3 (by decide) zk13_23 (u_same (C.2.2.2.2.1 _ zk14_0)) (v := .int (S.1 23)) rfl dX8_askedAt_6 ?_
  refine lv_icmp_ge (tgt := 16) hx hb dX8_askedAt_9 (by decide) (fun c1 => ?_) (fun c1 => ?_)
  · replace h := zif_t c1 h
    refine lv_iconst (v := 0) hx hb dX8_askedAt_16 (by decide) ?_
    exact bX_X8_askedAt_17 C hE   (S.1 24) 0 S H locs ls hH (lv_sub hl [] rfl) h
  · replace h := zif_f c1 h
    refine lv_iconst (v := 1) hx hb dX8_askedAt_12 (by decide) ?_
    refine lv_goto (tgt := 17) hx hb dX8_askedAt_13 (by decide) ?_
    exact bX_X8_askedAt_17 C hE   (S.1 24) 1 S H locs ls hH (lv_sub hl [] rfl) h
set_option maxHeartbeats 4000000 in
set_option maxRecDepth 100000 in
theorem cX_X8_askedAt (l : Launch) (D : va_G) (cI cS cW : ClassId) (q : Nat → Nat) (sz : Nat) (x1 : Int32) (S : zSt) {res : Int32} (h : fX_X8_askedAt x1 S = some res) : zMi l yX8_askedAt vsX8_askedAt rmX_X8_askedAt [.ref (q 1), .int x1] D (zwX cI cS cW q) (zyX cI cS cW) znX sz S res S := by
  refine Met.ofW (cc := cX8_askedAt) (maxL := 2) (ret := (some .int)) (by decide) rfl ?_
  intro p e s m args below meth c s₁ B hml hv
  obtain ⟨rfl, rfl, hP, hK, hD0, hN⟩ := hv
  have hl := lv_entry ([.ref (q 1), .int x1]) (n := 2) (Nat.le_of_ble_eq_true rfl)
  rw [lg_entry_eq]
  generalize (lg_sl ([.ref (q 1), .int x1]) ++ List.replicate (2 - (lg_sl ([.ref (q 1), .int x1])).length) Slot.unset).toArray = ls at hl ⊢
  exact bX_X8_askedAt ⟨B.exec, B.bytes, hml, findClass_of_methodNamed B.named, fun w h => atoms_spec (ws := vsX8_askedAt) B.pre w (List.mem_cons_of_mem _ h), B.returns, B.notSynchronized⟩ ⟨hK, fun q h => Or.inr h, hN⟩ x1 S s.heap [] ls ⟨hP, hD0.self, va_S.rf⟩ hl  h
def rmX_X4_keyAt_Sorted : Room := { frames := 0, cells := 0, slots := 0, locals := 0 }
set_option maxHeartbeats 4000000 in
set_option maxRecDepth 100000 in
theorem bX_X4_keyAt_Sorted {p : Program} {l : Launch} {e : Env} {s : State} {m : MethodId} {args : Array Value} {below : List Frame} {meth : Method} {c : Code} {D : va_G} {cI cS cW : ClassId} {q : Nat → Nat} {A : Nat → Prop} {res : Int32} (C : zCX p s m args meth c cX4_keyAt 2 (some .int) zU RX4) (hE : zE D (zyX cI cS cW) znX A s) (x1 : Int32) (S : zSt) (H : Heap) (locs : List Loc) (ls : Array Slot) (hH : zH D (zwX cI cS cW q) A s S H locs) (hl : lv_has ls 2 [(0, .ref (q 1)), (1, .int x1)]) (h : fX_X4_keyAt_Sorted  x1 S = some res) : W p l e rmX_X4_keyAt_Sorted s m args below meth c H locs 0 0 (zQi below D (zwX cI cS cW q) (zyX cI cS cW) A args s res S) (F0 m 0 ls []) := by
  have hx := C.1
  have hb := C.2.1
  unfold fX_X4_keyAt_Sorted at h
  refine lv_iload_n hx hb dX4_keyAt_0 rfl (lv_at hl 1 rfl) ?_
  refine lv_if_lt (tgt := 21) hx hb dX4_keyAt_1 (by decide) (fun c1 => ?_) (fun c1 => ?_)
  · replace h := zif_t c1 h
    refine lv_iconst (v := (-1)) hx hb dX4_keyAt_21 (by decide) ?_
    cases h
    exact z_iret C hE hH dX4_keyAt_22
  · replace h := zif_f c1 h
    refine lv_iload_n hx hb dX4_keyAt_4 rfl (lv_at hl 1 rfl) ?_
    refine lv_aload_n hx hb dX4_keyAt_5 rfl (lv_at hl 0 rfl) ?_
    refine z_get C hE hH zX_o1 rfl zh_X8 3 (by decide) zk3_9 (fun _ h9 => h9) (v := .int (S.1 23)) rfl dX4_keyAt_6 ?_
    refine lv_icmp_ge (tgt := 21) hx hb dX4_keyAt_9 (by decide) (fun c2 => ?_) (fun c2 => ?_)
    · replace h := zif_t c2 h
      refine lv_iconst (v := (-1)) hx hb dX4_keyAt_21 (by decide) ?_
      cases h
      exact z_iret C hE hH dX4_keyAt_22
    · replace h := zif_f c2 h
      refine lv_aload_n hx hb dX4_keyAt_12 rfl (lv_at hl 0 rfl) ?_
      refine z_get C hE hH zX_o1 rfl zh_X8 0 (by decide) zk3_8 (fun _ h9 => h9) (v := .ref (q 34)) rfl dX4_keyAt_13 ?_
      refine lv_iload_n hx hb dX4_keyAt_16 rfl (lv_at hl 1 rfl) ?_
      obtain ⟨g3, h⟩ := zgd_s h
      refine z_iald C hE hH zX_a34 (t0 := 0) rfl g3 dX4_keyAt_17 ?_
      refine lv_goto (tgt := 22) hx hb dX4_keyAt_18 (by decide) ?_
      cases h
      exact z_iret C hE hH dX4_keyAt_22
set_option maxHeartbeats 4000000 in
set_option maxRecDepth 100000 in
theorem cX_X4_keyAt_Sorted (l : Launch) (D : va_G) (cI cS cW : ClassId) (q : Nat → Nat) (sz : Nat) (x1 : Int32) (S : zSt) {res : Int32} (h : fX_X4_keyAt_Sorted x1 S = some res) : zMi l yX4_keyAt vsX4_keyAt rmX_X4_keyAt_Sorted [.ref (q 1), .int x1] D (zwX cI cS cW q) (zyX cI cS cW) znX sz S res S := by
  refine Met.ofW (cc := cX4_keyAt) (maxL := 2) (ret := (some .int)) (by decide) rfl ?_
  intro p e s m args below meth c s₁ B hml hv
  obtain ⟨rfl, rfl, hP, hK, hD0, hN⟩ := hv
  have hl := lv_entry ([.ref (q 1), .int x1]) (n := 2) (Nat.le_of_ble_eq_true rfl)
  rw [lg_entry_eq]
  generalize (lg_sl ([.ref (q 1), .int x1]) ++ List.replicate (2 - (lg_sl ([.ref (q 1), .int x1])).length) Slot.unset).toArray = ls at hl ⊢
  exact bX_X4_keyAt_Sorted ⟨B.exec, B.bytes, hml, findClass_of_methodNamed B.named, fun w h => atoms_spec (ws := vsX4_keyAt) B.pre w (List.mem_cons_of_mem _ h), B.returns, B.notSynchronized⟩ ⟨hK, fun q h => Or.inr h, hN⟩ x1 S s.heap [] ls ⟨hP, hD0.self, va_S.rf⟩ hl  h
def rmX_X4_remove_Sorted : Room := { frames := 1, cells := 0, slots := 0, locals := 30 }
set_option maxHeartbeats 4000000 in
set_option maxRecDepth 100000 in
theorem bX_X4_remove_Sorted {p : Program} {l : Launch} {e : Env} {s : State} {m : MethodId} {args : Array Value} {below : List Frame} {meth : Method} {c : Code} {D : va_G} {cI cS cW : ClassId} {q : Nat → Nat} {A : Nat → Prop} {res : zSt} (C : zCX p s m args meth c cX4_remove 2 none zU RX4) (hE : zE D (zyX cI cS cW) znX A s) (x1 : Int32) (S : zSt) (H : Heap) (locs : List Loc) (ls : Array Slot) (hH : zH D (zwX cI cS cW q) A s S H locs) (hl : lv_has ls 2 [(0, .ref (q 1)), (1, .int x1)]) (h : fX_X4_remove_Sorted  x1 S = some res) : W p l e rmX_X4_remove_Sorted s m args below meth c H locs 0 0 (zQv below D (zwX cI cS cW q) (zyX cI cS cW) A args s res) (F0 m 0 ls []) := by
  have hx := C.1
  have hb := C.2.1
  unfold fX_X4_remove_Sorted at h
  refine lv_iload_n hx hb dX4_remove_0 rfl (lv_at hl 1 rfl) ?_
  refine lv_if_lt (tgt := 45) hx hb dX4_remove_1 (by decide) (fun c1 => ?_) (fun c1 => ?_)
  · replace h := zif_t c1 h
    cases h
    exact z_vret C hE hH dX4_remove_45
  · replace h := zif_f c1 h
    refine lv_iload_n hx hb dX4_remove_4 rfl (lv_at hl 1 rfl) ?_
    refine lv_aload_n hx hb dX4_remove_5 rfl (lv_at hl 0 rfl) ?_
    refine z_get C hE hH zX_o1 rfl zh_X8 3 (by decide) zk3_9 (fun _ h9 => h9) (v := .int (S.1 23)) rfl dX4_remove_6 ?_
    refine lv_icmp_ge (tgt := 45) hx hb dX4_remove_9 (by decide) (fun c2 => ?_) (fun c2 => ?_)
    · replace h := zif_t c2 h
      cases h
      exact z_vret C hE hH dX4_remove_45
    · replace h := zif_f c2 h
      refine lv_aload_n hx hb dX4_remove_12 rfl (lv_at hl 0 rfl) ?_
      refine z_get C hE hH zX_o1 rfl zh_X8 0 (by decide) zk3_8 (fun _ h9 => h9) (v := .ref (q 34)) rfl dX4_remove_13 ?_
      refine lv_iload_n hx hb dX4_remove_16 rfl (lv_at hl 1 rfl) ?_
      refine lv_iconst (v := 1) hx hb dX4_remove_17 (by decide) ?_
      refine lv_iadd hx hb dX4_remove_18 ?_
      refine lv_aload_n hx hb dX4_remove_19 rfl (lv_at hl 0 rfl) ?_
      refine z_get C hE hH zX_o1 rfl zh_X8 0 (by decide) zk3_8 (fun _ h9 => h9) (v := .ref (q 34)) rfl dX4_remove_20 ?_
      refine lv_iload_n hx hb dX4_remove_23 rfl (lv_at hl 1 rfl) ?_
      refine lv_aload_n hx hb dX4_remove_24 rfl (lv_at hl 0 rfl) ?_
      refine z_get C hE hH zX_o1 rfl zh_X8 3 (by decide) zk3_9 (fun _ h9 => h9) (v := .int (S.1 23)) rfl dX4_remove_25 ?_
      refine lv_iload_n hx hb dX4_remove_28 rfl (lv_at hl 1 rfl) ?_
      refine lv_isub hx hb dX4_remove_29 ?_
      refine lv_iconst (v := 1) hx hb dX4_remove_30 (by decide) ?_
      refine lv_isub hx hb dX4_remove_31 ?_
      obtain ⟨g3, h⟩ := zgd_s h
      refine z_copyi C hE hH hl.1 zk10_5 zk9_9 zk9_10 zk9_11 zX_a34 zX_a34 (t0 := 0) rfl g3 zX_c34 (Nat.le_of_ble_eq_true rfl) (by decide) dX4_remove_32 (fun H locs hH => ?_)
      refine lv_aload_n hx hb dX4_remove_35 rfl (lv_at hl 0 rfl) ?_
      refine lv_dup hx hb dX4_remove_36 rfl ?_
      refine z_get C hE hH zX_o1 rfl zh_X8 3 (by decide) zk3_9 (fun _ h9 => h9) (v := .int (S.1 23)) rfl dX4_remove_37 ?_
      refine lv_iconst (v := 1) hx hb dX4_remove_40 (by decide) ?_
      refine lv_isub hx hb dX4_remove_41 ?_
      refine z_put C hE hH zX_o1 rfl zh_X8 tyX8_ok nmX8 3 (by decide) zk3_9 (fun _ h9 => h9) rfl (ty := .int) rfl rfl rfl (Nat.le_of_ble_eq_true rfl) zX_i23 dX4_remove_42 (fun H locs hH => ?_)
      cases h
      exact z_vret C hE hH dX4_remove_45
set_option maxHeartbeats 4000000 in
set_option maxRecDepth 100000 in
theorem cX_X4_remove_Sorted (l : Launch) (D : va_G) (cI cS cW : ClassId) (q : Nat → Nat) (sz : Nat) (x1 : Int32) (S : zSt) {res : zSt} (h : fX_X4_remove_Sorted x1 S = some res) : zMv l yX4_remove vsX4_remove rmX_X4_remove_Sorted [.ref (q 1), .int x1] D (zwX cI cS cW q) (zyX cI cS cW) znX sz S res := by
  refine Met.ofW (cc := cX4_remove) (maxL := 2) (ret := none) (by decide) rfl ?_
  intro p e s m args below meth c s₁ B hml hv
  obtain ⟨rfl, rfl, hP, hK, hD0, hN⟩ := hv
  have hl := lv_entry ([.ref (q 1), .int x1]) (n := 2) (Nat.le_of_ble_eq_true rfl)
  rw [lg_entry_eq]
  generalize (lg_sl ([.ref (q 1), .int x1]) ++ List.replicate (2 - (lg_sl ([.ref (q 1), .int x1])).length) Slot.unset).toArray = ls at hl ⊢
  exact bX_X4_remove_Sorted ⟨B.exec, B.bytes, hml, findClass_of_methodNamed B.named, fun w h => atoms_spec (ws := vsX4_remove) B.pre w (List.mem_cons_of_mem _ h), B.returns, B.notSynchronized⟩ ⟨hK, fun q h => Or.inr h, hN⟩ x1 S s.heap [] ls ⟨hP, hD0.self, va_S.rf⟩ hl  h
def rmX_X8_strike : Room := { frames := 2, cells := 0, slots := 0, locals := 51 }
set_option maxHeartbeats 4000000 in
set_option maxRecDepth 100000 in
theorem bX_X8_strike {p : Program} {l : Launch} {e : Env} {s : State} {m : MethodId} {args : Array Value} {below : List Frame} {meth : Method} {c : Code} {D : va_G} {cI cS cW : ClassId} {q : Nat → Nat} {A : Nat → Prop} {res : Int32 × zSt} (C : zCX p s m args meth c cX8_strike 4 (some .int) zU RX8) (hE : zE D (zyX cI cS cW) znX A s) (x1 : Int32) (S : zSt) (H : Heap) (locs : List Loc) (ls : Array Slot) (hH : zH D (zwX cI cS cW q) A s S H locs) (hl : lv_has ls 4 [(0, .ref (q 1)), (1, .int x1)]) (h : fX_X8_strike  x1 S = some res) : W p l e rmX_X8_strike s m args below meth c H locs 0 0 (zQi below D (zwX cI cS cW q) (zyX cI cS cW) A args s res.1 res.2) (F0 m 0 ls []) := by
  have hx := C.1
  have hb := C.2.1
  unfold fX_X8_strike at h
  refine lv_aload_n hx hb dX8_strike_0 rfl (lv_at hl 0 rfl) ?_
  refine lv_iload_n hx hb dX8_strike_1 rfl (lv_at hl 1 rfl) ?_
  obtain ⟨u1, e2, h⟩ := zbd_s h
  refine z_calli (va_runV (As := [.int x1]) (rest := []) (z_fix C) (cX_X8_halve l D cI cS cW q H.size  x1 S e2) (cwV 1 C.2.2.2.2.1 (zGV zk14_8 zk14_9 zk14_10 zk1_20 zk14_11) rfl rfl rfl yd_X8_halve ⟨Nat.le_of_ble_eq_true rfl, Nat.le_of_ble_eq_true rfl⟩) (z_preV (zNmX hE) hE hH zX_o1 rfl) rfl rfl hl.1 rfl (lv_room (Nat.le_of_ble_eq_true rfl)) dX8_strike_2 ⟨Nat.le_refl 0, Nat.le_refl 0⟩) hE hH (fun H locs hH => ?_)
  refine lv_istore_n (lv' := [(2, .int u1.1), (0, .ref (q 1)), (1, .int x1)]) hx hb dX8_strike_5 rfl hl (by decide) rfl (fun ls hl => ?_)
  refine lv_aload_n hx hb dX8_strike_6 rfl (lv_at hl 1 rfl) ?_
  refine lv_iload_n hx hb dX8_strike_7 rfl (lv_at hl 0 rfl) ?_
  obtain ⟨u3, e4, h⟩ := zbd_s h
  refine z_calli (va_runV (As := [.int u1.1]) (rest := []) (z_fix C) (cX_X8_askedAt l D cI cS cW q H.size  u1.1 u1.2 e4) (cwV 1 C.2.2.2.2.1 (zGV zk14_17 zk14_18 zk14_19 zk1_20 zk14_20) rfl rfl rfl yd_X8_askedAt ⟨Nat.le_of_ble_eq_true rfl, Nat.le_of_ble_eq_true rfl⟩) (z_preV (zNmX hE) hE hH zX_o1 rfl) rfl rfl hl.1 rfl (lv_room (Nat.le_of_ble_eq_true rfl)) dX8_strike_8 ⟨Nat.le_refl 0, Nat.le_refl 0⟩) hE hH (fun H locs hH => ?_)
  refine lv_istore_n (lv' := [(3, .int u3), (2, .int u1.1), (0, .ref (q 1)), (1, .int x1)]) hx hb dX8_strike_11 rfl hl (by decide) rfl (fun ls hl => ?_)
  refine lv_aload_n hx hb dX8_strike_12 rfl (lv_at hl 2 rfl) ?_
  refine lv_iload_n hx hb dX8_strike_13 rfl (lv_at hl 1 rfl) ?_
  obtain ⟨u5, e6, h⟩ := zbd_s h
  refine z_calli (va_runU (As := [.int u1.1]) (rest := []) (z_fix C) (cX_X4_keyAt_Sorted l D cI cS cW q H.size  u1.1 u1.2 e6) (va_cwU 1 C.2.2.2.2.1 (zGU (x := ⟨"WhichShelf$Sorted", "keyAt", "(I)I"⟩) (owner := "WhichShelf$Lined") zk15_1 zk15_2 zk15_3 zk7_17 zk3_6 zk7_18) rfl rfl rfl rfl ydu_X4_keyAt ⟨Nat.le_of_ble_eq_true rfl, Nat.le_of_ble_eq_true rfl⟩) (z_preV (zNmX hE) hE hH zX_o1 rfl) rfl rfl hl.1 rfl (lv_room (Nat.le_of_ble_eq_true rfl)) dX8_strike_14 ⟨Nat.le_refl 0, Nat.le_refl 0⟩) hE hH (fun H locs hH => ?_)
  refine lv_iload_n hx hb dX8_strike_17 rfl (lv_at hl 3 rfl) ?_
  refine lv_icmp_eq (tgt := 23) hx hb dX8_strike_18 (by decide) (fun c7 => ?_) (fun c7 => ?_)
  · replace h := zif_t c7 h
    refine lv_aload_n hx hb dX8_strike_23 rfl (lv_at hl 2 rfl) ?_
    refine lv_iload_n hx hb dX8_strike_24 rfl (lv_at hl 1 rfl) ?_
    obtain ⟨u8, e9, h⟩ := zbd_s h
    refine z_callv (va_runU (As := [.int u1.1]) (rest := []) (z_fix C) (cX_X4_remove_Sorted l D cI cS cW q H.size  u1.1 u1.2 e9) (va_cwU 1 C.2.2.2.2.1 (zGU (x := ⟨"WhichShelf$Sorted", "remove", "(I)V"⟩) (owner := "WhichShelf$Lined") zk15_4 zk15_5 zk15_6 zk10_20 zk3_6 zk10_21) rfl rfl rfl rfl ydu_X4_remove ⟨Nat.le_of_ble_eq_true rfl, Nat.le_of_ble_eq_true rfl⟩) (z_preV (zNmX hE) hE hH zX_o1 rfl) rfl rfl hl.1 rfl (lv_room (Nat.le_of_ble_eq_true rfl)) dX8_strike_25 ⟨Nat.le_refl 0, Nat.le_refl 0⟩) hE hH (fun H locs hH => ?_)
    refine lv_iload_n hx hb dX8_strike_28 rfl (lv_at hl 0 rfl) ?_
    refine lv_aload_n hx hb dX8_strike_29 rfl (lv_at hl 2 rfl) ?_
    refine z_get C hE hH zX_o1 rfl zh_X8 3 (by decide) zk13_23 (u_same (C.2.2.2.2.1 _ zk14_0)) (v := .int (u8.1 23)) rfl dX8_strike_30 ?_
    refine lv_iadd hx hb dX8_strike_33 ?_
    refine lv_iload_n hx hb dX8_strike_34 rfl (lv_at hl 1 rfl) ?_
    refine lv_isub hx hb dX8_strike_35 ?_
    cases h
    exact z_iret C hE hH dX8_strike_36
  · replace h := zif_f c7 h
    refine lv_iload_n hx hb dX8_strike_21 rfl (lv_at hl 0 rfl) ?_
    cases h
    exact z_iret C hE hH dX8_strike_22
set_option maxHeartbeats 4000000 in
set_option maxRecDepth 100000 in
theorem cX_X8_strike (l : Launch) (D : va_G) (cI cS cW : ClassId) (q : Nat → Nat) (sz : Nat) (x1 : Int32) (S : zSt) {res : Int32 × zSt} (h : fX_X8_strike x1 S = some res) : zMi l yX8_strike vsX8_strike rmX_X8_strike [.ref (q 1), .int x1] D (zwX cI cS cW q) (zyX cI cS cW) znX sz S res.1 res.2 := by
  refine Met.ofW (cc := cX8_strike) (maxL := 4) (ret := (some .int)) (by decide) rfl ?_
  intro p e s m args below meth c s₁ B hml hv
  obtain ⟨rfl, rfl, hP, hK, hD0, hN⟩ := hv
  have hl := lv_entry ([.ref (q 1), .int x1]) (n := 4) (Nat.le_of_ble_eq_true rfl)
  rw [lg_entry_eq]
  generalize (lg_sl ([.ref (q 1), .int x1]) ++ List.replicate (4 - (lg_sl ([.ref (q 1), .int x1])).length) Slot.unset).toArray = ls at hl ⊢
  exact bX_X8_strike ⟨B.exec, B.bytes, hml, findClass_of_methodNamed B.named, fun w h => atoms_spec (ws := vsX8_strike) B.pre w (List.mem_cons_of_mem _ h), B.returns, B.notSynchronized⟩ ⟨hK, fun q h => Or.inr h, hN⟩ x1 S s.heap [] ls ⟨hP, hD0.self, va_S.rf⟩ hl  h
def rmX_X8_seekBothEnds : Room := { frames := 1, cells := 0, slots := 0, locals := 24 }
set_option maxHeartbeats 4000000 in
set_option maxRecDepth 100000 in
theorem bX_X8_seekBothEnds {p : Program} {l : Launch} {e : Env} {s : State} {m : MethodId} {args : Array Value} {below : List Frame} {meth : Method} {c : Code} {D : va_G} {cI cS cW : ClassId} {q : Nat → Nat} {A : Nat → Prop} {res : Int32 × zSt} (C : zCX p s m args meth c cX8_seekBothEnds 3 (some .int) zU RX8) (hE : zE D (zyX cI cS cW) znX A s) (x1 : Int32) (S : zSt) (H : Heap) (locs : List Loc) (ls : Array Slot) (hH : zH D (zwX cI cS cW q) A s S H locs) (hl : lv_has ls 3 [(0, .ref (q 1)), (1, .int x1)]) (h : fX_X8_seekBothEnds  x1 S = some res) : W p l e rmX_X8_seekBothEnds s m args below meth c H locs 0 0 (zQi below D (zwX cI cS cW q) (zyX cI cS cW) A args s res.1 res.2) (F0 m 0 ls []) := by
  have hx := C.1
  have hb := C.2.1
  unfold fX_X8_seekBothEnds at h
  refine lv_aload_n hx hb dX8_seekBothEnds_0 rfl (lv_at hl 0 rfl) ?_
  refine lv_iload_n hx hb dX8_seekBothEnds_1 rfl (lv_at hl 1 rfl) ?_
  obtain ⟨u1, e2, h⟩ := zbd_s h
  refine z_calli (va_runV (As := [.int x1]) (rest := []) (z_fix C) (cX_X8_halve l D cI cS cW q H.size  x1 S e2) (cwV 1 C.2.2.2.2.1 (zGV zk14_8 zk14_9 zk14_10 zk1_20 zk14_11) rfl rfl rfl yd_X8_halve ⟨Nat.le_of_ble_eq_true rfl, Nat.le_of_ble_eq_true rfl⟩) (z_preV (zNmX hE) hE hH zX_o1 rfl) rfl rfl hl.1 rfl (lv_room (Nat.le_of_ble_eq_true rfl)) dX8_seekBothEnds_2 ⟨Nat.le_refl 0, Nat.le_refl 0⟩) hE hH (fun H locs hH => ?_)
  refine lv_pop hx hb dX8_seekBothEnds_5 rfl ?_
  refine lv_aload_n hx hb dX8_seekBothEnds_6 rfl (lv_at hl 0 rfl) ?_
  refine z_get C hE hH zX_o1 rfl zh_X8 7 (by decide) zk3_22 (fun _ h9 => h9) (v := .int (u1.2.1 24)) rfl dX8_seekBothEnds_7 ?_
  refine lv_istore_n (lv' := [(2, .int (u1.2.1 24)), (0, .ref (q 1)), (1, .int x1)]) hx hb dX8_seekBothEnds_10 rfl hl (by decide) rfl (fun ls hl => ?_)
  refine lv_aload_n hx hb dX8_seekBothEnds_11 rfl (lv_at hl 1 rfl) ?_
  refine lv_iload_n hx hb dX8_seekBothEnds_12 rfl (lv_at hl 2 rfl) ?_
  refine lv_iconst (v := 1) hx hb dX8_seekBothEnds_13 (by decide) ?_
  refine lv_iadd hx hb dX8_seekBothEnds_14 ?_
  obtain ⟨u3, e4, h⟩ := zbd_s h
  refine z_calli (va_runV (As := [.int (x1 + 1)]) (rest := []) (z_fix C) (cX_X8_halve l D cI cS cW q H.size  (x1 + 1) u1.2 e4) (cwV 1 C.2.2.2.2.1 (zGV zk14_8 zk14_9 zk14_10 zk1_20 zk14_11) rfl rfl rfl yd_X8_halve ⟨Nat.le_of_ble_eq_true rfl, Nat.le_of_ble_eq_true rfl⟩) (z_preV (zNmX hE) hE hH zX_o1 rfl) rfl rfl hl.1 rfl (lv_room (Nat.le_of_ble_eq_true rfl)) dX8_seekBothEnds_15 ⟨Nat.le_refl 0, Nat.le_refl 0⟩) hE hH (fun H locs hH => ?_)
  refine lv_pop hx hb dX8_seekBothEnds_18 rfl ?_
  refine lv_iload_n hx hb dX8_seekBothEnds_19 rfl (lv_at hl 0 rfl) ?_
  refine lv_aload_n hx hb dX8_seekBothEnds_20 rfl (lv_at hl 1 rfl) ?_
  refine z_get C hE hH zX_o1 rfl zh_X8 7 (by decide) zk3_22 (fun _ h9 => h9) (v := .int (u3.2.1 24)) rfl dX8_seekBothEnds_21 ?_
  refine lv_iadd hx hb dX8_seekBothEnds_24 ?_
  cases h
  exact z_iret C hE hH dX8_seekBothEnds_25
set_option maxHeartbeats 4000000 in
set_option maxRecDepth 100000 in
theorem cX_X8_seekBothEnds (l : Launch) (D : va_G) (cI cS cW : ClassId) (q : Nat → Nat) (sz : Nat) (x1 : Int32) (S : zSt) {res : Int32 × zSt} (h : fX_X8_seekBothEnds x1 S = some res) : zMi l yX8_seekBothEnds vsX8_seekBothEnds rmX_X8_seekBothEnds [.ref (q 1), .int x1] D (zwX cI cS cW q) (zyX cI cS cW) znX sz S res.1 res.2 := by
  refine Met.ofW (cc := cX8_seekBothEnds) (maxL := 3) (ret := (some .int)) (by decide) rfl ?_
  intro p e s m args below meth c s₁ B hml hv
  obtain ⟨rfl, rfl, hP, hK, hD0, hN⟩ := hv
  have hl := lv_entry ([.ref (q 1), .int x1]) (n := 3) (Nat.le_of_ble_eq_true rfl)
  rw [lg_entry_eq]
  generalize (lg_sl ([.ref (q 1), .int x1]) ++ List.replicate (3 - (lg_sl ([.ref (q 1), .int x1])).length) Slot.unset).toArray = ls at hl ⊢
  exact bX_X8_seekBothEnds ⟨B.exec, B.bytes, hml, findClass_of_methodNamed B.named, fun w h => atoms_spec (ws := vsX8_seekBothEnds) B.pre w (List.mem_cons_of_mem _ h), B.returns, B.notSynchronized⟩ ⟨hK, fun q h => Or.inr h, hN⟩ x1 S s.heap [] ls ⟨hP, hD0.self, va_S.rf⟩ hl  h

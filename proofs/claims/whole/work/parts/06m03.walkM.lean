def rmM_X11_firstShelf : Room := { frames := 2, cells := 0, slots := 0, locals := 42 }
set_option maxHeartbeats 4000000 in
set_option maxRecDepth 100000 in
theorem bM_X11_firstShelf_71 {p : Program} {l : Launch} {e : Env} {s : State} {m : MethodId} {args : Array Value} {below : List Frame} {meth : Method} {c : Code} {D : va_G} {cI : ClassId} {q : Nat → Nat} {A : Nat → Prop} {res : Int32} (C : zCX p s m args meth c cX11_firstShelf 3 (some .int) zU RX11) (hE : zE D [(cI, .int)] [] A s) (K4 : (Int32 → Int32 → zSt → Option (Int32))) (hK4 : ∀ (x1 x2 : Int32) (S : zSt) (H : Heap) (locs : List Loc) (ls : Array Slot), zH D (zwM cI q) A s S H locs → lv_has ls 3 [(0, .ref (q 32)), (1, .int x1), (2, .int x2)] → K4 x1 x2 S = some res → W p l e rmM_X11_firstShelf s m args below meth c H locs 0 0 (zQi below D (zwM cI q) [(cI, .int)] A args s res S) (F0 m 4 ls [])) (x2 : Int32) (S : zSt) (H : Heap) (locs : List Loc) (ls : Array Slot) (hH : zH D (zwM cI q) A s S H locs) (hl : lv_has ls 3 [(0, .ref (q 32)), (2, .int x2)]) (h : fM_X11_firstShelf_71 K4 x2 S = some res) : W p l e rmM_X11_firstShelf s m args below meth c H locs 0 0 (zQi below D (zwM cI q) [(cI, .int)] A args s res S) (F0 m 71 ls []) := by
  have hx := C.1
  have hb := C.2.1
  unfold fM_X11_firstShelf_71 at h
  refine lv_iload_n hx hb dX11_firstShelf_71 rfl (lv_at hl 1 rfl) ?_
  refine lv_istore_n (lv' := [(1, .int x2), (0, .ref (q 32)), (2, .int x2)]) hx hb dX11_firstShelf_72 rfl hl (by decide) rfl (fun ls hl => ?_)
  refine lv_iinc (v := (x2 + 1)) (lv' := [(2, .int (x2 + 1)), (1, .int x2), (0, .ref (q 32))]) hx hb dX11_firstShelf_73 hl (k := 2) rfl rfl (by decide) rfl (fun ls hl => ?_)
  refine lv_goto (tgt := 4) hx hb dX11_firstShelf_76 (by decide) ?_
  exact hK4 x2 (x2 + 1) S H locs ls hH (lv_sub hl [2, 1, 0] rfl) h
set_option maxHeartbeats 4000000 in
set_option maxRecDepth 100000 in
theorem bM_X11_firstShelf_4 {p : Program} {l : Launch} {e : Env} {s : State} {m : MethodId} {args : Array Value} {below : List Frame} {meth : Method} {c : Code} {D : va_G} {cI : ClassId} {q : Nat → Nat} {A : Nat → Prop} {res : Int32} (C : zCX p s m args meth c cX11_firstShelf 3 (some .int) zU RX11) (hE : zE D [(cI, .int)] [] A s) : ∀ (n : Nat) (x1 x2 : Int32) (S : zSt) (H : Heap) (locs : List Loc) (ls : Array Slot), zH D (zwM cI q) A s S H locs → lv_has ls 3 [(0, .ref (q 32)), (1, .int x1), (2, .int x2)] → fM_X11_firstShelf_4  n x1 x2 S = some res → W p l e rmM_X11_firstShelf s m args below meth c H locs 0 0 (zQi below D (zwM cI q) [(cI, .int)] A args s res S) (F0 m 4 ls []) := by
  have hx := C.1
  have hb := C.2.1
  intro n
  induction n with
  | zero =>
    intro x1 x2 S H locs ls hH hl  h
    cases h
  | succ n hK4 =>
    intro x1 x2 S H locs ls hH hl  h
    rw [fM_X11_firstShelf_4] at h
    refine lv_iload_n hx hb dX11_firstShelf_4 rfl (lv_at hl 2 rfl) ?_
    refine lv_bipush (v := 6) hx hb dX11_firstShelf_5 (by decide) ?_
    refine lv_icmp_ge (tgt := 79) hx hb dX11_firstShelf_7 (by decide) (fun c1 => ?_) (fun c1 => ?_)
    · replace h := zif_t c1 h
      refine lv_iload_n hx hb dX11_firstShelf_79 rfl (lv_at hl 1 rfl) ?_
      cases h
      exact z_iret C hE hH dX11_firstShelf_80
    · replace h := zif_f c1 h
      refine lv_aload_n hx hb dX11_firstShelf_10 rfl (lv_at hl 0 rfl) ?_
      refine lv_iload_n hx hb dX11_firstShelf_11 rfl (lv_at hl 2 rfl) ?_
      obtain ⟨u2, e3, h⟩ := zbd_s h
      refine z_calli (va_runV (As := [.int x2]) (rest := []) (z_fix C) (cM_X11_isOffered l D cI q H.size x2 S e3) (cwV 1 C.2.2.2.2.1 (zGV zk31_20 zk31_21 zk31_22 zk1_5 zk31_23) rfl rfl rfl yd_X11_isOffered ⟨Nat.le_of_ble_eq_true rfl, Nat.le_of_ble_eq_true rfl⟩) (z_preV zNm0 hE hH zM_o rfl) rfl rfl hl.1 rfl (lv_room (Nat.le_of_ble_eq_true rfl)) dX11_firstShelf_12 ⟨Nat.le_refl 0, Nat.le_refl 0⟩) hE hH (fun H locs hH => ?_)
      refine lv_if_ne (tgt := 21) hx hb dX11_firstShelf_15 (by decide) (fun c4 => ?_) (fun c4 => ?_)
      · replace h := zif_f c4 h
        refine lv_iload_n hx hb dX11_firstShelf_21 rfl (lv_at hl 1 rfl) ?_
        refine lv_iconst (v := (-1)) hx hb dX11_firstShelf_22 (by decide) ?_
        refine lv_icmp_eq (tgt := 71) hx hb dX11_firstShelf_23 (by decide) (fun c5 => ?_) (fun c5 => ?_)
        · replace h := zif_t c5 h
          exact bM_X11_firstShelf_71 C hE (fM_X11_firstShelf_4  n) hK4 x2 S H locs ls hH (lv_sub hl [0, 2] rfl) h
        · replace h := zif_f c5 h
          refine lv_aload_n hx hb dX11_firstShelf_26 rfl (lv_at hl 0 rfl) ?_
          refine z_get C hE hH zM_o rfl zh_X11 26 (by decide) zk6_6 (fun _ h9 => h9) (v := .ref (q 26)) rfl dX11_firstShelf_27 ?_
          refine lv_iload_n hx hb dX11_firstShelf_30 rfl (lv_at hl 2 rfl) ?_
          obtain ⟨g6, h⟩ := zgd_s h
          refine z_iald C hE hH zM_a26 (t0 := 0) rfl g6 dX11_firstShelf_31 ?_
          refine lv_aload_n hx hb dX11_firstShelf_32 rfl (lv_at hl 0 rfl) ?_
          refine z_get C hE hH zM_o rfl zh_X11 26 (by decide) zk6_6 (fun _ h9 => h9) (v := .ref (q 26)) rfl dX11_firstShelf_33 ?_
          refine lv_iload_n hx hb dX11_firstShelf_36 rfl (lv_at hl 1 rfl) ?_
          obtain ⟨g7, h⟩ := zgd_s h
          refine z_iald C hE hH zM_a26 (t0 := 0) rfl g7 dX11_firstShelf_37 ?_
          refine lv_icmp_lt (tgt := 71) hx hb dX11_firstShelf_38 (by decide) (fun c8 => ?_) (fun c8 => ?_)
          · replace h := zif_t c8 h
            exact bM_X11_firstShelf_71 C hE (fM_X11_firstShelf_4  n) hK4 x2 S H locs ls hH (lv_sub hl [0, 2] rfl) h
          · replace h := zif_f c8 h
            refine lv_aload_n hx hb dX11_firstShelf_41 rfl (lv_at hl 0 rfl) ?_
            refine z_get C hE hH zM_o rfl zh_X11 26 (by decide) zk6_6 (fun _ h9 => h9) (v := .ref (q 26)) rfl dX11_firstShelf_42 ?_
            refine lv_iload_n hx hb dX11_firstShelf_45 rfl (lv_at hl 2 rfl) ?_
            obtain ⟨g9, h⟩ := zgd_s h
            refine z_iald C hE hH zM_a26 (t0 := 0) rfl g9 dX11_firstShelf_46 ?_
            refine lv_aload_n hx hb dX11_firstShelf_47 rfl (lv_at hl 0 rfl) ?_
            refine z_get C hE hH zM_o rfl zh_X11 26 (by decide) zk6_6 (fun _ h9 => h9) (v := .ref (q 26)) rfl dX11_firstShelf_48 ?_
            refine lv_iload_n hx hb dX11_firstShelf_51 rfl (lv_at hl 1 rfl) ?_
            obtain ⟨g10, h⟩ := zgd_s h
            refine z_iald C hE hH zM_a26 (t0 := 0) rfl g10 dX11_firstShelf_52 ?_
            refine lv_icmp_ne (tgt := 73) hx hb dX11_firstShelf_53 (by decide) (fun c11 => ?_) (fun c11 => ?_)
            · replace h := zif_f c11 h
              refine lv_iinc (v := (x2 + 1)) (lv' := [(2, .int (x2 + 1)), (0, .ref (q 32)), (1, .int x1)]) hx hb dX11_firstShelf_73 hl (k := 2) rfl rfl (by decide) rfl (fun ls hl => ?_)
              refine lv_goto (tgt := 4) hx hb dX11_firstShelf_76 (by decide) ?_
              exact hK4 x1 (x2 + 1) S H locs ls hH (lv_sub hl [1, 2, 0] rfl) h
            · replace h := zif_t c11 h
              refine lv_aload_n hx hb dX11_firstShelf_56 rfl (lv_at hl 0 rfl) ?_
              refine z_get C hE hH zM_o rfl zh_X11 27 (by decide) zk6_7 (fun _ h9 => h9) (v := .ref (q 27)) rfl dX11_firstShelf_57 ?_
              refine lv_iload_n hx hb dX11_firstShelf_60 rfl (lv_at hl 2 rfl) ?_
              obtain ⟨g12, h⟩ := zgd_s h
              refine z_iald C hE hH zM_a27 (t0 := 0) rfl g12 dX11_firstShelf_61 ?_
              refine lv_aload_n hx hb dX11_firstShelf_62 rfl (lv_at hl 0 rfl) ?_
              refine z_get C hE hH zM_o rfl zh_X11 27 (by decide) zk6_7 (fun _ h9 => h9) (v := .ref (q 27)) rfl dX11_firstShelf_63 ?_
              refine lv_iload_n hx hb dX11_firstShelf_66 rfl (lv_at hl 1 rfl) ?_
              obtain ⟨g13, h⟩ := zgd_s h
              refine z_iald C hE hH zM_a27 (t0 := 0) rfl g13 dX11_firstShelf_67 ?_
              refine lv_icmp_ge (tgt := 73) hx hb dX11_firstShelf_68 (by decide) (fun c14 => ?_) (fun c14 => ?_)
              · replace h := zif_t c14 h
                refine lv_iinc (v := (x2 + 1)) (lv' := [(2, .int (x2 + 1)), (0, .ref (q 32)), (1, .int x1)]) hx hb dX11_firstShelf_73 hl (k := 2) rfl rfl (by decide) rfl (fun ls hl => ?_)
                refine lv_goto (tgt := 4) hx hb dX11_firstShelf_76 (by decide) ?_
                exact hK4 x1 (x2 + 1) S H locs ls hH (lv_sub hl [1, 2, 0] rfl) h
              · replace h := zif_f c14 h
                exact bM_X11_firstShelf_71 C hE (fM_X11_firstShelf_4  n) hK4 x2 S H locs ls hH (lv_sub hl [0, 2] rfl) h
      · replace h := zif_t c4 h
        refine lv_goto (tgt := 73) hx hb dX11_firstShelf_18 (by decide) ?_
        refine lv_iinc (v := (x2 + 1)) (lv' := [(2, .int (x2 + 1)), (0, .ref (q 32)), (1, .int x1)]) hx hb dX11_firstShelf_73 hl (k := 2) rfl rfl (by decide) rfl (fun ls hl => ?_)
        refine lv_goto (tgt := 4) hx hb dX11_firstShelf_76 (by decide) ?_
        exact hK4 x1 (x2 + 1) S H locs ls hH (lv_sub hl [1, 2, 0] rfl) h
set_option maxHeartbeats 4000000 in
set_option maxRecDepth 100000 in
theorem bM_X11_firstShelf {p : Program} {l : Launch} {e : Env} {s : State} {m : MethodId} {args : Array Value} {below : List Frame} {meth : Method} {c : Code} {D : va_G} {cI : ClassId} {q : Nat → Nat} {A : Nat → Prop} {res : Int32} (C : zCX p s m args meth c cX11_firstShelf 3 (some .int) zU RX11) (hE : zE D [(cI, .int)] [] A s) (S : zSt) (H : Heap) (locs : List Loc) (ls : Array Slot) (hH : zH D (zwM cI q) A s S H locs) (hl : lv_has ls 3 [(0, .ref (q 32))]) (h : fM_X11_firstShelf   S = some res) : W p l e rmM_X11_firstShelf s m args below meth c H locs 0 0 (zQi below D (zwM cI q) [(cI, .int)] A args s res S) (F0 m 0 ls []) := by
  have hx := C.1
  have hb := C.2.1
  unfold fM_X11_firstShelf at h
  refine lv_iconst (v := (-1)) hx hb dX11_firstShelf_0 (by decide) ?_
  refine lv_istore_n (lv' := [(1, .int (-1)), (0, .ref (q 32))]) hx hb dX11_firstShelf_1 rfl hl (by decide) rfl (fun ls hl => ?_)
  refine lv_iconst (v := 0) hx hb dX11_firstShelf_2 (by decide) ?_
  refine lv_istore_n (lv' := [(2, .int 0), (1, .int (-1)), (0, .ref (q 32))]) hx hb dX11_firstShelf_3 rfl hl (by decide) rfl (fun ls hl => ?_)
  exact bM_X11_firstShelf_4 C hE   1000 (-1) 0 S H locs ls hH (lv_sub hl [2, 1, 0] rfl) h
set_option maxHeartbeats 4000000 in
set_option maxRecDepth 100000 in
theorem cM_X11_firstShelf (l : Launch) (D : va_G) (cI : ClassId) (q : Nat → Nat) (sz : Nat) (S : zSt) {res : Int32} (h : fM_X11_firstShelf  S = some res) : zMi l yX11_firstShelf vsX11_firstShelf rmM_X11_firstShelf [.ref (q 32)] D (zwM cI q) [(cI, .int)] [] sz S res S := by
  refine Met.ofW (cc := cX11_firstShelf) (maxL := 3) (ret := (some .int)) (by decide) rfl ?_
  intro p e s m args below meth c s₁ B hml hv
  obtain ⟨rfl, rfl, hP, hK, hD0, hN⟩ := hv
  have hl := lv_entry ([.ref (q 32)]) (n := 3) (Nat.le_of_ble_eq_true rfl)
  rw [lg_entry_eq]
  generalize (lg_sl ([.ref (q 32)]) ++ List.replicate (3 - (lg_sl ([.ref (q 32)])).length) Slot.unset).toArray = ls at hl ⊢
  exact bM_X11_firstShelf ⟨B.exec, B.bytes, hml, findClass_of_methodNamed B.named, fun w h => atoms_spec (ws := vsX11_firstShelf) B.pre w (List.mem_cons_of_mem _ h), B.returns, B.notSynchronized⟩ ⟨hK, fun q h => Or.inr h, hN⟩  S s.heap [] ls ⟨hP, hD0.self, va_S.rf⟩ hl  h
def rmM_X11_stages : Room := { frames := 6, cells := 0, slots := 0, locals := 149 }
set_option maxHeartbeats 4000000 in
set_option maxRecDepth 100000 in
theorem bM_X11_stages {p : Program} {l : Launch} {e : Env} {s : State} {m : MethodId} {args : Array Value} {below : List Frame} {meth : Method} {c : Code} {D : va_G} {cI : ClassId} {q : Nat → Nat} {A : Nat → Prop} {res : Int32 × zSt} (C : zCX p s m args meth c cX11_stages 1 (some .int) zU RX11) (hE : zE D [(cI, .int)] [] A s) (S : zSt) (H : Heap) (locs : List Loc) (ls : Array Slot) (hH : zH D (zwM cI q) A s S H locs) (hl : lv_has ls 1 [(0, .ref (q 32))]) (h : fM_X11_stages   S = some res) : W p l e rmM_X11_stages s m args below meth c H locs 0 0 (zQi below D (zwM cI q) [(cI, .int)] A args s res.1 res.2) (F0 m 0 ls []) := by
  have hx := C.1
  have hb := C.2.1
  unfold fM_X11_stages at h
  refine lv_aload_n hx hb dX11_stages_0 rfl (lv_at hl 0 rfl) ?_
  refine lv_iconst (v := 0) hx hb dX11_stages_1 (by decide) ?_
  refine z_put C hE hH zM_o rfl zh_X11 tyX11_ok nmX11 7 (by decide) zk17_17 (fun _ h9 => h9) rfl (ty := .int) rfl rfl rfl (Nat.le_of_ble_eq_true rfl) zM_i7 dX11_stages_2 (fun H locs hH => ?_)
  refine lv_aload_n hx hb dX11_stages_5 rfl (lv_at hl 0 rfl) ?_
  obtain ⟨u1, e2, h⟩ := zbd_s h
  refine z_calli (va_runV (As := []) (rest := []) (z_fix C) (cM_X11_findStages l D cI q H.size  (zsI S 7 0) e2) (cwV 0 C.2.2.2.2.1 (zGV zk35_5 zk35_6 zk35_7 zk1_5 zk35_8) rfl rfl rfl yd_X11_findStages ⟨Nat.le_of_ble_eq_true rfl, Nat.le_of_ble_eq_true rfl⟩) (z_preV zNm0 hE hH zM_o rfl) rfl rfl hl.1 rfl (lv_room (Nat.le_of_ble_eq_true rfl)) dX11_stages_6 ⟨Nat.le_refl 0, Nat.le_refl 0⟩) hE hH (fun H locs hH => ?_)
  refine lv_if_ne (tgt := 14) hx hb dX11_stages_9 (by decide) (fun c3 => ?_) (fun c3 => ?_)
  · replace h := zif_f c3 h
    refine lv_aload_n hx hb dX11_stages_14 rfl (lv_at hl 0 rfl) ?_
    refine z_get C hE hH zM_o rfl zh_X11 2 (by decide) zk17_18 (fun _ h9 => h9) (v := .int (u1.2.1 2)) rfl dX11_stages_15 ?_
    refine lv_if_ne (tgt := 25) hx hb dX11_stages_18 (by decide) (fun c4 => ?_) (fun c4 => ?_)
    · replace h := zif_f c4 h
      refine lv_aload_n hx hb dX11_stages_25 rfl (lv_at hl 0 rfl) ?_
      refine z_get C hE hH zM_o rfl zh_X11 26 (by decide) zk6_6 (fun _ h9 => h9) (v := .ref (q 26)) rfl dX11_stages_26 ?_
      refine lv_aload_n hx hb dX11_stages_29 rfl (lv_at hl 0 rfl) ?_
      obtain ⟨u5, e6, h⟩ := zbd_s h
      refine z_calli (va_runV (As := []) (rest := [.ref (q 26)]) (z_fix C) (cM_X11_firstShelf l D cI q H.size  u1.2 e6) (cwV 0 C.2.2.2.2.1 (zGV zk35_18 zk35_19 zk35_20 zk1_5 zk35_21) rfl rfl rfl yd_X11_firstShelf ⟨Nat.le_of_ble_eq_true rfl, Nat.le_of_ble_eq_true rfl⟩) (z_preV zNm0 hE hH zM_o rfl) rfl rfl hl.1 rfl (lv_room (Nat.le_of_ble_eq_true rfl)) dX11_stages_30 ⟨Nat.le_refl 0, Nat.le_refl 0⟩) hE hH (fun H locs hH => ?_)
      obtain ⟨g7, h⟩ := zgd_s h
      refine z_iald C hE hH zM_a26 (t0 := 0) rfl g7 dX11_stages_33 ?_
      cases h
      exact z_iret C hE hH dX11_stages_34
    · replace h := zif_t c4 h
      refine lv_iconst (v := 0) hx hb dX11_stages_21 (by decide) ?_
      refine lv_goto (tgt := 34) hx hb dX11_stages_22 (by decide) ?_
      cases h
      exact z_iret C hE hH dX11_stages_34
  · replace h := zif_t c3 h
    refine lv_iconst (v := (-1)) hx hb dX11_stages_12 (by decide) ?_
    cases h
    exact z_iret C hE hH dX11_stages_13
set_option maxHeartbeats 4000000 in
set_option maxRecDepth 100000 in
theorem cM_X11_stages (l : Launch) (D : va_G) (cI : ClassId) (q : Nat → Nat) (sz : Nat) (S : zSt) {res : Int32 × zSt} (h : fM_X11_stages  S = some res) : zMi l yX11_stages vsX11_stages rmM_X11_stages [.ref (q 32)] D (zwM cI q) [(cI, .int)] [] sz S res.1 res.2 := by
  refine Met.ofW (cc := cX11_stages) (maxL := 1) (ret := (some .int)) (by decide) rfl ?_
  intro p e s m args below meth c s₁ B hml hv
  obtain ⟨rfl, rfl, hP, hK, hD0, hN⟩ := hv
  have hl := lv_entry ([.ref (q 32)]) (n := 1) (Nat.le_of_ble_eq_true rfl)
  rw [lg_entry_eq]
  generalize (lg_sl ([.ref (q 32)]) ++ List.replicate (1 - (lg_sl ([.ref (q 32)])).length) Slot.unset).toArray = ls at hl ⊢
  exact bM_X11_stages ⟨B.exec, B.bytes, hml, findClass_of_methodNamed B.named, fun w h => atoms_spec (ws := vsX11_stages) B.pre w (List.mem_cons_of_mem _ h), B.returns, B.notSynchronized⟩ ⟨hK, fun q h => Or.inr h, hN⟩  S s.heap [] ls ⟨hP, hD0.self, va_S.rf⟩ hl  h
def rmM_X11_stage : Room := { frames := 6, cells := 0, slots := 0, locals := 149 }
set_option maxHeartbeats 4000000 in
set_option maxRecDepth 100000 in
theorem bM_X11_stage_29 {p : Program} {l : Launch} {e : Env} {s : State} {m : MethodId} {args : Array Value} {below : List Frame} {meth : Method} {c : Code} {D : va_G} {cI : ClassId} {q : Nat → Nat} {A : Nat → Prop} {res : Int32 × zSt} (C : zCX p s m args meth c cX11_stage 4 (some .int) zU RX11) (hE : zE D [(cI, .int)] [] A s) : ∀ (n : Nat) (x1 x2 x3 : Int32) (S : zSt) (H : Heap) (locs : List Loc) (ls : Array Slot), zH D (zwM cI q) A s S H locs → lv_has ls 4 [(0, .ref (q 32)), (1, .int x1), (2, .int x2), (3, .int x3)] → fM_X11_stage_29  n x1 x2 x3 S = some res → W p l e rmM_X11_stage s m args below meth c H locs 0 0 (zQi below D (zwM cI q) [(cI, .int)] A args s res.1 res.2) (F0 m 29 ls []) := by
  have hx := C.1
  have hb := C.2.1
  intro n
  induction n with
  | zero =>
    intro x1 x2 x3 S H locs ls hH hl  h
    cases h
  | succ n hK29 =>
    intro x1 x2 x3 S H locs ls hH hl  h
    rw [fM_X11_stage_29] at h
    refine lv_iload_n hx hb dX11_stage_29 rfl (lv_at hl 3 rfl) ?_
    refine lv_iload_n hx hb dX11_stage_30 rfl (lv_at hl 1 rfl) ?_
    refine lv_icmp_ge (tgt := 47) hx hb dX11_stage_31 (by decide) (fun c1 => ?_) (fun c1 => ?_)
    · replace h := zif_t c1 h
      refine lv_iload_n hx hb dX11_stage_47 rfl (lv_at hl 2 rfl) ?_
      cases h
      exact z_iret C hE hH dX11_stage_48
    · replace h := zif_f c1 h
      refine lv_aload_n hx hb dX11_stage_34 rfl (lv_at hl 0 rfl) ?_
      refine lv_iload_n hx hb dX11_stage_35 rfl (lv_at hl 3 rfl) ?_
      refine lv_iload_n hx hb dX11_stage_36 rfl (lv_at hl 2 rfl) ?_
      obtain ⟨u2, e3, h⟩ := zbd_s h
      refine z_calli (va_runV (As := [.int x3, .int x2]) (rest := []) (z_fix C) (cM_X11_nextShelf l D cI q H.size x3 x2 S e3) (cwV 2 C.2.2.2.2.1 (zGV zk35_10 zk35_11 zk35_12 zk1_5 zk35_13) rfl rfl rfl yd_X11_nextShelf ⟨Nat.le_of_ble_eq_true rfl, Nat.le_of_ble_eq_true rfl⟩) (z_preV zNm0 hE hH zM_o rfl) rfl rfl hl.1 rfl (lv_room (Nat.le_of_ble_eq_true rfl)) dX11_stage_37 ⟨Nat.le_refl 0, Nat.le_refl 0⟩) hE hH (fun H locs hH => ?_)
      refine lv_istore_n (lv' := [(2, .int u2), (0, .ref (q 32)), (1, .int x1), (3, .int x3)]) hx hb dX11_stage_40 rfl hl (by decide) rfl (fun ls hl => ?_)
      refine lv_iinc (v := (x3 + 1)) (lv' := [(3, .int (x3 + 1)), (2, .int u2), (0, .ref (q 32)), (1, .int x1)]) hx hb dX11_stage_41 hl (k := 3) rfl rfl (by decide) rfl (fun ls hl => ?_)
      refine lv_goto (tgt := 29) hx hb dX11_stage_44 (by decide) ?_
      exact hK29 x1 u2 (x3 + 1) S H locs ls hH (lv_sub hl [2, 3, 1, 0] rfl) h
set_option maxHeartbeats 4000000 in
set_option maxRecDepth 100000 in
theorem bM_X11_stage {p : Program} {l : Launch} {e : Env} {s : State} {m : MethodId} {args : Array Value} {below : List Frame} {meth : Method} {c : Code} {D : va_G} {cI : ClassId} {q : Nat → Nat} {A : Nat → Prop} {res : Int32 × zSt} (C : zCX p s m args meth c cX11_stage 4 (some .int) zU RX11) (hE : zE D [(cI, .int)] [] A s) (x1 : Int32) (S : zSt) (H : Heap) (locs : List Loc) (ls : Array Slot) (hH : zH D (zwM cI q) A s S H locs) (hl : lv_has ls 4 [(0, .ref (q 32)), (1, .int x1)]) (h : fM_X11_stage  x1 S = some res) : W p l e rmM_X11_stage s m args below meth c H locs 0 0 (zQi below D (zwM cI q) [(cI, .int)] A args s res.1 res.2) (F0 m 0 ls []) := by
  have hx := C.1
  have hb := C.2.1
  unfold fM_X11_stage at h
  refine lv_aload_n hx hb dX11_stage_0 rfl (lv_at hl 0 rfl) ?_
  refine lv_iconst (v := 0) hx hb dX11_stage_1 (by decide) ?_
  refine z_put C hE hH zM_o rfl zh_X11 tyX11_ok nmX11 7 (by decide) zk17_17 (fun _ h9 => h9) rfl (ty := .int) rfl rfl rfl (Nat.le_of_ble_eq_true rfl) zM_i7 dX11_stage_2 (fun H locs hH => ?_)
  refine lv_aload_n hx hb dX11_stage_5 rfl (lv_at hl 0 rfl) ?_
  refine lv_iload_n hx hb dX11_stage_6 rfl (lv_at hl 1 rfl) ?_
  obtain ⟨u1, e2, h⟩ := zbd_s h
  refine z_calli (va_runV (As := [.int x1]) (rest := []) (z_fix C) (cM_X11_isCall l D cI q H.size x1 (zsI S 7 0) e2) (cwV 1 C.2.2.2.2.1 (zGV zk21_17 zk21_18 zk21_19 zk1_5 zk21_20) rfl rfl rfl yd_X11_isCall ⟨Nat.le_of_ble_eq_true rfl, Nat.le_of_ble_eq_true rfl⟩) (z_preV zNm0 hE hH zM_o rfl) rfl rfl hl.1 rfl (lv_room (Nat.le_of_ble_eq_true rfl)) dX11_stage_7 ⟨Nat.le_refl 0, Nat.le_refl 0⟩) hE hH (fun H locs hH => ?_)
  refine lv_if_eq (tgt := 20) hx hb dX11_stage_10 (by decide) (fun c3 => ?_) (fun c3 => ?_)
  · replace h := zif_t c3 h
    refine lv_iconst (v := (-1)) hx hb dX11_stage_20 (by decide) ?_
    cases h
    exact z_iret C hE hH dX11_stage_21
  · replace h := zif_f c3 h
    refine lv_aload_n hx hb dX11_stage_13 rfl (lv_at hl 0 rfl) ?_
    obtain ⟨u4, e5, h⟩ := zbd_s h
    refine z_calli (va_runV (As := []) (rest := []) (z_fix C) (cM_X11_findStages l D cI q H.size  (zsI S 7 0) e5) (cwV 0 C.2.2.2.2.1 (zGV zk35_5 zk35_6 zk35_7 zk1_5 zk35_8) rfl rfl rfl yd_X11_findStages ⟨Nat.le_of_ble_eq_true rfl, Nat.le_of_ble_eq_true rfl⟩) (z_preV zNm0 hE hH zM_o rfl) rfl rfl hl.1 rfl (lv_room (Nat.le_of_ble_eq_true rfl)) dX11_stage_14 ⟨Nat.le_refl 0, Nat.le_refl 0⟩) hE hH (fun H locs hH => ?_)
    refine lv_if_ne (tgt := 22) hx hb dX11_stage_17 (by decide) (fun c6 => ?_) (fun c6 => ?_)
    · replace h := zif_f c6 h
      refine lv_aload_n hx hb dX11_stage_22 rfl (lv_at hl 0 rfl) ?_
      obtain ⟨u7, e8, h⟩ := zbd_s h
      refine z_calli (va_runV (As := []) (rest := []) (z_fix C) (cM_X11_firstShelf l D cI q H.size  u4.2 e8) (cwV 0 C.2.2.2.2.1 (zGV zk35_18 zk35_19 zk35_20 zk1_5 zk35_21) rfl rfl rfl yd_X11_firstShelf ⟨Nat.le_of_ble_eq_true rfl, Nat.le_of_ble_eq_true rfl⟩) (z_preV zNm0 hE hH zM_o rfl) rfl rfl hl.1 rfl (lv_room (Nat.le_of_ble_eq_true rfl)) dX11_stage_23 ⟨Nat.le_refl 0, Nat.le_refl 0⟩) hE hH (fun H locs hH => ?_)
      refine lv_istore_n (lv' := [(2, .int u7), (0, .ref (q 32)), (1, .int x1)]) hx hb dX11_stage_26 rfl hl (by decide) rfl (fun ls hl => ?_)
      refine lv_iconst (v := 0) hx hb dX11_stage_27 (by decide) ?_
      refine lv_istore_n (lv' := [(3, .int 0), (2, .int u7), (0, .ref (q 32)), (1, .int x1)]) hx hb dX11_stage_28 rfl hl (by decide) rfl (fun ls hl => ?_)
      exact bM_X11_stage_29 C hE   1000 x1 u7 0 u4.2 H locs ls hH (lv_sub hl [2, 3, 1, 0] rfl) h
    · replace h := zif_t c6 h
      refine lv_iconst (v := (-1)) hx hb dX11_stage_20 (by decide) ?_
      cases h
      exact z_iret C hE hH dX11_stage_21
set_option maxHeartbeats 4000000 in
set_option maxRecDepth 100000 in
theorem cM_X11_stage (l : Launch) (D : va_G) (cI : ClassId) (q : Nat → Nat) (sz : Nat) (x1 : Int32) (S : zSt) {res : Int32 × zSt} (h : fM_X11_stage x1 S = some res) : zMi l yX11_stage vsX11_stage rmM_X11_stage [.ref (q 32), .int x1] D (zwM cI q) [(cI, .int)] [] sz S res.1 res.2 := by
  refine Met.ofW (cc := cX11_stage) (maxL := 4) (ret := (some .int)) (by decide) rfl ?_
  intro p e s m args below meth c s₁ B hml hv
  obtain ⟨rfl, rfl, hP, hK, hD0, hN⟩ := hv
  have hl := lv_entry ([.ref (q 32), .int x1]) (n := 4) (Nat.le_of_ble_eq_true rfl)
  rw [lg_entry_eq]
  generalize (lg_sl ([.ref (q 32), .int x1]) ++ List.replicate (4 - (lg_sl ([.ref (q 32), .int x1])).length) Slot.unset).toArray = ls at hl ⊢
  exact bM_X11_stage ⟨B.exec, B.bytes, hml, findClass_of_methodNamed B.named, fun w h => atoms_spec (ws := vsX11_stage) B.pre w (List.mem_cons_of_mem _ h), B.returns, B.notSynchronized⟩ ⟨hK, fun q h => Or.inr h, hN⟩ x1 S s.heap [] ls ⟨hP, hD0.self, va_S.rf⟩ hl  h
def rmM_X11_count : Room := { frames := 6, cells := 0, slots := 0, locals := 149 }
set_option maxHeartbeats 4000000 in
set_option maxRecDepth 100000 in
theorem bM_X11_count_69 {p : Program} {l : Launch} {e : Env} {s : State} {m : MethodId} {args : Array Value} {below : List Frame} {meth : Method} {c : Code} {D : va_G} {cI : ClassId} {q : Nat → Nat} {A : Nat → Prop} {res : Int32 × zSt} (C : zCX p s m args meth c cX11_count 2 (some .int) zU RX11) (hE : zE D [(cI, .int)] [] A s) (S : zSt) (H : Heap) (locs : List Loc) (ls : Array Slot) (hH : zH D (zwM cI q) A s S H locs) (hl : lv_has ls 2 []) (h : fM_X11_count_69   S = some res) : W p l e rmM_X11_count s m args below meth c H locs 0 0 (zQi below D (zwM cI q) [(cI, .int)] A args s res.1 res.2) (F0 m 69 ls []) := by
  have hx := C.1
  have hb := C.2.1
  unfold fM_X11_count_69 at h
  refine lv_iconst (v := 0) hx hb dX11_count_69 (by decide) ?_
  refine lv_goto (tgt := 82) hx hb dX11_count_70 (by decide) ?_
  cases h
  exact z_iret C hE hH dX11_count_82
set_option maxHeartbeats 4000000 in
set_option maxRecDepth 100000 in
theorem bM_X11_count_121 {p : Program} {l : Launch} {e : Env} {s : State} {m : MethodId} {args : Array Value} {below : List Frame} {meth : Method} {c : Code} {D : va_G} {cI : ClassId} {q : Nat → Nat} {A : Nat → Prop} {res : Int32 × zSt} (C : zCX p s m args meth c cX11_count 2 (some .int) zU RX11) (hE : zE D [(cI, .int)] [] A s) (t0 t1 : Int32) (S : zSt) (H : Heap) (locs : List Loc) (ls : Array Slot) (hH : zH D (zwM cI q) A s S H locs) (hl : lv_has ls 2 []) (h : fM_X11_count_121  t0 t1 S = some res) : W p l e rmM_X11_count s m args below meth c H locs 0 0 (zQi below D (zwM cI q) [(cI, .int)] A args s res.1 res.2) (F0 m 121 ls [.int t1, .int t0]) := by
  have hx := C.1
  have hb := C.2.1
  unfold fM_X11_count_121 at h
  refine lv_iadd hx hb dX11_count_121 ?_
  cases h
  exact z_iret C hE hH dX11_count_122
set_option maxHeartbeats 4000000 in
set_option maxRecDepth 100000 in
theorem bM_X11_count_107 {p : Program} {l : Launch} {e : Env} {s : State} {m : MethodId} {args : Array Value} {below : List Frame} {meth : Method} {c : Code} {D : va_G} {cI : ClassId} {q : Nat → Nat} {A : Nat → Prop} {res : Int32 × zSt} (C : zCX p s m args meth c cX11_count 2 (some .int) zU RX11) (hE : zE D [(cI, .int)] [] A s) (t0 t1 : Int32) (S : zSt) (H : Heap) (locs : List Loc) (ls : Array Slot) (hH : zH D (zwM cI q) A s S H locs) (hl : lv_has ls 2 [(0, .ref (q 32))]) (h : fM_X11_count_107  t0 t1 S = some res) : W p l e rmM_X11_count s m args below meth c H locs 0 0 (zQi below D (zwM cI q) [(cI, .int)] A args s res.1 res.2) (F0 m 107 ls [.int t1, .int t0]) := by
  have hx := C.1
  have hb := C.2.1
  unfold fM_X11_count_107 at h
  refine lv_iadd hx hb dX11_count_107 ?_
  refine lv_aload_n hx hb dX11_count_108 rfl (lv_at hl 0 rfl) ?_
  obtain ⟨u1, e2, h⟩ := zbd_s h
  refine z_calli (va_runV (As := []) (rest := [.int (t0 + t1)]) (z_fix C) (cM_X11_hasFirst l D cI q H.size  S e2) (cwV 0 C.2.2.2.2.1 (zGV zk32_0 zk32_1 zk32_2 zk1_5 zk32_3) rfl rfl rfl yd_X11_hasFirst ⟨Nat.le_of_ble_eq_true rfl, Nat.le_of_ble_eq_true rfl⟩) (z_preV zNm0 hE hH zM_o rfl) rfl rfl hl.1 rfl (lv_room (Nat.le_of_ble_eq_true rfl)) dX11_count_109 ⟨Nat.le_refl 0, Nat.le_refl 0⟩) hE hH (fun H locs hH => ?_)
  refine lv_if_eq (tgt := 120) hx hb dX11_count_112 (by decide) (fun c3 => ?_) (fun c3 => ?_)
  · replace h := zif_t c3 h
    refine lv_iconst (v := 0) hx hb dX11_count_120 (by decide) ?_
    exact bM_X11_count_121 C hE   (t0 + t1) 0 S H locs ls hH (lv_sub hl [] rfl) h
  · replace h := zif_f c3 h
    refine lv_bipush (v := 8) hx hb dX11_count_115 (by decide) ?_
    refine lv_goto (tgt := 121) hx hb dX11_count_117 (by decide) ?_
    exact bM_X11_count_121 C hE   (t0 + t1) 8 S H locs ls hH (lv_sub hl [] rfl) h
set_option maxHeartbeats 4000000 in
set_option maxRecDepth 100000 in
theorem bM_X11_count_95 {p : Program} {l : Launch} {e : Env} {s : State} {m : MethodId} {args : Array Value} {below : List Frame} {meth : Method} {c : Code} {D : va_G} {cI : ClassId} {q : Nat → Nat} {A : Nat → Prop} {res : Int32 × zSt} (C : zCX p s m args meth c cX11_count 2 (some .int) zU RX11) (hE : zE D [(cI, .int)] [] A s) (t0 : Int32) (S : zSt) (H : Heap) (locs : List Loc) (ls : Array Slot) (hH : zH D (zwM cI q) A s S H locs) (hl : lv_has ls 2 [(0, .ref (q 32))]) (h : fM_X11_count_95  t0 S = some res) : W p l e rmM_X11_count s m args below meth c H locs 0 0 (zQi below D (zwM cI q) [(cI, .int)] A args s res.1 res.2) (F0 m 95 ls [.int t0]) := by
  have hx := C.1
  have hb := C.2.1
  unfold fM_X11_count_95 at h
  refine lv_aload_n hx hb dX11_count_95 rfl (lv_at hl 0 rfl) ?_
  refine z_get C hE hH zM_o rfl zh_X11 4 (by decide) zk20_20 (fun _ h9 => h9) (v := .int (S.1 4)) rfl dX11_count_96 ?_
  refine lv_if_eq (tgt := 106) hx hb dX11_count_99 (by decide) (fun c1 => ?_) (fun c1 => ?_)
  · replace h := zif_t c1 h
    refine lv_iconst (v := 0) hx hb dX11_count_106 (by decide) ?_
    exact bM_X11_count_107 C hE   t0 0 S H locs ls hH (lv_sub hl [0] rfl) h
  · replace h := zif_f c1 h
    refine lv_iconst (v := 4) hx hb dX11_count_102 (by decide) ?_
    refine lv_goto (tgt := 107) hx hb dX11_count_103 (by decide) ?_
    exact bM_X11_count_107 C hE   t0 4 S H locs ls hH (lv_sub hl [0] rfl) h
set_option maxHeartbeats 4000000 in
set_option maxRecDepth 100000 in
theorem bM_X11_count {p : Program} {l : Launch} {e : Env} {s : State} {m : MethodId} {args : Array Value} {below : List Frame} {meth : Method} {c : Code} {D : va_G} {cI : ClassId} {q : Nat → Nat} {A : Nat → Prop} {res : Int32 × zSt} (C : zCX p s m args meth c cX11_count 2 (some .int) zU RX11) (hE : zE D [(cI, .int)] [] A s) (x1 : Int32) (S : zSt) (H : Heap) (locs : List Loc) (ls : Array Slot) (hH : zH D (zwM cI q) A s S H locs) (hl : lv_has ls 2 [(0, .ref (q 32)), (1, .int x1)]) (h : fM_X11_count  x1 S = some res) : W p l e rmM_X11_count s m args below meth c H locs 0 0 (zQi below D (zwM cI q) [(cI, .int)] A args s res.1 res.2) (F0 m 0 ls []) := by
  have hx := C.1
  have hb := C.2.1
  unfold fM_X11_count at h
  refine lv_aload_n hx hb dX11_count_0 rfl (lv_at hl 0 rfl) ?_
  refine lv_iconst (v := 0) hx hb dX11_count_1 (by decide) ?_
  refine z_put C hE hH zM_o rfl zh_X11 tyX11_ok nmX11 7 (by decide) zk17_17 (fun _ h9 => h9) rfl (ty := .int) rfl rfl rfl (Nat.le_of_ble_eq_true rfl) zM_i7 dX11_count_2 (fun H locs hH => ?_)
  refine lv_iload_n hx hb dX11_count_5 rfl (lv_at hl 1 rfl) ?_
  by_cases c1_0 : x1 = 0
  · replace h := zif_t c1_0 h
    refine lv_tableIn (tgt := 40) hx hb dX11_count_6 (by rw [c1_0]; decide) (by rw [c1_0]; decide) (by rw [c1_0]; rfl) (by decide) ?_
    refine lv_aload_n hx hb dX11_count_40 rfl (lv_at hl 0 rfl) ?_
    refine z_get C hE hH zM_o rfl zh_X11 2 (by decide) zk17_18 (fun _ h9 => h9) (v := .int (S.1 2)) rfl dX11_count_41 ?_
    cases h
    exact z_iret C hE hH dX11_count_44
  · replace h := zif_f c1_0 h
    by_cases c1_1 : x1 = 1
    · replace h := zif_t c1_1 h
      refine lv_tableIn (tgt := 45) hx hb dX11_count_6 (by rw [c1_1]; decide) (by rw [c1_1]; decide) (by rw [c1_1]; rfl) (by decide) ?_
      refine lv_aload_n hx hb dX11_count_45 rfl (lv_at hl 0 rfl) ?_
      refine z_get C hE hH zM_o rfl zh_X11 5 (by decide) zk5_15 (fun _ h9 => h9) (v := .int (S.1 5)) rfl dX11_count_46 ?_
      cases h
      exact z_iret C hE hH dX11_count_49
    · replace h := zif_f c1_1 h
      by_cases c1_2 : x1 = 2
      · replace h := zif_t c1_2 h
        refine lv_tableIn (tgt := 50) hx hb dX11_count_6 (by rw [c1_2]; decide) (by rw [c1_2]; decide) (by rw [c1_2]; rfl) (by decide) ?_
        refine lv_aload_n hx hb dX11_count_50 rfl (lv_at hl 0 rfl) ?_
        refine z_get C hE hH zM_o rfl zh_X11 6 (by decide) zk5_16 (fun _ h9 => h9) (v := .int (S.1 6)) rfl dX11_count_51 ?_
        cases h
        exact z_iret C hE hH dX11_count_54
      · replace h := zif_f c1_2 h
        by_cases c1_3 : x1 = 3
        · replace h := zif_t c1_3 h
          refine lv_tableIn (tgt := 55) hx hb dX11_count_6 (by rw [c1_3]; decide) (by rw [c1_3]; decide) (by rw [c1_3]; rfl) (by decide) ?_
          refine lv_aload_n hx hb dX11_count_55 rfl (lv_at hl 0 rfl) ?_
          refine z_get C hE hH zM_o rfl zh_X11 2 (by decide) zk17_18 (fun _ h9 => h9) (v := .int (S.1 2)) rfl dX11_count_56 ?_
          refine lv_if_eq (tgt := 69) hx hb dX11_count_59 (by decide) (fun c2 => ?_) (fun c2 => ?_)
          · replace h := zif_t c2 h
            exact bM_X11_count_69 C hE   (zsI S 7 0) H locs ls hH (lv_sub hl [] rfl) h
          · replace h := zif_f c2 h
            refine lv_aload_n hx hb dX11_count_62 rfl (lv_at hl 0 rfl) ?_
            obtain ⟨u3, e4, h⟩ := zbd_s h
            refine z_calli (va_runV (As := []) (rest := []) (z_fix C) (cM_X11_findStages l D cI q H.size  (zsI S 7 0) e4) (cwV 0 C.2.2.2.2.1 (zGV zk35_5 zk35_6 zk35_7 zk1_5 zk35_8) rfl rfl rfl yd_X11_findStages ⟨Nat.le_of_ble_eq_true rfl, Nat.le_of_ble_eq_true rfl⟩) (z_preV zNm0 hE hH zM_o rfl) rfl rfl hl.1 rfl (lv_room (Nat.le_of_ble_eq_true rfl)) dX11_count_63 ⟨Nat.le_refl 0, Nat.le_refl 0⟩) hE hH (fun H locs hH => ?_)
            refine lv_if_ne (tgt := 73) hx hb dX11_count_66 (by decide) (fun c5 => ?_) (fun c5 => ?_)
            · replace h := zif_f c5 h
              refine lv_aload_n hx hb dX11_count_73 rfl (lv_at hl 0 rfl) ?_
              refine z_get C hE hH zM_o rfl zh_X11 27 (by decide) zk6_7 (fun _ h9 => h9) (v := .ref (q 27)) rfl dX11_count_74 ?_
              refine lv_aload_n hx hb dX11_count_77 rfl (lv_at hl 0 rfl) ?_
              obtain ⟨u6, e7, h⟩ := zbd_s h
              refine z_calli (va_runV (As := []) (rest := [.ref (q 27)]) (z_fix C) (cM_X11_firstShelf l D cI q H.size  u3.2 e7) (cwV 0 C.2.2.2.2.1 (zGV zk35_18 zk35_19 zk35_20 zk1_5 zk35_21) rfl rfl rfl yd_X11_firstShelf ⟨Nat.le_of_ble_eq_true rfl, Nat.le_of_ble_eq_true rfl⟩) (z_preV zNm0 hE hH zM_o rfl) rfl rfl hl.1 rfl (lv_room (Nat.le_of_ble_eq_true rfl)) dX11_count_78 ⟨Nat.le_refl 0, Nat.le_refl 0⟩) hE hH (fun H locs hH => ?_)
              obtain ⟨g8, h⟩ := zgd_s h
              refine z_iald C hE hH zM_a27 (t0 := 0) rfl g8 dX11_count_81 ?_
              cases h
              exact z_iret C hE hH dX11_count_82
            · replace h := zif_t c5 h
              exact bM_X11_count_69 C hE   u3.2 H locs ls hH (lv_sub hl [] rfl) h
        · replace h := zif_f c1_3 h
          by_cases c1_4 : x1 = 4
          · replace h := zif_t c1_4 h
            refine lv_tableIn (tgt := 83) hx hb dX11_count_6 (by rw [c1_4]; decide) (by rw [c1_4]; decide) (by rw [c1_4]; rfl) (by decide) ?_
            refine lv_aload_n hx hb dX11_count_83 rfl (lv_at hl 0 rfl) ?_
            refine z_get C hE hH zM_o rfl zh_X11 3 (by decide) zk20_19 (fun _ h9 => h9) (v := .int (S.1 3)) rfl dX11_count_84 ?_
            refine lv_if_eq (tgt := 94) hx hb dX11_count_87 (by decide) (fun c9 => ?_) (fun c9 => ?_)
            · replace h := zif_t c9 h
              refine lv_iconst (v := 0) hx hb dX11_count_94 (by decide) ?_
              exact bM_X11_count_95 C hE   0 (zsI S 7 0) H locs ls hH (lv_sub hl [0] rfl) h
            · replace h := zif_f c9 h
              refine lv_iconst (v := 2) hx hb dX11_count_90 (by decide) ?_
              refine lv_goto (tgt := 95) hx hb dX11_count_91 (by decide) ?_
              exact bM_X11_count_95 C hE   2 (zsI S 7 0) H locs ls hH (lv_sub hl [0] rfl) h
          · replace h := zif_f c1_4 h
            have ec1_0 : ¬ (x1).toInt = 0 := zsw_ne c1_0
            have ec1_1 : ¬ (x1).toInt = 1 := zsw_ne c1_1
            have ec1_2 : ¬ (x1).toInt = 2 := zsw_ne c1_2
            have ec1_3 : ¬ (x1).toInt = 3 := zsw_ne c1_3
            have ec1_4 : ¬ (x1).toInt = 4 := zsw_ne c1_4
            refine lv_tableOut (tgt := 123) hx hb dX11_count_6 (by omega) (by decide) ?_
            refine lv_iconst (v := (-1)) hx hb dX11_count_123 (by decide) ?_
            cases h
            exact z_iret C hE hH dX11_count_124
set_option maxHeartbeats 4000000 in
set_option maxRecDepth 100000 in
theorem cM_X11_count (l : Launch) (D : va_G) (cI : ClassId) (q : Nat → Nat) (sz : Nat) (x1 : Int32) (S : zSt) {res : Int32 × zSt} (h : fM_X11_count x1 S = some res) : zMi l yX11_count vsX11_count rmM_X11_count [.ref (q 32), .int x1] D (zwM cI q) [(cI, .int)] [] sz S res.1 res.2 := by
  refine Met.ofW (cc := cX11_count) (maxL := 2) (ret := (some .int)) (by decide) rfl ?_
  intro p e s m args below meth c s₁ B hml hv
  obtain ⟨rfl, rfl, hP, hK, hD0, hN⟩ := hv
  have hl := lv_entry ([.ref (q 32), .int x1]) (n := 2) (Nat.le_of_ble_eq_true rfl)
  rw [lg_entry_eq]
  generalize (lg_sl ([.ref (q 32), .int x1]) ++ List.replicate (2 - (lg_sl ([.ref (q 32), .int x1])).length) Slot.unset).toArray = ls at hl ⊢
  exact bM_X11_count ⟨B.exec, B.bytes, hml, findClass_of_methodNamed B.named, fun w h => atoms_spec (ws := vsX11_count) B.pre w (List.mem_cons_of_mem _ h), B.returns, B.notSynchronized⟩ ⟨hK, fun q h => Or.inr h, hN⟩ x1 S s.heap [] ls ⟨hP, hD0.self, va_S.rf⟩ hl  h

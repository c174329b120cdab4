theorem zyd_X10_call : yX10_call.cls = RX10 ∧ yX10_call.cls ≠ "java/lang/invoke/MethodHandle" ∧ yX10_call.cls ≠ "java/lang/invoke/VarHandle" ∧ (parseMethodDescriptor yX10_call.desc).map (fun d => d.parameters.length) = some 2 := by decide +kernel
theorem zyd_X11_call : yX11_call.cls = RX11 ∧ yX11_call.cls ≠ "java/lang/invoke/MethodHandle" ∧ yX11_call.cls ≠ "java/lang/invoke/VarHandle" ∧ (parseMethodDescriptor yX11_call.desc).map (fun d => d.parameters.length) = some 2 := by decide +kernel
theorem zyd_X10_draw : yX10_draw.cls = RX10 ∧ yX10_draw.cls ≠ "java/lang/invoke/MethodHandle" ∧ yX10_draw.cls ≠ "java/lang/invoke/VarHandle" ∧ (parseMethodDescriptor yX10_draw.desc).map (fun d => d.parameters.length) = some 4 := by decide +kernel
theorem zyd_X11_draw : yX11_draw.cls = RX11 ∧ yX11_draw.cls ≠ "java/lang/invoke/MethodHandle" ∧ yX11_draw.cls ≠ "java/lang/invoke/VarHandle" ∧ (parseMethodDescriptor yX11_draw.desc).map (fun d => d.parameters.length) = some 4 := by decide +kernel
theorem zyd_X10_drop : yX10_drop.cls = RX10 ∧ yX10_drop.cls ≠ "java/lang/invoke/MethodHandle" ∧ yX10_drop.cls ≠ "java/lang/invoke/VarHandle" ∧ (parseMethodDescriptor yX10_drop.desc).map (fun d => d.parameters.length) = some 1 := by decide +kernel
theorem zyd_X11_drop : yX11_drop.cls = RX11 ∧ yX11_drop.cls ≠ "java/lang/invoke/MethodHandle" ∧ yX11_drop.cls ≠ "java/lang/invoke/VarHandle" ∧ (parseMethodDescriptor yX11_drop.desc).map (fun d => d.parameters.length) = some 1 := by decide +kernel
theorem zyd_X10_law : yX10_law.cls = RX10 ∧ yX10_law.cls ≠ "java/lang/invoke/MethodHandle" ∧ yX10_law.cls ≠ "java/lang/invoke/VarHandle" ∧ (parseMethodDescriptor yX10_law.desc).map (fun d => d.parameters.length) = some 2 := by decide +kernel
theorem zyd_X11_law : yX11_law.cls = RX11 ∧ yX11_law.cls ≠ "java/lang/invoke/MethodHandle" ∧ yX11_law.cls ≠ "java/lang/invoke/VarHandle" ∧ (parseMethodDescriptor yX11_law.desc).map (fun d => d.parameters.length) = some 2 := by decide +kernel
theorem zyd_X10_set : yX10_set.cls = RX10 ∧ yX10_set.cls ≠ "java/lang/invoke/MethodHandle" ∧ yX10_set.cls ≠ "java/lang/invoke/VarHandle" ∧ (parseMethodDescriptor yX10_set.desc).map (fun d => d.parameters.length) = some 2 := by decide +kernel
theorem zyd_X11_set : yX11_set.cls = RX11 ∧ yX11_set.cls ≠ "java/lang/invoke/MethodHandle" ∧ yX11_set.cls ≠ "java/lang/invoke/VarHandle" ∧ (parseMethodDescriptor yX11_set.desc).map (fun d => d.parameters.length) = some 2 := by decide +kernel
theorem zyd_X10_told : yX10_told.cls = RX10 ∧ yX10_told.cls ≠ "java/lang/invoke/MethodHandle" ∧ yX10_told.cls ≠ "java/lang/invoke/VarHandle" ∧ (parseMethodDescriptor yX10_told.desc).map (fun d => d.parameters.length) = some 2 := by decide +kernel
theorem zyd_X11_told : yX11_told.cls = RX11 ∧ yX11_told.cls ≠ "java/lang/invoke/MethodHandle" ∧ yX11_told.cls ≠ "java/lang/invoke/VarHandle" ∧ (parseMethodDescriptor yX11_told.desc).map (fun d => d.parameters.length) = some 2 := by decide +kernel
theorem zyd_X10_cost : yX10_cost.cls = RX10 ∧ yX10_cost.cls ≠ "java/lang/invoke/MethodHandle" ∧ yX10_cost.cls ≠ "java/lang/invoke/VarHandle" ∧ (parseMethodDescriptor yX10_cost.desc).map (fun d => d.parameters.length) = some 2 := by decide +kernel
theorem zyd_X11_cost : yX11_cost.cls = RX11 ∧ yX11_cost.cls ≠ "java/lang/invoke/MethodHandle" ∧ yX11_cost.cls ≠ "java/lang/invoke/VarHandle" ∧ (parseMethodDescriptor yX11_cost.desc).map (fun d => d.parameters.length) = some 2 := by decide +kernel
theorem zyd_X10_key : yX10_key.cls = RX10 ∧ yX10_key.cls ≠ "java/lang/invoke/MethodHandle" ∧ yX10_key.cls ≠ "java/lang/invoke/VarHandle" ∧ (parseMethodDescriptor yX10_key.desc).map (fun d => d.parameters.length) = some 2 := by decide +kernel
theorem zyd_X11_key : yX11_key.cls = RX11 ∧ yX11_key.cls ≠ "java/lang/invoke/MethodHandle" ∧ yX11_key.cls ≠ "java/lang/invoke/VarHandle" ∧ (parseMethodDescriptor yX11_key.desc).map (fun d => d.parameters.length) = some 2 := by decide +kernel
theorem zyd_X10_sum : yX10_sum.cls = RX10 ∧ yX10_sum.cls ≠ "java/lang/invoke/MethodHandle" ∧ yX10_sum.cls ≠ "java/lang/invoke/VarHandle" ∧ (parseMethodDescriptor yX10_sum.desc).map (fun d => d.parameters.length) = some 2 := by decide +kernel
theorem zyd_X11_sum : yX11_sum.cls = RX11 ∧ yX11_sum.cls ≠ "java/lang/invoke/MethodHandle" ∧ yX11_sum.cls ≠ "java/lang/invoke/VarHandle" ∧ (parseMethodDescriptor yX11_sum.desc).map (fun d => d.parameters.length) = some 2 := by decide +kernel
theorem zyd_X10_best : yX10_best.cls = RX10 ∧ yX10_best.cls ≠ "java/lang/invoke/MethodHandle" ∧ yX10_best.cls ≠ "java/lang/invoke/VarHandle" ∧ (parseMethodDescriptor yX10_best.desc).map (fun d => d.parameters.length) = some 2 := by decide +kernel
theorem zyd_X11_best : yX11_best.cls = RX11 ∧ yX11_best.cls ≠ "java/lang/invoke/MethodHandle" ∧ yX11_best.cls ≠ "java/lang/invoke/VarHandle" ∧ (parseMethodDescriptor yX11_best.desc).map (fun d => d.parameters.length) = some 2 := by decide +kernel
theorem zyd_X10_drift : yX10_drift.cls = RX10 ∧ yX10_drift.cls ≠ "java/lang/invoke/MethodHandle" ∧ yX10_drift.cls ≠ "java/lang/invoke/VarHandle" ∧ (parseMethodDescriptor yX10_drift.desc).map (fun d => d.parameters.length) = some 3 := by decide +kernel
theorem zyd_X11_drift : yX11_drift.cls = RX11 ∧ yX11_drift.cls ≠ "java/lang/invoke/MethodHandle" ∧ yX11_drift.cls ≠ "java/lang/invoke/VarHandle" ∧ (parseMethodDescriptor yX11_drift.desc).map (fun d => d.parameters.length) = some 3 := by decide +kernel
theorem zyd_X10_stages : yX10_stages.cls = RX10 ∧ yX10_stages.cls ≠ "java/lang/invoke/MethodHandle" ∧ yX10_stages.cls ≠ "java/lang/invoke/VarHandle" ∧ (parseMethodDescriptor yX10_stages.desc).map (fun d => d.parameters.length) = some 0 := by decide +kernel
theorem zyd_X11_stages : yX11_stages.cls = RX11 ∧ yX11_stages.cls ≠ "java/lang/invoke/MethodHandle" ∧ yX11_stages.cls ≠ "java/lang/invoke/VarHandle" ∧ (parseMethodDescriptor yX11_stages.desc).map (fun d => d.parameters.length) = some 0 := by decide +kernel
theorem zyd_X10_stage : yX10_stage.cls = RX10 ∧ yX10_stage.cls ≠ "java/lang/invoke/MethodHandle" ∧ yX10_stage.cls ≠ "java/lang/invoke/VarHandle" ∧ (parseMethodDescriptor yX10_stage.desc).map (fun d => d.parameters.length) = some 1 := by decide +kernel
theorem zyd_X11_stage : yX11_stage.cls = RX11 ∧ yX11_stage.cls ≠ "java/lang/invoke/MethodHandle" ∧ yX11_stage.cls ≠ "java/lang/invoke/VarHandle" ∧ (parseMethodDescriptor yX11_stage.desc).map (fun d => d.parameters.length) = some 1 := by decide +kernel
theorem zyd_X10_count : yX10_count.cls = RX10 ∧ yX10_count.cls ≠ "java/lang/invoke/MethodHandle" ∧ yX10_count.cls ≠ "java/lang/invoke/VarHandle" ∧ (parseMethodDescriptor yX10_count.desc).map (fun d => d.parameters.length) = some 1 := by decide +kernel
theorem zyd_X11_count : yX11_count.cls = RX11 ∧ yX11_count.cls ≠ "java/lang/invoke/MethodHandle" ∧ yX11_count.cls ≠ "java/lang/invoke/VarHandle" ∧ (parseMethodDescriptor yX11_count.desc).map (fun d => d.parameters.length) = some 1 := by decide +kernel
theorem zyd_X11_answer : yX11_answer.cls = RX11 ∧ yX11_answer.cls ≠ "java/lang/invoke/MethodHandle" ∧ yX11_answer.cls ≠ "java/lang/invoke/VarHandle" ∧ (parseMethodDescriptor yX11_answer.desc).map (fun d => d.parameters.length) = some 1 := by decide +kernel
theorem zyd_X11_thrown : yX11_thrown.cls = RX11 ∧ yX11_thrown.cls ≠ "java/lang/invoke/MethodHandle" ∧ yX11_thrown.cls ≠ "java/lang/invoke/VarHandle" ∧ (parseMethodDescriptor yX11_thrown.desc).map (fun d => d.parameters.length) = some 0 := by decide +kernel
set_option maxHeartbeats 4000000 in
set_option maxRecDepth 100000 in
theorem zlc_call {p : Program} {l : Launch} {e : Env} {s : State} {m : MethodId} {below : List Frame} {meth : Method} {c : Code} {H : Heap} {locs : List Loc} {cells slots : Nat} {Q : State → Prop} {ls : Array Slot} {D : va_G} {cI cS cW cL : ClassId} {q q2 : Nat → Nat} {qo b L i : Nat} {xs : Nat → Int32} {SX SM : zSt} {f : Nat → Int64} (Z : zLs p l s m b meth c L xs D cI cS cW cL q q2 qo) (hi : i + 5 ≤ L) (hT : zTp SX SM) (hH : zLw D cI cS cW cL q q2 qo s SX SM f H locs) (hc : cells + 1 ≤ 601024) (hs : slots + 6 ≤ 7293034) (hl : lv_has ls 7 (zLl b q q2 qo i)) (kk : zLk p l e s m below meth c (cells + 1) (slots + 6) Q D cI cS cW cL q q2 qo b i) : W p l e room_1 s m #[.ref b] below meth c H locs cells slots Q (F0 m 112 ls []) := by
  have C := zLs_C Z
  have hx := C.1
  have hb := C.2.1
  have hX := Z.2.2.1.1
  have hbl := Z.2.2.1.2.1
  have hL := Z.2.2.1.2.2
  have hbA : ¬ (fun x : Nat => s.heap.size ≤ x) b := Nat.not_le.mpr hbl
  have EX := zLs_EX Z
  have EM := zLs_EM Z
  have hf0 : cells + 0 ≤ room_1.cells ∧ slots + 0 ≤ room_1.slots := ⟨by show cells + 0 ≤ 601024; omega, by show slots + 0 ≤ 7293034; omega⟩
  obtain ⟨r, SX9, SM9, ex, em, hT⟩ := zt_call hT (xs (nI i + nI 1).toNatClampNeg) (xs (nI i + nI 2).toNatClampNeg)
  refine lv_aload_n hx hb dL_law_112 rfl (lv_at hl 1 rfl) ?_
  refine lv_aload_n hx hb dL_law_113 rfl (lv_at hl 0 rfl) ?_
  refine lv_iload hx hb dL_law_114 (lv_at hl 4 rfl) ?_
  refine lv_iconst (v := nI 1) hx hb dL_law_116 (by decide) ?_
  refine lv_iadd hx hb dL_law_117 ?_
  refine va_sld hx hb hX hbl hbA hH.2.2.2 (zs_in (k := 1) (by omega) hL) dL_law_118 ?_
  refine lv_aload_n hx hb dL_law_119 rfl (lv_at hl 0 rfl) ?_
  refine lv_iload hx hb dL_law_120 (lv_at hl 4 rfl) ?_
  refine lv_iconst (v := nI 2) hx hb dL_law_122 (by decide) ?_
  refine lv_iadd hx hb dL_law_123 ?_
  refine va_sld hx hb hX hbl hbA hH.2.2.2 (zs_in (k := 2) (by omega) hL) dL_law_124 ?_
  refine zl_x (r9 := r) (S9 := SX9) Z hH (va_runV (As := [.int (xs (nI i + nI 1).toNatClampNeg), .int (xs (nI i + nI 2).toNatClampNeg)]) (rest := []) (z_fix C) (cX_X10_call l D cI cS cW q H.size (xs (nI i + nI 1).toNatClampNeg) (xs (nI i + nI 2).toNatClampNeg) SX ex) (cwV 2 C.2.2.2.2.1 (zGV zv_X10_call_1 zv_X10_call_2 zv_X10_call_3 zl_X zv_X10_call_4) rfl rfl rfl zyd_X10_call ⟨Nat.le_of_ble_eq_true rfl, Nat.le_of_ble_eq_true rfl⟩) (z_preV (zNmX EX) EX (zLw_X Z hH) zX_o6 rfl) rfl rfl hl.1 rfl (lv_room (Nat.le_of_ble_eq_true rfl)) dL_law_125 hf0) (fun H locs hH => ?_)
  refine lv_aload_n hx hb dL_law_128 rfl (lv_at hl 2 rfl) ?_
  refine lv_aload_n hx hb dL_law_129 rfl (lv_at hl 0 rfl) ?_
  refine lv_iload hx hb dL_law_130 (lv_at hl 4 rfl) ?_
  refine lv_iconst (v := nI 1) hx hb dL_law_132 (by decide) ?_
  refine lv_iadd hx hb dL_law_133 ?_
  refine va_sld hx hb hX hbl hbA hH.2.2.2 (zs_in (k := 1) (by omega) hL) dL_law_134 ?_
  refine lv_aload_n hx hb dL_law_135 rfl (lv_at hl 0 rfl) ?_
  refine lv_iload hx hb dL_law_136 (lv_at hl 4 rfl) ?_
  refine lv_iconst (v := nI 2) hx hb dL_law_138 (by decide) ?_
  refine lv_iadd hx hb dL_law_139 ?_
  refine va_sld hx hb hX hbl hbA hH.2.2.2 (zs_in (k := 2) (by omega) hL) dL_law_140 ?_
  refine zl_m (r9 := r) (S9 := SM9) Z hH (va_runV (As := [.int (xs (nI i + nI 1).toNatClampNeg), .int (xs (nI i + nI 2).toNatClampNeg)]) (rest := [.int r]) (z_fix C) (cM_X11_call l D cI q2 H.size (xs (nI i + nI 1).toNatClampNeg) (xs (nI i + nI 2).toNatClampNeg) SM em) (cwV 2 C.2.2.2.2.1 (zGV zv_X11_call_1 zv_X11_call_2 zv_X11_call_3 zl_M zv_X11_call_4) rfl rfl rfl zyd_X11_call ⟨Nat.le_of_ble_eq_true rfl, Nat.le_of_ble_eq_true rfl⟩) (z_preV zNm0 EM (zLw_M Z hH) zM_o rfl) rfl rfl hl.1 rfl (lv_room (Nat.le_of_ble_eq_true rfl)) dL_law_141 hf0) (fun H locs hH => ?_)
  refine lv_icmp_eq (tgt := 678) hx hb dL_law_144 (by decide) (fun _ => ?_) (fun c1 => absurd rfl c1)
  exact W.widen (k := cells + 1) (n := slots + 6) (by omega) (by omega) (kk ls SX9 SM9 f H locs hl hT hH)
set_option maxHeartbeats 4000000 in
set_option maxRecDepth 100000 in
theorem zlc_draw {p : Program} {l : Launch} {e : Env} {s : State} {m : MethodId} {below : List Frame} {meth : Method} {c : Code} {H : Heap} {locs : List Loc} {cells slots : Nat} {Q : State → Prop} {ls : Array Slot} {D : va_G} {cI cS cW cL : ClassId} {q q2 : Nat → Nat} {qo b L i : Nat} {xs : Nat → Int32} {SX SM : zSt} {f : Nat → Int64} (Z : zLs p l s m b meth c L xs D cI cS cW cL q q2 qo) (hi : i + 5 ≤ L) (hT : zTp SX SM) (hH : zLw D cI cS cW cL q q2 qo s SX SM f H locs) (hc : cells + 1 ≤ 601024) (hs : slots + 6 ≤ 7293034) (hl : lv_has ls 7 (zLl b q q2 qo i)) (kk : zLk p l e s m below meth c (cells + 1) (slots + 6) Q D cI cS cW cL q q2 qo b i) : W p l e room_1 s m #[.ref b] below meth c H locs cells slots Q (F0 m 149 ls []) := by
  have C := zLs_C Z
  have hx := C.1
  have hb := C.2.1
  have hX := Z.2.2.1.1
  have hbl := Z.2.2.1.2.1
  have hL := Z.2.2.1.2.2
  have hbA : ¬ (fun x : Nat => s.heap.size ≤ x) b := Nat.not_le.mpr hbl
  have EX := zLs_EX Z
  have EM := zLs_EM Z
  have hf0 : cells + 0 ≤ room_1.cells ∧ slots + 0 ≤ room_1.slots := ⟨by show cells + 0 ≤ 601024; omega, by show slots + 0 ≤ 7293034; omega⟩
  obtain ⟨r, SX9, SM9, ex, em, hT⟩ := zt_draw hT (xs (nI i + nI 1).toNatClampNeg) (xs (nI i + nI 2).toNatClampNeg) (xs (nI i + nI 3).toNatClampNeg) (xs (nI i + nI 4).toNatClampNeg)
  refine lv_aload_n hx hb dL_law_149 rfl (lv_at hl 1 rfl) ?_
  refine lv_aload_n hx hb dL_law_150 rfl (lv_at hl 0 rfl) ?_
  refine lv_iload hx hb dL_law_151 (lv_at hl 4 rfl) ?_
  refine lv_iconst (v := nI 1) hx hb dL_law_153 (by decide) ?_
  refine lv_iadd hx hb dL_law_154 ?_
  refine va_sld hx hb hX hbl hbA hH.2.2.2 (zs_in (k := 1) (by omega) hL) dL_law_155 ?_
  refine lv_aload_n hx hb dL_law_156 rfl (lv_at hl 0 rfl) ?_
  refine lv_iload hx hb dL_law_157 (lv_at hl 4 rfl) ?_
  refine lv_iconst (v := nI 2) hx hb dL_law_159 (by decide) ?_
  refine lv_iadd hx hb dL_law_160 ?_
  refine va_sld hx hb hX hbl hbA hH.2.2.2 (zs_in (k := 2) (by omega) hL) dL_law_161 ?_
  refine lv_aload_n hx hb dL_law_162 rfl (lv_at hl 0 rfl) ?_
  refine lv_iload hx hb dL_law_163 (lv_at hl 4 rfl) ?_
  refine lv_iconst (v := nI 3) hx hb dL_law_165 (by decide) ?_
  refine lv_iadd hx hb dL_law_166 ?_
  refine va_sld hx hb hX hbl hbA hH.2.2.2 (zs_in (k := 3) (by omega) hL) dL_law_167 ?_
  refine lv_aload_n hx hb dL_law_168 rfl (lv_at hl 0 rfl) ?_
  refine lv_iload hx hb dL_law_169 (lv_at hl 4 rfl) ?_
  refine lv_iconst (v := nI 4) hx hb dL_law_171 (by decide) ?_
  refine lv_iadd hx hb dL_law_172 ?_
  refine va_sld hx hb hX hbl hbA hH.2.2.2 (zs_in (k := 4) (by omega) hL) dL_law_173 ?_
  refine zl_x (r9 := r) (S9 := SX9) Z hH (va_runV (As := [.int (xs (nI i + nI 1).toNatClampNeg), .int (xs (nI i + nI 2).toNatClampNeg), .int (xs (nI i + nI 3).toNatClampNeg), .int (xs (nI i + nI 4).toNatClampNeg)]) (rest := []) (z_fix C) (cX_X10_draw l D cI cS cW q H.size (xs (nI i + nI 1).toNatClampNeg) (xs (nI i + nI 2).toNatClampNeg) (xs (nI i + nI 3).toNatClampNeg) (xs (nI i + nI 4).toNatClampNeg) SX ex) (cwV 4 C.2.2.2.2.1 (zGV zv_X10_draw_1 zv_X10_draw_2 zv_X10_draw_3 zl_X zv_X10_draw_4) rfl rfl rfl zyd_X10_draw ⟨Nat.le_of_ble_eq_true rfl, Nat.le_of_ble_eq_true rfl⟩) (z_preV (zNmX EX) EX (zLw_X Z hH) zX_o6 rfl) rfl rfl hl.1 rfl (lv_room (Nat.le_of_ble_eq_true rfl)) dL_law_174 hf0) (fun H locs hH => ?_)
  refine lv_aload_n hx hb dL_law_177 rfl (lv_at hl 2 rfl) ?_
  refine lv_aload_n hx hb dL_law_178 rfl (lv_at hl 0 rfl) ?_
  refine lv_iload hx hb dL_law_179 (lv_at hl 4 rfl) ?_
  refine lv_iconst (v := nI 1) hx hb dL_law_181 (by decide) ?_
  refine lv_iadd hx hb dL_law_182 ?_
  refine va_sld hx hb hX hbl hbA hH.2.2.2 (zs_in (k := 1) (by omega) hL) dL_law_183 ?_
  refine lv_aload_n hx hb dL_law_184 rfl (lv_at hl 0 rfl) ?_
  refine lv_iload hx hb dL_law_185 (lv_at hl 4 rfl) ?_
  refine lv_iconst (v := nI 2) hx hb dL_law_187 (by decide) ?_
  refine lv_iadd hx hb dL_law_188 ?_
  refine va_sld hx hb hX hbl hbA hH.2.2.2 (zs_in (k := 2) (by omega) hL) dL_law_189 ?_
  refine lv_aload_n hx hb dL_law_190 rfl (lv_at hl 0 rfl) ?_
  refine lv_iload hx hb dL_law_191 (lv_at hl 4 rfl) ?_
  refine lv_iconst (v := nI 3) hx hb dL_law_193 (by decide) ?_
  refine lv_iadd hx hb dL_law_194 ?_
  refine va_sld hx hb hX hbl hbA hH.2.2.2 (zs_in (k := 3) (by omega) hL) dL_law_195 ?_
  refine lv_aload_n hx hb dL_law_196 rfl (lv_at hl 0 rfl) ?_
  refine lv_iload hx hb dL_law_197 (lv_at hl 4 rfl) ?_
  refine lv_iconst (v := nI 4) hx hb dL_law_199 (by decide) ?_
  refine lv_iadd hx hb dL_law_200 ?_
  refine va_sld hx hb hX hbl hbA hH.2.2.2 (zs_in (k := 4) (by omega) hL) dL_law_201 ?_
  refine zl_m (r9 := r) (S9 := SM9) Z hH (va_runV (As := [.int (xs (nI i + nI 1).toNatClampNeg), .int (xs (nI i + nI 2).toNatClampNeg), .int (xs (nI i + nI 3).toNatClampNeg), .int (xs (nI i + nI 4).toNatClampNeg)]) (rest := [.int r]) (z_fix C) (cM_X11_draw l D cI q2 H.size (xs (nI i + nI 1).toNatClampNeg) (xs (nI i + nI 2).toNatClampNeg) (xs (nI i + nI 3).toNatClampNeg) (xs (nI i + nI 4).toNatClampNeg) SM em) (cwV 4 C.2.2.2.2.1 (zGV zv_X11_draw_1 zv_X11_draw_2 zv_X11_draw_3 zl_M zv_X11_draw_4) rfl rfl rfl zyd_X11_draw ⟨Nat.le_of_ble_eq_true rfl, Nat.le_of_ble_eq_true rfl⟩) (z_preV zNm0 EM (zLw_M Z hH) zM_o rfl) rfl rfl hl.1 rfl (lv_room (Nat.le_of_ble_eq_true rfl)) dL_law_202 hf0) (fun H locs hH => ?_)
  refine lv_icmp_eq (tgt := 678) hx hb dL_law_205 (by decide) (fun _ => ?_) (fun c1 => absurd rfl c1)
  exact W.widen (k := cells + 1) (n := slots + 6) (by omega) (by omega) (kk ls SX9 SM9 f H locs hl hT hH)
set_option maxHeartbeats 4000000 in
set_option maxRecDepth 100000 in
theorem zlc_drop {p : Program} {l : Launch} {e : Env} {s : State} {m : MethodId} {below : List Frame} {meth : Method} {c : Code} {H : Heap} {locs : List Loc} {cells slots : Nat} {Q : State → Prop} {ls : Array Slot} {D : va_G} {cI cS cW cL : ClassId} {q q2 : Nat → Nat} {qo b L i : Nat} {xs : Nat → Int32} {SX SM : zSt} {f : Nat → Int64} (Z : zLs p l s m b meth c L xs D cI cS cW cL q q2 qo) (hi : i + 5 ≤ L) (hT : zTp SX SM) (hH : zLw D cI cS cW cL q q2 qo s SX SM f H locs) (hc : cells + 1 ≤ 601024) (hs : slots + 6 ≤ 7293034) (hl : lv_has ls 7 (zLl b q q2 qo i)) (kk : zLk p l e s m below meth c (cells + 1) (slots + 6) Q D cI cS cW cL q q2 qo b i) : W p l e room_1 s m #[.ref b] below meth c H locs cells slots Q (F0 m 210 ls []) := by
  have C := zLs_C Z
  have hx := C.1
  have hb := C.2.1
  have hX := Z.2.2.1.1
  have hbl := Z.2.2.1.2.1
  have hL := Z.2.2.1.2.2
  have hbA : ¬ (fun x : Nat => s.heap.size ≤ x) b := Nat.not_le.mpr hbl
  have EX := zLs_EX Z
  have EM := zLs_EM Z
  have hf0 : cells + 0 ≤ room_1.cells ∧ slots + 0 ≤ room_1.slots := ⟨by show cells + 0 ≤ 601024; omega, by show slots + 0 ≤ 7293034; omega⟩
  obtain ⟨r, SX9, SM9, ex, em, hT⟩ := zt_drop hT (xs (nI i + nI 1).toNatClampNeg)
  refine lv_aload_n hx hb dL_law_210 rfl (lv_at hl 1 rfl) ?_
  refine lv_aload_n hx hb dL_law_211 rfl (lv_at hl 0 rfl) ?_
  refine lv_iload hx hb dL_law_212 (lv_at hl 4 rfl) ?_
  refine lv_iconst (v := nI 1) hx hb dL_law_214 (by decide) ?_
  refine lv_iadd hx hb dL_law_215 ?_
  refine va_sld hx hb hX hbl hbA hH.2.2.2 (zs_in (k := 1) (by omega) hL) dL_law_216 ?_
  refine zl_x (r9 := r) (S9 := SX9) Z hH (va_runV (As := [.int (xs (nI i + nI 1).toNatClampNeg)]) (rest := []) (z_fix C) (cX_X10_drop l D cI cS cW q H.size (xs (nI i + nI 1).toNatClampNeg) SX ex) (cwV 1 C.2.2.2.2.1 (zGV zv_X10_drop_1 zv_X10_drop_2 zv_X10_drop_3 zl_X zv_X10_drop_4) rfl rfl rfl zyd_X10_drop ⟨Nat.le_of_ble_eq_true rfl, Nat.le_of_ble_eq_true rfl⟩) (z_preV (zNmX EX) EX (zLw_X Z hH) zX_o6 rfl) rfl rfl hl.1 rfl (lv_room (Nat.le_of_ble_eq_true rfl)) dL_law_217 hf0) (fun H locs hH => ?_)
  refine lv_aload_n hx hb dL_law_220 rfl (lv_at hl 2 rfl) ?_
  refine lv_aload_n hx hb dL_law_221 rfl (lv_at hl 0 rfl) ?_
  refine lv_iload hx hb dL_law_222 (lv_at hl 4 rfl) ?_
  refine lv_iconst (v := nI 1) hx hb dL_law_224 (by decide) ?_
  refine lv_iadd hx hb dL_law_225 ?_
  refine va_sld hx hb hX hbl hbA hH.2.2.2 (zs_in (k := 1) (by omega) hL) dL_law_226 ?_
  refine zl_m (r9 := r) (S9 := SM9) Z hH (va_runV (As := [.int (xs (nI i + nI 1).toNatClampNeg)]) (rest := [.int r]) (z_fix C) (cM_X11_drop l D cI q2 H.size (xs (nI i + nI 1).toNatClampNeg) SM em) (cwV 1 C.2.2.2.2.1 (zGV zv_X11_drop_1 zv_X11_drop_2 zv_X11_drop_3 zl_M zv_X11_drop_4) rfl rfl rfl zyd_X11_drop ⟨Nat.le_of_ble_eq_true rfl, Nat.le_of_ble_eq_true rfl⟩) (z_preV zNm0 EM (zLw_M Z hH) zM_o rfl) rfl rfl hl.1 rfl (lv_room (Nat.le_of_ble_eq_true rfl)) dL_law_227 hf0) (fun H locs hH => ?_)
  refine lv_icmp_eq (tgt := 678) hx hb dL_law_230 (by decide) (fun _ => ?_) (fun c1 => absurd rfl c1)
  exact W.widen (k := cells + 1) (n := slots + 6) (by omega) (by omega) (kk ls SX9 SM9 f H locs hl hT hH)
set_option maxHeartbeats 4000000 in
set_option maxRecDepth 100000 in
theorem zlc_set {p : Program} {l : Launch} {e : Env} {s : State} {m : MethodId} {below : List Frame} {meth : Method} {c : Code} {H : Heap} {locs : List Loc} {cells slots : Nat} {Q : State → Prop} {ls : Array Slot} {D : va_G} {cI cS cW cL : ClassId} {q q2 : Nat → Nat} {qo b L i : Nat} {xs : Nat → Int32} {SX SM : zSt} {f : Nat → Int64} (Z : zLs p l s m b meth c L xs D cI cS cW cL q q2 qo) (hi : i + 5 ≤ L) (hT : zTp SX SM) (hH : zLw D cI cS cW cL q q2 qo s SX SM f H locs) (hc : cells + 1 ≤ 601024) (hs : slots + 6 ≤ 7293034) (hl : lv_has ls 7 (zLl b q q2 qo i)) (kk : zLk p l e s m below meth c (cells + 1) (slots + 6) Q D cI cS cW cL q q2 qo b i) : W p l e room_1 s m #[.ref b] below meth c H locs cells slots Q (F0 m 288 ls []) := by
  have C := zLs_C Z
  have hx := C.1
  have hb := C.2.1
  have hX := Z.2.2.1.1
  have hbl := Z.2.2.1.2.1
  have hL := Z.2.2.1.2.2
  have hbA : ¬ (fun x : Nat => s.heap.size ≤ x) b := Nat.not_le.mpr hbl
  have EX := zLs_EX Z
  have EM := zLs_EM Z
  have hf0 : cells + 0 ≤ room_1.cells ∧ slots + 0 ≤ room_1.slots := ⟨by show cells + 0 ≤ 601024; omega, by show slots + 0 ≤ 7293034; omega⟩
  obtain ⟨r, SX9, SM9, ex, em, hT⟩ := zt_set hT (xs (nI i + nI 1).toNatClampNeg) (xs (nI i + nI 2).toNatClampNeg)
  refine lv_aload_n hx hb dL_law_288 rfl (lv_at hl 1 rfl) ?_
  refine lv_aload_n hx hb dL_law_289 rfl (lv_at hl 0 rfl) ?_
  refine lv_iload hx hb dL_law_290 (lv_at hl 4 rfl) ?_
  refine lv_iconst (v := nI 1) hx hb dL_law_292 (by decide) ?_
  refine lv_iadd hx hb dL_law_293 ?_
  refine va_sld hx hb hX hbl hbA hH.2.2.2 (zs_in (k := 1) (by omega) hL) dL_law_294 ?_
  refine lv_aload_n hx hb dL_law_295 rfl (lv_at hl 0 rfl) ?_
  refine lv_iload hx hb dL_law_296 (lv_at hl 4 rfl) ?_
  refine lv_iconst (v := nI 2) hx hb dL_law_298 (by decide) ?_
  refine lv_iadd hx hb dL_law_299 ?_
  refine va_sld hx hb hX hbl hbA hH.2.2.2 (zs_in (k := 2) (by omega) hL) dL_law_300 ?_
  refine zl_x (r9 := r) (S9 := SX9) Z hH (va_runV (As := [.int (xs (nI i + nI 1).toNatClampNeg), .int (xs (nI i + nI 2).toNatClampNeg)]) (rest := []) (z_fix C) (cX_X10_set l D cI cS cW q H.size (xs (nI i + nI 1).toNatClampNeg) (xs (nI i + nI 2).toNatClampNeg) SX ex) (cwV 2 C.2.2.2.2.1 (zGV zv_X10_set_1 zv_X10_set_2 zv_X10_set_3 zl_X zv_X10_set_4) rfl rfl rfl zyd_X10_set ⟨Nat.le_of_ble_eq_true rfl, Nat.le_of_ble_eq_true rfl⟩) (z_preV (zNmX EX) EX (zLw_X Z hH) zX_o6 rfl) rfl rfl hl.1 rfl (lv_room (Nat.le_of_ble_eq_true rfl)) dL_law_301 hf0) (fun H locs hH => ?_)
  refine lv_aload_n hx hb dL_law_304 rfl (lv_at hl 2 rfl) ?_
  refine lv_aload_n hx hb dL_law_305 rfl (lv_at hl 0 rfl) ?_
  refine lv_iload hx hb dL_law_306 (lv_at hl 4 rfl) ?_
  refine lv_iconst (v := nI 1) hx hb dL_law_308 (by decide) ?_
  refine lv_iadd hx hb dL_law_309 ?_
  refine va_sld hx hb hX hbl hbA hH.2.2.2 (zs_in (k := 1) (by omega) hL) dL_law_310 ?_
  refine lv_aload_n hx hb dL_law_311 rfl (lv_at hl 0 rfl) ?_
  refine lv_iload hx hb dL_law_312 (lv_at hl 4 rfl) ?_
  refine lv_iconst (v := nI 2) hx hb dL_law_314 (by decide) ?_
  refine lv_iadd hx hb dL_law_315 ?_
  refine va_sld hx hb hX hbl hbA hH.2.2.2 (zs_in (k := 2) (by omega) hL) dL_law_316 ?_
  refine zl_m (r9 := r) (S9 := SM9) Z hH (va_runV (As := [.int (xs (nI i + nI 1).toNatClampNeg), .int (xs (nI i + nI 2).toNatClampNeg)]) (rest := [.int r]) (z_fix C) (cM_X11_set l D cI q2 H.size (xs (nI i + nI 1).toNatClampNeg) (xs (nI i + nI 2).toNatClampNeg) SM em) (cwV 2 C.2.2.2.2.1 (zGV zv_X11_set_1 zv_X11_set_2 zv_X11_set_3 zl_M zv_X11_set_4) rfl rfl rfl zyd_X11_set ⟨Nat.le_of_ble_eq_true rfl, Nat.le_of_ble_eq_true rfl⟩) (z_preV zNm0 EM (zLw_M Z hH) zM_o rfl) rfl rfl hl.1 rfl (lv_room (Nat.le_of_ble_eq_true rfl)) dL_law_317 hf0) (fun H locs hH => ?_)
  refine lv_icmp_eq (tgt := 678) hx hb dL_law_320 (by decide) (fun _ => ?_) (fun c1 => absurd rfl c1)
  exact W.widen (k := cells + 1) (n := slots + 6) (by omega) (by omega) (kk ls SX9 SM9 f H locs hl hT hH)
set_option maxHeartbeats 4000000 in
set_option maxRecDepth 100000 in
theorem zlc_told {p : Program} {l : Launch} {e : Env} {s : State} {m : MethodId} {below : List Frame} {meth : Method} {c : Code} {H : Heap} {locs : List Loc} {cells slots : Nat} {Q : State → Prop} {ls : Array Slot} {D : va_G} {cI cS cW cL : ClassId} {q q2 : Nat → Nat} {qo b L i : Nat} {xs : Nat → Int32} {SX SM : zSt} {f : Nat → Int64} (Z : zLs p l s m b meth c L xs D cI cS cW cL q q2 qo) (hi : i + 5 ≤ L) (hT : zTp SX SM) (hH : zLw D cI cS cW cL q q2 qo s SX SM f H locs) (hc : cells + 1 ≤ 601024) (hs : slots + 6 ≤ 7293034) (hl : lv_has ls 7 (zLl b q q2 qo i)) (kk : zLk p l e s m below meth c (cells + 1) (slots + 6) Q D cI cS cW cL q q2 qo b i) : W p l e room_1 s m #[.ref b] below meth c H locs cells slots Q (F0 m 325 ls []) := by
  have C := zLs_C Z
  have hx := C.1
  have hb := C.2.1
  have hX := Z.2.2.1.1
  have hbl := Z.2.2.1.2.1
  have hL := Z.2.2.1.2.2
  have hbA : ¬ (fun x : Nat => s.heap.size ≤ x) b := Nat.not_le.mpr hbl
  have EX := zLs_EX Z
  have EM := zLs_EM Z
  have hf0 : cells + 0 ≤ room_1.cells ∧ slots + 0 ≤ room_1.slots := ⟨by show cells + 0 ≤ 601024; omega, by show slots + 0 ≤ 7293034; omega⟩
  obtain ⟨r, SM9, ex, em, hT⟩ := zt_told hT (xs (nI i + nI 1).toNatClampNeg) (xs (nI i + nI 2).toNatClampNeg)
  refine lv_aload_n hx hb dL_law_325 rfl (lv_at hl 1 rfl) ?_
  refine lv_aload_n hx hb dL_law_326 rfl (lv_at hl 0 rfl) ?_
  refine lv_iload hx hb dL_law_327 (lv_at hl 4 rfl) ?_
  refine lv_iconst (v := nI 1) hx hb dL_law_329 (by decide) ?_
  refine lv_iadd hx hb dL_law_330 ?_
  refine va_sld hx hb hX hbl hbA hH.2.2.2 (zs_in (k := 1) (by omega) hL) dL_law_331 ?_
  refine lv_aload_n hx hb dL_law_332 rfl (lv_at hl 0 rfl) ?_
  refine lv_iload hx hb dL_law_333 (lv_at hl 4 rfl) ?_
  refine lv_iconst (v := nI 2) hx hb dL_law_335 (by decide) ?_
  refine lv_iadd hx hb dL_law_336 ?_
  refine va_sld hx hb hX hbl hbA hH.2.2.2 (zs_in (k := 2) (by omega) hL) dL_law_337 ?_
  refine zl_x (r9 := r) (S9 := SX) Z hH (va_runV (As := [.int (xs (nI i + nI 1).toNatClampNeg), .int (xs (nI i + nI 2).toNatClampNeg)]) (rest := []) (z_fix C) (cX_X10_told l D cI cS cW q H.size (xs (nI i + nI 1).toNatClampNeg) (xs (nI i + nI 2).toNatClampNeg) SX ex) (cwV 2 C.2.2.2.2.1 (zGV zv_X10_told_1 zv_X10_told_2 zv_X10_told_3 zl_X zv_X10_told_4) rfl rfl rfl zyd_X10_told ⟨Nat.le_of_ble_eq_true rfl, Nat.le_of_ble_eq_true rfl⟩) (z_preV (zNmX EX) EX (zLw_X Z hH) zX_o6 rfl) rfl rfl hl.1 rfl (lv_room (Nat.le_of_ble_eq_true rfl)) dL_law_338 hf0) (fun H locs hH => ?_)
  refine lv_aload_n hx hb dL_law_341 rfl (lv_at hl 2 rfl) ?_
  refine lv_aload_n hx hb dL_law_342 rfl (lv_at hl 0 rfl) ?_
  refine lv_iload hx hb dL_law_343 (lv_at hl 4 rfl) ?_
  refine lv_iconst (v := nI 1) hx hb dL_law_345 (by decide) ?_
  refine lv_iadd hx hb dL_law_346 ?_
  refine va_sld hx hb hX hbl hbA hH.2.2.2 (zs_in (k := 1) (by omega) hL) dL_law_347 ?_
  refine lv_aload_n hx hb dL_law_348 rfl (lv_at hl 0 rfl) ?_
  refine lv_iload hx hb dL_law_349 (lv_at hl 4 rfl) ?_
  refine lv_iconst (v := nI 2) hx hb dL_law_351 (by decide) ?_
  refine lv_iadd hx hb dL_law_352 ?_
  refine va_sld hx hb hX hbl hbA hH.2.2.2 (zs_in (k := 2) (by omega) hL) dL_law_353 ?_
  refine zl_m (r9 := r) (S9 := SM9) Z hH (va_runV (As := [.int (xs (nI i + nI 1).toNatClampNeg), .int (xs (nI i + nI 2).toNatClampNeg)]) (rest := [.int r]) (z_fix C) (cM_X11_told l D cI q2 H.size (xs (nI i + nI 1).toNatClampNeg) (xs (nI i + nI 2).toNatClampNeg) SM em) (cwV 2 C.2.2.2.2.1 (zGV zv_X11_told_1 zv_X11_told_2 zv_X11_told_3 zl_M zv_X11_told_4) rfl rfl rfl zyd_X11_told ⟨Nat.le_of_ble_eq_true rfl, Nat.le_of_ble_eq_true rfl⟩) (z_preV zNm0 EM (zLw_M Z hH) zM_o rfl) rfl rfl hl.1 rfl (lv_room (Nat.le_of_ble_eq_true rfl)) dL_law_354 hf0) (fun H locs hH => ?_)
  refine lv_icmp_eq (tgt := 678) hx hb dL_law_357 (by decide) (fun _ => ?_) (fun c1 => absurd rfl c1)
  exact W.widen (k := cells + 1) (n := slots + 6) (by omega) (by omega) (kk ls SX SM9 f H locs hl hT hH)
set_option maxHeartbeats 4000000 in
set_option maxRecDepth 100000 in
theorem zlc_cost {p : Program} {l : Launch} {e : Env} {s : State} {m : MethodId} {below : List Frame} {meth : Method} {c : Code} {H : Heap} {locs : List Loc} {cells slots : Nat} {Q : State → Prop} {ls : Array Slot} {D : va_G} {cI cS cW cL : ClassId} {q q2 : Nat → Nat} {qo b L i : Nat} {xs : Nat → Int32} {SX SM : zSt} {f : Nat → Int64} (Z : zLs p l s m b meth c L xs D cI cS cW cL q q2 qo) (hi : i + 5 ≤ L) (hT : zTp SX SM) (hH : zLw D cI cS cW cL q q2 qo s SX SM f H locs) (hc : cells + 1 ≤ 601024) (hs : slots + 6 ≤ 7293034) (hl : lv_has ls 7 (zLl b q q2 qo i)) (kk : zLk p l e s m below meth c (cells + 1) (slots + 6) Q D cI cS cW cL q q2 qo b i) : W p l e room_1 s m #[.ref b] below meth c H locs cells slots Q (F0 m 418 ls []) := by
  have C := zLs_C Z
  have hx := C.1
  have hb := C.2.1
  have hX := Z.2.2.1.1
  have hbl := Z.2.2.1.2.1
  have hL := Z.2.2.1.2.2
  have hbA : ¬ (fun x : Nat => s.heap.size ≤ x) b := Nat.not_le.mpr hbl
  have EX := zLs_EX Z
  have EM := zLs_EM Z
  have hf0 : cells + 0 ≤ room_1.cells ∧ slots + 0 ≤ room_1.slots := ⟨by show cells + 0 ≤ 601024; omega, by show slots + 0 ≤ 7293034; omega⟩
  obtain ⟨r, SM9, ex, em, hT⟩ := zt_cost hT (xs (nI i + nI 1).toNatClampNeg) (xs (nI i + nI 2).toNatClampNeg)
  refine lv_aload_n hx hb dL_law_418 rfl (lv_at hl 1 rfl) ?_
  refine lv_aload_n hx hb dL_law_419 rfl (lv_at hl 0 rfl) ?_
  refine lv_iload hx hb dL_law_420 (lv_at hl 4 rfl) ?_
  refine lv_iconst (v := nI 1) hx hb dL_law_422 (by decide) ?_
  refine lv_iadd hx hb dL_law_423 ?_
  refine va_sld hx hb hX hbl hbA hH.2.2.2 (zs_in (k := 1) (by omega) hL) dL_law_424 ?_
  refine lv_aload_n hx hb dL_law_425 rfl (lv_at hl 0 rfl) ?_
  refine lv_iload hx hb dL_law_426 (lv_at hl 4 rfl) ?_
  refine lv_iconst (v := nI 2) hx hb dL_law_428 (by decide) ?_
  refine lv_iadd hx hb dL_law_429 ?_
  refine va_sld hx hb hX hbl hbA hH.2.2.2 (zs_in (k := 2) (by omega) hL) dL_law_430 ?_
  refine zl_x (r9 := r) (S9 := SX) Z hH (va_runV (As := [.int (xs (nI i + nI 1).toNatClampNeg), .int (xs (nI i + nI 2).toNatClampNeg)]) (rest := []) (z_fix C) (cX_X10_cost l D cI cS cW q H.size (xs (nI i + nI 1).toNatClampNeg) (xs (nI i + nI 2).toNatClampNeg) SX ex) (cwV 2 C.2.2.2.2.1 (zGV zv_X10_cost_1 zv_X10_cost_2 zv_X10_cost_3 zl_X zv_X10_cost_4) rfl rfl rfl zyd_X10_cost ⟨Nat.le_of_ble_eq_true rfl, Nat.le_of_ble_eq_true rfl⟩) (z_preV (zNmX EX) EX (zLw_X Z hH) zX_o6 rfl) rfl rfl hl.1 rfl (lv_room (Nat.le_of_ble_eq_true rfl)) dL_law_431 hf0) (fun H locs hH => ?_)
  refine lv_aload_n hx hb dL_law_434 rfl (lv_at hl 2 rfl) ?_
  refine lv_aload_n hx hb dL_law_435 rfl (lv_at hl 0 rfl) ?_
  refine lv_iload hx hb dL_law_436 (lv_at hl 4 rfl) ?_
  refine lv_iconst (v := nI 1) hx hb dL_law_438 (by decide) ?_
  refine lv_iadd hx hb dL_law_439 ?_
  refine va_sld hx hb hX hbl hbA hH.2.2.2 (zs_in (k := 1) (by omega) hL) dL_law_440 ?_
  refine lv_aload_n hx hb dL_law_441 rfl (lv_at hl 0 rfl) ?_
  refine lv_iload hx hb dL_law_442 (lv_at hl 4 rfl) ?_
  refine lv_iconst (v := nI 2) hx hb dL_law_444 (by decide) ?_
  refine lv_iadd hx hb dL_law_445 ?_
  refine va_sld hx hb hX hbl hbA hH.2.2.2 (zs_in (k := 2) (by omega) hL) dL_law_446 ?_
  refine zl_m (r9 := r) (S9 := SM9) Z hH (va_runV (As := [.int (xs (nI i + nI 1).toNatClampNeg), .int (xs (nI i + nI 2).toNatClampNeg)]) (rest := [.int r]) (z_fix C) (cM_X11_cost l D cI q2 H.size (xs (nI i + nI 1).toNatClampNeg) (xs (nI i + nI 2).toNatClampNeg) SM em) (cwV 2 C.2.2.2.2.1 (zGV zv_X11_cost_1 zv_X11_cost_2 zv_X11_cost_3 zl_M zv_X11_cost_4) rfl rfl rfl zyd_X11_cost ⟨Nat.le_of_ble_eq_true rfl, Nat.le_of_ble_eq_true rfl⟩) (z_preV zNm0 EM (zLw_M Z hH) zM_o rfl) rfl rfl hl.1 rfl (lv_room (Nat.le_of_ble_eq_true rfl)) dL_law_447 hf0) (fun H locs hH => ?_)
  refine lv_icmp_eq (tgt := 678) hx hb dL_law_450 (by decide) (fun _ => ?_) (fun c1 => absurd rfl c1)
  exact W.widen (k := cells + 1) (n := slots + 6) (by omega) (by omega) (kk ls SX SM9 f H locs hl hT hH)
set_option maxHeartbeats 4000000 in
set_option maxRecDepth 100000 in
theorem zlc_key {p : Program} {l : Launch} {e : Env} {s : State} {m : MethodId} {below : List Frame} {meth : Method} {c : Code} {H : Heap} {locs : List Loc} {cells slots : Nat} {Q : State → Prop} {ls : Array Slot} {D : va_G} {cI cS cW cL : ClassId} {q q2 : Nat → Nat} {qo b L i : Nat} {xs : Nat → Int32} {SX SM : zSt} {f : Nat → Int64} (Z : zLs p l s m b meth c L xs D cI cS cW cL q q2 qo) (hi : i + 5 ≤ L) (hT : zTp SX SM) (hH : zLw D cI cS cW cL q q2 qo s SX SM f H locs) (hc : cells + 1 ≤ 601024) (hs : slots + 6 ≤ 7293034) (hl : lv_has ls 7 (zLl b q q2 qo i)) (kk : zLk p l e s m below meth c (cells + 1) (slots + 6) Q D cI cS cW cL q q2 qo b i) : W p l e room_1 s m #[.ref b] below meth c H locs cells slots Q (F0 m 455 ls []) := by
  have C := zLs_C Z
  have hx := C.1
  have hb := C.2.1
  have hX := Z.2.2.1.1
  have hbl := Z.2.2.1.2.1
  have hL := Z.2.2.1.2.2
  have hbA : ¬ (fun x : Nat => s.heap.size ≤ x) b := Nat.not_le.mpr hbl
  have EX := zLs_EX Z
  have EM := zLs_EM Z
  have hf0 : cells + 0 ≤ room_1.cells ∧ slots + 0 ≤ room_1.slots := ⟨by show cells + 0 ≤ 601024; omega, by show slots + 0 ≤ 7293034; omega⟩
  obtain ⟨r, SM9, ex, em, hT⟩ := zt_key hT (xs (nI i + nI 1).toNatClampNeg) (xs (nI i + nI 2).toNatClampNeg)
  refine lv_aload_n hx hb dL_law_455 rfl (lv_at hl 1 rfl) ?_
  refine lv_aload_n hx hb dL_law_456 rfl (lv_at hl 0 rfl) ?_
  refine lv_iload hx hb dL_law_457 (lv_at hl 4 rfl) ?_
  refine lv_iconst (v := nI 1) hx hb dL_law_459 (by decide) ?_
  refine lv_iadd hx hb dL_law_460 ?_
  refine va_sld hx hb hX hbl hbA hH.2.2.2 (zs_in (k := 1) (by omega) hL) dL_law_461 ?_
  refine lv_aload_n hx hb dL_law_462 rfl (lv_at hl 0 rfl) ?_
  refine lv_iload hx hb dL_law_463 (lv_at hl 4 rfl) ?_
  refine lv_iconst (v := nI 2) hx hb dL_law_465 (by decide) ?_
  refine lv_iadd hx hb dL_law_466 ?_
  refine va_sld hx hb hX hbl hbA hH.2.2.2 (zs_in (k := 2) (by omega) hL) dL_law_467 ?_
  refine zl_x (r9 := r) (S9 := SX) Z hH (va_runV (As := [.int (xs (nI i + nI 1).toNatClampNeg), .int (xs (nI i + nI 2).toNatClampNeg)]) (rest := []) (z_fix C) (cX_X10_key l D cI cS cW q H.size (xs (nI i + nI 1).toNatClampNeg) (xs (nI i + nI 2).toNatClampNeg) SX ex) (cwV 2 C.2.2.2.2.1 (zGV zv_X10_key_1 zv_X10_key_2 zv_X10_key_3 zl_X zv_X10_key_4) rfl rfl rfl zyd_X10_key ⟨Nat.le_of_ble_eq_true rfl, Nat.le_of_ble_eq_true rfl⟩) (z_preV (zNmX EX) EX (zLw_X Z hH) zX_o6 rfl) rfl rfl hl.1 rfl (lv_room (Nat.le_of_ble_eq_true rfl)) dL_law_468 hf0) (fun H locs hH => ?_)
  refine lv_aload_n hx hb dL_law_471 rfl (lv_at hl 2 rfl) ?_
  refine lv_aload_n hx hb dL_law_472 rfl (lv_at hl 0 rfl) ?_
  refine lv_iload hx hb dL_law_473 (lv_at hl 4 rfl) ?_
  refine lv_iconst (v := nI 1) hx hb dL_law_475 (by decide) ?_
  refine lv_iadd hx hb dL_law_476 ?_
  refine va_sld hx hb hX hbl hbA hH.2.2.2 (zs_in (k := 1) (by omega) hL) dL_law_477 ?_
  refine lv_aload_n hx hb dL_law_478 rfl (lv_at hl 0 rfl) ?_
  refine lv_iload hx hb dL_law_479 (lv_at hl 4 rfl) ?_
  refine lv_iconst (v := nI 2) hx hb dL_law_481 (by decide) ?_
  refine lv_iadd hx hb dL_law_482 ?_
  refine va_sld hx hb hX hbl hbA hH.2.2.2 (zs_in (k := 2) (by omega) hL) dL_law_483 ?_
  refine zl_m (r9 := r) (S9 := SM9) Z hH (va_runV (As := [.int (xs (nI i + nI 1).toNatClampNeg), .int (xs (nI i + nI 2).toNatClampNeg)]) (rest := [.int r]) (z_fix C) (cM_X11_key l D cI q2 H.size (xs (nI i + nI 1).toNatClampNeg) (xs (nI i + nI 2).toNatClampNeg) SM em) (cwV 2 C.2.2.2.2.1 (zGV zv_X11_key_1 zv_X11_key_2 zv_X11_key_3 zl_M zv_X11_key_4) rfl rfl rfl zyd_X11_key ⟨Nat.le_of_ble_eq_true rfl, Nat.le_of_ble_eq_true rfl⟩) (z_preV zNm0 EM (zLw_M Z hH) zM_o rfl) rfl rfl hl.1 rfl (lv_room (Nat.le_of_ble_eq_true rfl)) dL_law_484 hf0) (fun H locs hH => ?_)
  refine lv_icmp_eq (tgt := 678) hx hb dL_law_487 (by decide) (fun _ => ?_) (fun c1 => absurd rfl c1)
  exact W.widen (k := cells + 1) (n := slots + 6) (by omega) (by omega) (kk ls SX SM9 f H locs hl hT hH)
set_option maxHeartbeats 4000000 in
set_option maxRecDepth 100000 in
theorem zlc_sum {p : Program} {l : Launch} {e : Env} {s : State} {m : MethodId} {below : List Frame} {meth : Method} {c : Code} {H : Heap} {locs : List Loc} {cells slots : Nat} {Q : State → Prop} {ls : Array Slot} {D : va_G} {cI cS cW cL : ClassId} {q q2 : Nat → Nat} {qo b L i : Nat} {xs : Nat → Int32} {SX SM : zSt} {f : Nat → Int64} (Z : zLs p l s m b meth c L xs D cI cS cW cL q q2 qo) (hi : i + 5 ≤ L) (hT : zTp SX SM) (hH : zLw D cI cS cW cL q q2 qo s SX SM f H locs) (hc : cells + 1 ≤ 601024) (hs : slots + 6 ≤ 7293034) (hl : lv_has ls 7 (zLl b q q2 qo i)) (kk : zLk p l e s m below meth c (cells + 1) (slots + 6) Q D cI cS cW cL q q2 qo b i) : W p l e room_1 s m #[.ref b] below meth c H locs cells slots Q (F0 m 492 ls []) := by
  have C := zLs_C Z
  have hx := C.1
  have hb := C.2.1
  have hX := Z.2.2.1.1
  have hbl := Z.2.2.1.2.1
  have hL := Z.2.2.1.2.2
  have hbA : ¬ (fun x : Nat => s.heap.size ≤ x) b := Nat.not_le.mpr hbl
  have EX := zLs_EX Z
  have EM := zLs_EM Z
  have hf0 : cells + 0 ≤ room_1.cells ∧ slots + 0 ≤ room_1.slots := ⟨by show cells + 0 ≤ 601024; omega, by show slots + 0 ≤ 7293034; omega⟩
  obtain ⟨r, SM9, ex, em, hT⟩ := zt_sum hT (xs (nI i + nI 1).toNatClampNeg) (xs (nI i + nI 2).toNatClampNeg)
  refine lv_aload_n hx hb dL_law_492 rfl (lv_at hl 1 rfl) ?_
  refine lv_aload_n hx hb dL_law_493 rfl (lv_at hl 0 rfl) ?_
  refine lv_iload hx hb dL_law_494 (lv_at hl 4 rfl) ?_
  refine lv_iconst (v := nI 1) hx hb dL_law_496 (by decide) ?_
  refine lv_iadd hx hb dL_law_497 ?_
  refine va_sld hx hb hX hbl hbA hH.2.2.2 (zs_in (k := 1) (by omega) hL) dL_law_498 ?_
  refine lv_aload_n hx hb dL_law_499 rfl (lv_at hl 0 rfl) ?_
  refine lv_iload hx hb dL_law_500 (lv_at hl 4 rfl) ?_
  refine lv_iconst (v := nI 2) hx hb dL_law_502 (by decide) ?_
  refine lv_iadd hx hb dL_law_503 ?_
  refine va_sld hx hb hX hbl hbA hH.2.2.2 (zs_in (k := 2) (by omega) hL) dL_law_504 ?_
  refine zl_x (r9 := r) (S9 := SX) Z hH (va_runV (As := [.int (xs (nI i + nI 1).toNatClampNeg), .int (xs (nI i + nI 2).toNatClampNeg)]) (rest := []) (z_fix C) (cX_X10_sum l D cI cS cW q H.size (xs (nI i + nI 1).toNatClampNeg) (xs (nI i + nI 2).toNatClampNeg) SX ex) (cwV 2 C.2.2.2.2.1 (zGV zv_X10_sum_1 zv_X10_sum_2 zv_X10_sum_3 zl_X zv_X10_sum_4) rfl rfl rfl zyd_X10_sum ⟨Nat.le_of_ble_eq_true rfl, Nat.le_of_ble_eq_true rfl⟩) (z_preV (zNmX EX) EX (zLw_X Z hH) zX_o6 rfl) rfl rfl hl.1 rfl (lv_room (Nat.le_of_ble_eq_true rfl)) dL_law_505 hf0) (fun H locs hH => ?_)
  refine lv_aload_n hx hb dL_law_508 rfl (lv_at hl 2 rfl) ?_
  refine lv_aload_n hx hb dL_law_509 rfl (lv_at hl 0 rfl) ?_
  refine lv_iload hx hb dL_law_510 (lv_at hl 4 rfl) ?_
  refine lv_iconst (v := nI 1) hx hb dL_law_512 (by decide) ?_
  refine lv_iadd hx hb dL_law_513 ?_
  refine va_sld hx hb hX hbl hbA hH.2.2.2 (zs_in (k := 1) (by omega) hL) dL_law_514 ?_
  refine lv_aload_n hx hb dL_law_515 rfl (lv_at hl 0 rfl) ?_
  refine lv_iload hx hb dL_law_516 (lv_at hl 4 rfl) ?_
  refine lv_iconst (v := nI 2) hx hb dL_law_518 (by decide) ?_
  refine lv_iadd hx hb dL_law_519 ?_
  refine va_sld hx hb hX hbl hbA hH.2.2.2 (zs_in (k := 2) (by omega) hL) dL_law_520 ?_
  refine zl_m (r9 := r) (S9 := SM9) Z hH (va_runV (As := [.int (xs (nI i + nI 1).toNatClampNeg), .int (xs (nI i + nI 2).toNatClampNeg)]) (rest := [.int r]) (z_fix C) (cM_X11_sum l D cI q2 H.size (xs (nI i + nI 1).toNatClampNeg) (xs (nI i + nI 2).toNatClampNeg) SM em) (cwV 2 C.2.2.2.2.1 (zGV zv_X11_sum_1 zv_X11_sum_2 zv_X11_sum_3 zl_M zv_X11_sum_4) rfl rfl rfl zyd_X11_sum ⟨Nat.le_of_ble_eq_true rfl, Nat.le_of_ble_eq_true rfl⟩) (z_preV zNm0 EM (zLw_M Z hH) zM_o rfl) rfl rfl hl.1 rfl (lv_room (Nat.le_of_ble_eq_true rfl)) dL_law_521 hf0) (fun H locs hH => ?_)
  refine lv_icmp_eq (tgt := 678) hx hb dL_law_524 (by decide) (fun _ => ?_) (fun c1 => absurd rfl c1)
  exact W.widen (k := cells + 1) (n := slots + 6) (by omega) (by omega) (kk ls SX SM9 f H locs hl hT hH)
set_option maxHeartbeats 4000000 in
set_option maxRecDepth 100000 in
theorem zlc_best {p : Program} {l : Launch} {e : Env} {s : State} {m : MethodId} {below : List Frame} {meth : Method} {c : Code} {H : Heap} {locs : List Loc} {cells slots : Nat} {Q : State → Prop} {ls : Array Slot} {D : va_G} {cI cS cW cL : ClassId} {q q2 : Nat → Nat} {qo b L i : Nat} {xs : Nat → Int32} {SX SM : zSt} {f : Nat → Int64} (Z : zLs p l s m b meth c L xs D cI cS cW cL q q2 qo) (hi : i + 5 ≤ L) (hT : zTp SX SM) (hH : zLw D cI cS cW cL q q2 qo s SX SM f H locs) (hc : cells + 1 ≤ 601024) (hs : slots + 6 ≤ 7293034) (hl : lv_has ls 7 (zLl b q q2 qo i)) (kk : zLk p l e s m below meth c (cells + 1) (slots + 6) Q D cI cS cW cL q q2 qo b i) : W p l e room_1 s m #[.ref b] below meth c H locs cells slots Q (F0 m 529 ls []) := by
  have C := zLs_C Z
  have hx := C.1
  have hb := C.2.1
  have hX := Z.2.2.1.1
  have hbl := Z.2.2.1.2.1
  have hL := Z.2.2.1.2.2
  have hbA : ¬ (fun x : Nat => s.heap.size ≤ x) b := Nat.not_le.mpr hbl
  have EX := zLs_EX Z
  have EM := zLs_EM Z
  have hf0 : cells + 0 ≤ room_1.cells ∧ slots + 0 ≤ room_1.slots := ⟨by show cells + 0 ≤ 601024; omega, by show slots + 0 ≤ 7293034; omega⟩
  obtain ⟨r, SM9, ex, em, hT⟩ := zt_best hT (xs (nI i + nI 1).toNatClampNeg) (xs (nI i + nI 2).toNatClampNeg)
  refine lv_aload_n hx hb dL_law_529 rfl (lv_at hl 1 rfl) ?_
  refine lv_aload_n hx hb dL_law_530 rfl (lv_at hl 0 rfl) ?_
  refine lv_iload hx hb dL_law_531 (lv_at hl 4 rfl) ?_
  refine lv_iconst (v := nI 1) hx hb dL_law_533 (by decide) ?_
  refine lv_iadd hx hb dL_law_534 ?_
  refine va_sld hx hb hX hbl hbA hH.2.2.2 (zs_in (k := 1) (by omega) hL) dL_law_535 ?_
  refine lv_aload_n hx hb dL_law_536 rfl (lv_at hl 0 rfl) ?_
  refine lv_iload hx hb dL_law_537 (lv_at hl 4 rfl) ?_
  refine lv_iconst (v := nI 2) hx hb dL_law_539 (by decide) ?_
  refine lv_iadd hx hb dL_law_540 ?_
  refine va_sld hx hb hX hbl hbA hH.2.2.2 (zs_in (k := 2) (by omega) hL) dL_law_541 ?_
  refine zl_x (r9 := r) (S9 := SX) Z hH (va_runV (As := [.int (xs (nI i + nI 1).toNatClampNeg), .int (xs (nI i + nI 2).toNatClampNeg)]) (rest := []) (z_fix C) (cX_X10_best l D cI cS cW q H.size (xs (nI i + nI 1).toNatClampNeg) (xs (nI i + nI 2).toNatClampNeg) SX ex) (cwV 2 C.2.2.2.2.1 (zGV zv_X10_best_1 zv_X10_best_2 zv_X10_best_3 zl_X zv_X10_best_4) rfl rfl rfl zyd_X10_best ⟨Nat.le_of_ble_eq_true rfl, Nat.le_of_ble_eq_true rfl⟩) (z_preV (zNmX EX) EX (zLw_X Z hH) zX_o6 rfl) rfl rfl hl.1 rfl (lv_room (Nat.le_of_ble_eq_true rfl)) dL_law_542 hf0) (fun H locs hH => ?_)
  refine lv_aload_n hx hb dL_law_545 rfl (lv_at hl 2 rfl) ?_
  refine lv_aload_n hx hb dL_law_546 rfl (lv_at hl 0 rfl) ?_
  refine lv_iload hx hb dL_law_547 (lv_at hl 4 rfl) ?_
  refine lv_iconst (v := nI 1) hx hb dL_law_549 (by decide) ?_
  refine lv_iadd hx hb dL_law_550 ?_
  refine va_sld hx hb hX hbl hbA hH.2.2.2 (zs_in (k := 1) (by omega) hL) dL_law_551 ?_
  refine lv_aload_n hx hb dL_law_552 rfl (lv_at hl 0 rfl) ?_
  refine lv_iload hx hb dL_law_553 (lv_at hl 4 rfl) ?_
  refine lv_iconst (v := nI 2) hx hb dL_law_555 (by decide) ?_
  refine lv_iadd hx hb dL_law_556 ?_
  refine va_sld hx hb hX hbl hbA hH.2.2.2 (zs_in (k := 2) (by omega) hL) dL_law_557 ?_
  refine zl_m (r9 := r) (S9 := SM9) Z hH (va_runV (As := [.int (xs (nI i + nI 1).toNatClampNeg), .int (xs (nI i + nI 2).toNatClampNeg)]) (rest := [.int r]) (z_fix C) (cM_X11_best l D cI q2 H.size (xs (nI i + nI 1).toNatClampNeg) (xs (nI i + nI 2).toNatClampNeg) SM em) (cwV 2 C.2.2.2.2.1 (zGV zv_X11_best_1 zv_X11_best_2 zv_X11_best_3 zl_M zv_X11_best_4) rfl rfl rfl zyd_X11_best ⟨Nat.le_of_ble_eq_true rfl, Nat.le_of_ble_eq_true rfl⟩) (z_preV zNm0 EM (zLw_M Z hH) zM_o rfl) rfl rfl hl.1 rfl (lv_room (Nat.le_of_ble_eq_true rfl)) dL_law_558 hf0) (fun H locs hH => ?_)
  refine lv_icmp_eq (tgt := 678) hx hb dL_law_561 (by decide) (fun _ => ?_) (fun c1 => absurd rfl c1)
  exact W.widen (k := cells + 1) (n := slots + 6) (by omega) (by omega) (kk ls SX SM9 f H locs hl hT hH)
set_option maxHeartbeats 4000000 in
set_option maxRecDepth 100000 in
theorem zlc_drift {p : Program} {l : Launch} {e : Env} {s : State} {m : MethodId} {below : List Frame} {meth : Method} {c : Code} {H : Heap} {locs : List Loc} {cells slots : Nat} {Q : State → Prop} {ls : Array Slot} {D : va_G} {cI cS cW cL : ClassId} {q q2 : Nat → Nat} {qo b L i : Nat} {xs : Nat → Int32} {SX SM : zSt} {f : Nat → Int64} (Z : zLs p l s m b meth c L xs D cI cS cW cL q q2 qo) (hi : i + 5 ≤ L) (hT : zTp SX SM) (hH : zLw D cI cS cW cL q q2 qo s SX SM f H locs) (hc : cells + 1 ≤ 601024) (hs : slots + 6 ≤ 7293034) (hl : lv_has ls 7 (zLl b q q2 qo i)) (kk : zLk p l e s m below meth c (cells + 1) (slots + 6) Q D cI cS cW cL q q2 qo b i) : W p l e room_1 s m #[.ref b] below meth c H locs cells slots Q (F0 m 566 ls []) := by
  have C := zLs_C Z
  have hx := C.1
  have hb := C.2.1
  have hX := Z.2.2.1.1
  have hbl := Z.2.2.1.2.1
  have hL := Z.2.2.1.2.2
  have hbA : ¬ (fun x : Nat => s.heap.size ≤ x) b := Nat.not_le.mpr hbl
  have EX := zLs_EX Z
  have EM := zLs_EM Z
  have hf0 : cells + 0 ≤ room_1.cells ∧ slots + 0 ≤ room_1.slots := ⟨by show cells + 0 ≤ 601024; omega, by show slots + 0 ≤ 7293034; omega⟩
  obtain ⟨r, SM9, ex, em, hT⟩ := zt_drift hT (xs (nI i + nI 1).toNatClampNeg) (xs (nI i + nI 2).toNatClampNeg) (xs (nI i + nI 3).toNatClampNeg)
  refine lv_aload_n hx hb dL_law_566 rfl (lv_at hl 1 rfl) ?_
  refine lv_aload_n hx hb dL_law_567 rfl (lv_at hl 0 rfl) ?_
  refine lv_iload hx hb dL_law_568 (lv_at hl 4 rfl) ?_
  refine lv_iconst (v := nI 1) hx hb dL_law_570 (by decide) ?_
  refine lv_iadd hx hb dL_law_571 ?_
  refine va_sld hx hb hX hbl hbA hH.2.2.2 (zs_in (k := 1) (by omega) hL) dL_law_572 ?_
  refine lv_aload_n hx hb dL_law_573 rfl (lv_at hl 0 rfl) ?_
  refine lv_iload hx hb dL_law_574 (lv_at hl 4 rfl) ?_
  refine lv_iconst (v := nI 2) hx hb dL_law_576 (by decide) ?_
  refine lv_iadd hx hb dL_law_577 ?_
  refine va_sld hx hb hX hbl hbA hH.2.2.2 (zs_in (k := 2) (by omega) hL) dL_law_578 ?_
  refine lv_aload_n hx hb dL_law_579 rfl (lv_at hl 0 rfl) ?_
  refine lv_iload hx hb dL_law_580 (lv_at hl 4 rfl) ?_
  refine lv_iconst (v := nI 3) hx hb dL_law_582 (by decide) ?_
  refine lv_iadd hx hb dL_law_583 ?_
  refine va_sld hx hb hX hbl hbA hH.2.2.2 (zs_in (k := 3) (by omega) hL) dL_law_584 ?_
  refine zl_x (r9 := r) (S9 := SX) Z hH (va_runV (As := [.int (xs (nI i + nI 1).toNatClampNeg), .int (xs (nI i + nI 2).toNatClampNeg), .int (xs (nI i + nI 3).toNatClampNeg)]) (rest := []) (z_fix C) (cX_X10_drift l D cI cS cW q H.size (xs (nI i + nI 1).toNatClampNeg) (xs (nI i + nI 2).toNatClampNeg) (xs (nI i + nI 3).toNatClampNeg) SX ex) (cwV 3 C.2.2.2.2.1 (zGV zv_X10_drift_1 zv_X10_drift_2 zv_X10_drift_3 zl_X zv_X10_drift_4) rfl rfl rfl zyd_X10_drift ⟨Nat.le_of_ble_eq_true rfl, Nat.le_of_ble_eq_true rfl⟩) (z_preV (zNmX EX) EX (zLw_X Z hH) zX_o6 rfl) rfl rfl hl.1 rfl (lv_room (Nat.le_of_ble_eq_true rfl)) dL_law_585 hf0) (fun H locs hH => ?_)
  refine lv_aload_n hx hb dL_law_588 rfl (lv_at hl 2 rfl) ?_
  refine lv_aload_n hx hb dL_law_589 rfl (lv_at hl 0 rfl) ?_
  refine lv_iload hx hb dL_law_590 (lv_at hl 4 rfl) ?_
  refine lv_iconst (v := nI 1) hx hb dL_law_592 (by decide) ?_
  refine lv_iadd hx hb dL_law_593 ?_
  refine va_sld hx hb hX hbl hbA hH.2.2.2 (zs_in (k := 1) (by omega) hL) dL_law_594 ?_
  refine lv_aload_n hx hb dL_law_595 rfl (lv_at hl 0 rfl) ?_
  refine lv_iload hx hb dL_law_596 (lv_at hl 4 rfl) ?_
  refine lv_iconst (v := nI 2) hx hb dL_law_598 (by decide) ?_
  refine lv_iadd hx hb dL_law_599 ?_
  refine va_sld hx hb hX hbl hbA hH.2.2.2 (zs_in (k := 2) (by omega) hL) dL_law_600 ?_
  refine lv_aload_n hx hb dL_law_601 rfl (lv_at hl 0 rfl) ?_
  refine lv_iload hx hb dL_law_602 (lv_at hl 4 rfl) ?_
  refine lv_iconst (v := nI 3) hx hb dL_law_604 (by decide) ?_
  refine lv_iadd hx hb dL_law_605 ?_
  refine va_sld hx hb hX hbl hbA hH.2.2.2 (zs_in (k := 3) (by omega) hL) dL_law_606 ?_
  refine zl_m (r9 := r) (S9 := SM9) Z hH (va_runV (As := [.int (xs (nI i + nI 1).toNatClampNeg), .int (xs (nI i + nI 2).toNatClampNeg), .int (xs (nI i + nI 3).toNatClampNeg)]) (rest := [.int r]) (z_fix C) (cM_X11_drift l D cI q2 H.size (xs (nI i + nI 1).toNatClampNeg) (xs (nI i + nI 2).toNatClampNeg) (xs (nI i + nI 3).toNatClampNeg) SM em) (cwV 3 C.2.2.2.2.1 (zGV zv_X11_drift_1 zv_X11_drift_2 zv_X11_drift_3 zl_M zv_X11_drift_4) rfl rfl rfl zyd_X11_drift ⟨Nat.le_of_ble_eq_true rfl, Nat.le_of_ble_eq_true rfl⟩) (z_preV zNm0 EM (zLw_M Z hH) zM_o rfl) rfl rfl hl.1 rfl (lv_room (Nat.le_of_ble_eq_true rfl)) dL_law_607 hf0) (fun H locs hH => ?_)
  refine lv_icmp_eq (tgt := 678) hx hb dL_law_610 (by decide) (fun _ => ?_) (fun c1 => absurd rfl c1)
  exact W.widen (k := cells + 1) (n := slots + 6) (by omega) (by omega) (kk ls SX SM9 f H locs hl hT hH)
set_option maxHeartbeats 4000000 in
set_option maxRecDepth 100000 in
theorem zlc_stages {p : Program} {l : Launch} {e : Env} {s : State} {m : MethodId} {below : List Frame} {meth : Method} {c : Code} {H : Heap} {locs : List Loc} {cells slots : Nat} {Q : State → Prop} {ls : Array Slot} {D : va_G} {cI cS cW cL : ClassId} {q q2 : Nat → Nat} {qo b L i : Nat} {xs : Nat → Int32} {SX SM : zSt} {f : Nat → Int64} (Z : zLs p l s m b meth c L xs D cI cS cW cL q q2 qo) (hi : i + 5 ≤ L) (hT : zTp SX SM) (hH : zLw D cI cS cW cL q q2 qo s SX SM f H locs) (hc : cells + 1 ≤ 601024) (hs : slots + 6 ≤ 7293034) (hl : lv_has ls 7 (zLl b q q2 qo i)) (kk : zLk p l e s m below meth c (cells + 1) (slots + 6) Q D cI cS cW cL q q2 qo b i) : W p l e room_1 s m #[.ref b] below meth c H locs cells slots Q (F0 m 615 ls []) := by
  have C := zLs_C Z
  have hx := C.1
  have hb := C.2.1
  have hX := Z.2.2.1.1
  have hbl := Z.2.2.1.2.1
  have hL := Z.2.2.1.2.2
  have hbA : ¬ (fun x : Nat => s.heap.size ≤ x) b := Nat.not_le.mpr hbl
  have EX := zLs_EX Z
  have EM := zLs_EM Z
  have hf0 : cells + 0 ≤ room_1.cells ∧ slots + 0 ≤ room_1.slots := ⟨by show cells + 0 ≤ 601024; omega, by show slots + 0 ≤ 7293034; omega⟩
  obtain ⟨r, SX9, SM9, ex, em, hT⟩ := zt_stages hT 
  refine lv_aload_n hx hb dL_law_615 rfl (lv_at hl 1 rfl) ?_
  refine zl_x (r9 := r) (S9 := SX9) Z hH (va_runV (As := []) (rest := []) (z_fix C) (cX_X10_stages l D cI cS cW q H.size  SX ex) (cwV 0 C.2.2.2.2.1 (zGV zv_X10_stages_1 zv_X10_stages_2 zv_X10_stages_3 zl_X zv_X10_stages_4) rfl rfl rfl zyd_X10_stages ⟨Nat.le_of_ble_eq_true rfl, Nat.le_of_ble_eq_true rfl⟩) (z_preV (zNmX EX) EX (zLw_X Z hH) zX_o6 rfl) rfl rfl hl.1 rfl (lv_room (Nat.le_of_ble_eq_true rfl)) dL_law_616 hf0) (fun H locs hH => ?_)
  refine lv_aload_n hx hb dL_law_619 rfl (lv_at hl 2 rfl) ?_
  refine zl_m (r9 := r) (S9 := SM9) Z hH (va_runV (As := []) (rest := [.int r]) (z_fix C) (cM_X11_stages l D cI q2 H.size  SM em) (cwV 0 C.2.2.2.2.1 (zGV zv_X11_stages_1 zv_X11_stages_2 zv_X11_stages_3 zl_M zv_X11_stages_4) rfl rfl rfl zyd_X11_stages ⟨Nat.le_of_ble_eq_true rfl, Nat.le_of_ble_eq_true rfl⟩) (z_preV zNm0 EM (zLw_M Z hH) zM_o rfl) rfl rfl hl.1 rfl (lv_room (Nat.le_of_ble_eq_true rfl)) dL_law_620 hf0) (fun H locs hH => ?_)
  refine lv_icmp_eq (tgt := 678) hx hb dL_law_623 (by decide) (fun _ => ?_) (fun c1 => absurd rfl c1)
  exact W.widen (k := cells + 1) (n := slots + 6) (by omega) (by omega) (kk ls SX9 SM9 f H locs hl hT hH)
set_option maxHeartbeats 4000000 in
set_option maxRecDepth 100000 in
theorem zlc_stage {p : Program} {l : Launch} {e : Env} {s : State} {m : MethodId} {below : List Frame} {meth : Method} {c : Code} {H : Heap} {locs : List Loc} {cells slots : Nat} {Q : State → Prop} {ls : Array Slot} {D : va_G} {cI cS cW cL : ClassId} {q q2 : Nat → Nat} {qo b L i : Nat} {xs : Nat → Int32} {SX SM : zSt} {f : Nat → Int64} (Z : zLs p l s m b meth c L xs D cI cS cW cL q q2 qo) (hi : i + 5 ≤ L) (hT : zTp SX SM) (hH : zLw D cI cS cW cL q q2 qo s SX SM f H locs) (hc : cells + 1 ≤ 601024) (hs : slots + 6 ≤ 7293034) (hl : lv_has ls 7 (zLl b q q2 qo i)) (kk : zLk p l e s m below meth c (cells + 1) (slots + 6) Q D cI cS cW cL q q2 qo b i) : W p l e room_1 s m #[.ref b] below meth c H locs cells slots Q (F0 m 628 ls []) := by
  have C := zLs_C Z
  have hx := C.1
  have hb := C.2.1
  have hX := Z.2.2.1.1
  have hbl := Z.2.2.1.2.1
  have hL := Z.2.2.1.2.2
  have hbA : ¬ (fun x : Nat => s.heap.size ≤ x) b := Nat.not_le.mpr hbl
  have EX := zLs_EX Z
  have EM := zLs_EM Z
  have hf0 : cells + 0 ≤ room_1.cells ∧ slots + 0 ≤ room_1.slots := ⟨by show cells + 0 ≤ 601024; omega, by show slots + 0 ≤ 7293034; omega⟩
  obtain ⟨r, SX9, SM9, ex, em, hT⟩ := zt_stage hT (xs (nI i + nI 1).toNatClampNeg)
  refine lv_aload_n hx hb dL_law_628 rfl (lv_at hl 1 rfl) ?_
  refine lv_aload_n hx hb dL_law_629 rfl (lv_at hl 0 rfl) ?_
  refine lv_iload hx hb dL_law_630 (lv_at hl 4 rfl) ?_
  refine lv_iconst (v := nI 1) hx hb dL_law_632 (by decide) ?_
  refine lv_iadd hx hb dL_law_633 ?_
  refine va_sld hx hb hX hbl hbA hH.2.2.2 (zs_in (k := 1) (by omega) hL) dL_law_634 ?_
  refine zl_x (r9 := r) (S9 := SX9) Z hH (va_runV (As := [.int (xs (nI i + nI 1).toNatClampNeg)]) (rest := []) (z_fix C) (cX_X10_stage l D cI cS cW q H.size (xs (nI i + nI 1).toNatClampNeg) SX ex) (cwV 1 C.2.2.2.2.1 (zGV zv_X10_stage_1 zv_X10_stage_2 zv_X10_stage_3 zl_X zv_X10_stage_4) rfl rfl rfl zyd_X10_stage ⟨Nat.le_of_ble_eq_true rfl, Nat.le_of_ble_eq_true rfl⟩) (z_preV (zNmX EX) EX (zLw_X Z hH) zX_o6 rfl) rfl rfl hl.1 rfl (lv_room (Nat.le_of_ble_eq_true rfl)) dL_law_635 hf0) (fun H locs hH => ?_)
  refine lv_aload_n hx hb dL_law_638 rfl (lv_at hl 2 rfl) ?_
  refine lv_aload_n hx hb dL_law_639 rfl (lv_at hl 0 rfl) ?_
  refine lv_iload hx hb dL_law_640 (lv_at hl 4 rfl) ?_
  refine lv_iconst (v := nI 1) hx hb dL_law_642 (by decide) ?_
  refine lv_iadd hx hb dL_law_643 ?_
  refine va_sld hx hb hX hbl hbA hH.2.2.2 (zs_in (k := 1) (by omega) hL) dL_law_644 ?_
  refine zl_m (r9 := r) (S9 := SM9) Z hH (va_runV (As := [.int (xs (nI i + nI 1).toNatClampNeg)]) (rest := [.int r]) (z_fix C) (cM_X11_stage l D cI q2 H.size (xs (nI i + nI 1).toNatClampNeg) SM em) (cwV 1 C.2.2.2.2.1 (zGV zv_X11_stage_1 zv_X11_stage_2 zv_X11_stage_3 zl_M zv_X11_stage_4) rfl rfl rfl zyd_X11_stage ⟨Nat.le_of_ble_eq_true rfl, Nat.le_of_ble_eq_true rfl⟩) (z_preV zNm0 EM (zLw_M Z hH) zM_o rfl) rfl rfl hl.1 rfl (lv_room (Nat.le_of_ble_eq_true rfl)) dL_law_645 hf0) (fun H locs hH => ?_)
  refine lv_icmp_eq (tgt := 678) hx hb dL_law_648 (by decide) (fun _ => ?_) (fun c1 => absurd rfl c1)
  exact W.widen (k := cells + 1) (n := slots + 6) (by omega) (by omega) (kk ls SX9 SM9 f H locs hl hT hH)
set_option maxHeartbeats 4000000 in
set_option maxRecDepth 100000 in
theorem zlc_count {p : Program} {l : Launch} {e : Env} {s : State} {m : MethodId} {below : List Frame} {meth : Method} {c : Code} {H : Heap} {locs : List Loc} {cells slots : Nat} {Q : State → Prop} {ls : Array Slot} {D : va_G} {cI cS cW cL : ClassId} {q q2 : Nat → Nat} {qo b L i : Nat} {xs : Nat → Int32} {SX SM : zSt} {f : Nat → Int64} (Z : zLs p l s m b meth c L xs D cI cS cW cL q q2 qo) (hi : i + 5 ≤ L) (hT : zTp SX SM) (hH : zLw D cI cS cW cL q q2 qo s SX SM f H locs) (hc : cells + 1 ≤ 601024) (hs : slots + 6 ≤ 7293034) (hl : lv_has ls 7 (zLl b q q2 qo i)) (kk : zLk p l e s m below meth c (cells + 1) (slots + 6) Q D cI cS cW cL q q2 qo b i) : W p l e room_1 s m #[.ref b] below meth c H locs cells slots Q (F0 m 653 ls []) := by
  have C := zLs_C Z
  have hx := C.1
  have hb := C.2.1
  have hX := Z.2.2.1.1
  have hbl := Z.2.2.1.2.1
  have hL := Z.2.2.1.2.2
  have hbA : ¬ (fun x : Nat => s.heap.size ≤ x) b := Nat.not_le.mpr hbl
  have EX := zLs_EX Z
  have EM := zLs_EM Z
  have hf0 : cells + 0 ≤ room_1.cells ∧ slots + 0 ≤ room_1.slots := ⟨by show cells + 0 ≤ 601024; omega, by show slots + 0 ≤ 7293034; omega⟩
  obtain ⟨r, SX9, SM9, ex, em, hT⟩ := zt_count hT (xs (nI i + nI 1).toNatClampNeg)
  refine lv_aload_n hx hb dL_law_653 rfl (lv_at hl 1 rfl) ?_
  refine lv_aload_n hx hb dL_law_654 rfl (lv_at hl 0 rfl) ?_
  refine lv_iload hx hb dL_law_655 (lv_at hl 4 rfl) ?_
  refine lv_iconst (v := nI 1) hx hb dL_law_657 (by decide) ?_
  refine lv_iadd hx hb dL_law_658 ?_
  refine va_sld hx hb hX hbl hbA hH.2.2.2 (zs_in (k := 1) (by omega) hL) dL_law_659 ?_
  refine zl_x (r9 := r) (S9 := SX9) Z hH (va_runV (As := [.int (xs (nI i + nI 1).toNatClampNeg)]) (rest := []) (z_fix C) (cX_X10_count l D cI cS cW q H.size (xs (nI i + nI 1).toNatClampNeg) SX ex) (cwV 1 C.2.2.2.2.1 (zGV zv_X10_count_1 zv_X10_count_2 zv_X10_count_3 zl_X zv_X10_count_4) rfl rfl rfl zyd_X10_count ⟨Nat.le_of_ble_eq_true rfl, Nat.le_of_ble_eq_true rfl⟩) (z_preV (zNmX EX) EX (zLw_X Z hH) zX_o6 rfl) rfl rfl hl.1 rfl (lv_room (Nat.le_of_ble_eq_true rfl)) dL_law_660 hf0) (fun H locs hH => ?_)
  refine lv_aload_n hx hb dL_law_663 rfl (lv_at hl 2 rfl) ?_
  refine lv_aload_n hx hb dL_law_664 rfl (lv_at hl 0 rfl) ?_
  refine lv_iload hx hb dL_law_665 (lv_at hl 4 rfl) ?_
  refine lv_iconst (v := nI 1) hx hb dL_law_667 (by decide) ?_
  refine lv_iadd hx hb dL_law_668 ?_
  refine va_sld hx hb hX hbl hbA hH.2.2.2 (zs_in (k := 1) (by omega) hL) dL_law_669 ?_
  refine zl_m (r9 := r) (S9 := SM9) Z hH (va_runV (As := [.int (xs (nI i + nI 1).toNatClampNeg)]) (rest := [.int r]) (z_fix C) (cM_X11_count l D cI q2 H.size (xs (nI i + nI 1).toNatClampNeg) SM em) (cwV 1 C.2.2.2.2.1 (zGV zv_X11_count_1 zv_X11_count_2 zv_X11_count_3 zl_M zv_X11_count_4) rfl rfl rfl zyd_X11_count ⟨Nat.le_of_ble_eq_true rfl, Nat.le_of_ble_eq_true rfl⟩) (z_preV zNm0 EM (zLw_M Z hH) zM_o rfl) rfl rfl hl.1 rfl (lv_room (Nat.le_of_ble_eq_true rfl)) dL_law_670 hf0) (fun H locs hH => ?_)
  refine lv_icmp_eq (tgt := 678) hx hb dL_law_673 (by decide) (fun _ => ?_) (fun c1 => absurd rfl c1)
  exact W.widen (k := cells + 1) (n := slots + 6) (by omega) (by omega) (kk ls SX9 SM9 f H locs hl hT hH)
set_option maxHeartbeats 4000000 in
set_option maxRecDepth 100000 in
theorem zlc_law {p : Program} {l : Launch} {e : Env} {s : State} {m : MethodId} {below : List Frame} {meth : Method} {c : Code} {H : Heap} {locs : List Loc} {cells slots : Nat} {Q : State → Prop} {ls : Array Slot} {D : va_G} {cI cS cW cL : ClassId} {q q2 : Nat → Nat} {qo b L i : Nat} {xs : Nat → Int32} {SX SM : zSt} {f : Nat → Int64} (Z : zLs p l s m b meth c L xs D cI cS cW cL q q2 qo) (hi : i + 5 ≤ L) (hT : zTp SX SM) (hH : zLw D cI cS cW cL q q2 qo s SX SM f H locs) (hc : cells + 1 ≤ 601024) (hs : slots + 6 ≤ 7293034) (hl : lv_has ls 7 (zLl b q q2 qo i)) (kk : zLk p l e s m below meth c (cells + 1) (slots + 6) Q D cI cS cW cL q q2 qo b i) : W p l e room_1 s m #[.ref b] below meth c H locs cells slots Q (F0 m 235 ls []) := by
  have C := zLs_C Z
  have hx := C.1
  have hb := C.2.1
  have hX := Z.2.2.1.1
  have hbl := Z.2.2.1.2.1
  have hL := Z.2.2.1.2.2
  have hbA : ¬ (fun x : Nat => s.heap.size ≤ x) b := Nat.not_le.mpr hbl
  have EX := zLs_EX Z
  have EM := zLs_EM Z
  have hf0 : cells + 0 ≤ room_1.cells ∧ slots + 0 ≤ room_1.slots := ⟨by show cells + 0 ≤ 601024; omega, by show slots + 0 ≤ 7293034; omega⟩
  refine lv_aload_n hx hb dL_law_235 rfl (lv_at hl 1 rfl) ?_
  refine lv_aload_n hx hb dL_law_236 rfl (lv_at hl 0 rfl) ?_
  refine lv_iload hx hb dL_law_237 (lv_at hl 4 rfl) ?_
  refine lv_iconst (v := nI 1) hx hb dL_law_239 (by decide) ?_
  refine lv_iadd hx hb dL_law_240 ?_
  refine va_sld hx hb hX hbl hbA hH.2.2.2 (zs_in (k := 1) (by omega) hL) dL_law_241 ?_
  refine lv_aload_n hx hb dL_law_242 rfl (lv_at hl 0 rfl) ?_
  refine lv_iload hx hb dL_law_243 (lv_at hl 4 rfl) ?_
  refine lv_iconst (v := nI 2) hx hb dL_law_245 (by decide) ?_
  refine lv_iadd hx hb dL_law_246 ?_
  refine va_sld hx hb hX hbl hbA hH.2.2.2 (zs_in (k := 2) (by omega) hL) dL_law_247 ?_
  refine lv_if_eq (tgt := 255) hx hb dL_law_248 (by decide) (fun c1 => ?_) (fun c1 => ?_)
  · obtain ⟨r, SX9, SM9, ex, em, hT⟩ := zt_law hT (xs (nI i + nI 1).toNatClampNeg) (b := 0) (by omega)
    refine lv_iconst (v := nI 0) hx hb dL_law_255 (by decide) ?_
    refine zl_x (r9 := r) (S9 := SX9) Z hH (va_runV (As := [.int (xs (nI i + nI 1).toNatClampNeg), .int (nI 0)]) (rest := []) (z_fix C) (cX_X10_law l D cI cS cW q H.size (xs (nI i + nI 1).toNatClampNeg) (nI 0) SX ex) (cwV 2 C.2.2.2.2.1 (zGV zv_X10_law_1 zv_X10_law_2 zv_X10_law_3 zl_X zv_X10_law_4) rfl rfl rfl zyd_X10_law ⟨Nat.le_of_ble_eq_true rfl, Nat.le_of_ble_eq_true rfl⟩) (z_preV (zNmX EX) EX (zLw_X Z hH) zX_o6 rfl) rfl rfl hl.1 rfl (lv_room (Nat.le_of_ble_eq_true rfl)) dL_law_256 hf0) (fun H locs hH => ?_)
    refine lv_aload_n hx hb dL_law_259 rfl (lv_at hl 2 rfl) ?_
    refine lv_aload_n hx hb dL_law_260 rfl (lv_at hl 0 rfl) ?_
    refine lv_iload hx hb dL_law_261 (lv_at hl 4 rfl) ?_
    refine lv_iconst (v := nI 1) hx hb dL_law_263 (by decide) ?_
    refine lv_iadd hx hb dL_law_264 ?_
    refine va_sld hx hb hX hbl hbA hH.2.2.2 (zs_in (k := 1) (by omega) hL) dL_law_265 ?_
    refine lv_aload_n hx hb dL_law_266 rfl (lv_at hl 0 rfl) ?_
    refine lv_iload hx hb dL_law_267 (lv_at hl 4 rfl) ?_
    refine lv_iconst (v := nI 2) hx hb dL_law_269 (by decide) ?_
    refine lv_iadd hx hb dL_law_270 ?_
    refine va_sld hx hb hX hbl hbA hH.2.2.2 (zs_in (k := 2) (by omega) hL) dL_law_271 ?_
    refine lv_if_eq (tgt := 279) hx hb dL_law_272 (by decide) (fun _ => ?_) (fun c2 => absurd c1 c2)
    refine lv_iconst (v := nI 0) hx hb dL_law_279 (by decide) ?_
    refine zl_m (r9 := r) (S9 := SM9) Z hH (va_runV (As := [.int (xs (nI i + nI 1).toNatClampNeg), .int (nI 0)]) (rest := [.int r]) (z_fix C) (cM_X11_law l D cI q2 H.size (xs (nI i + nI 1).toNatClampNeg) (nI 0) SM em) (cwV 2 C.2.2.2.2.1 (zGV zv_X11_law_1 zv_X11_law_2 zv_X11_law_3 zl_M zv_X11_law_4) rfl rfl rfl zyd_X11_law ⟨Nat.le_of_ble_eq_true rfl, Nat.le_of_ble_eq_true rfl⟩) (z_preV zNm0 EM (zLw_M Z hH) zM_o rfl) rfl rfl hl.1 rfl (lv_room (Nat.le_of_ble_eq_true rfl)) dL_law_280 hf0) (fun H locs hH => ?_)
    refine lv_icmp_eq (tgt := 678) hx hb dL_law_283 (by decide) (fun _ => ?_) (fun c1 => absurd rfl c1)
    exact W.widen (k := cells + 1) (n := slots + 6) (by omega) (by omega) (kk ls SX9 SM9 f H locs hl hT hH)
  · obtain ⟨r, SX9, SM9, ex, em, hT⟩ := zt_law hT (xs (nI i + nI 1).toNatClampNeg) (b := 1) (by omega)
    refine lv_iconst (v := nI 1) hx hb dL_law_251 (by decide) ?_
    refine lv_goto (tgt := 256) hx hb dL_law_252 (by decide) ?_
    refine zl_x (r9 := r) (S9 := SX9) Z hH (va_runV (As := [.int (xs (nI i + nI 1).toNatClampNeg), .int (nI 1)]) (rest := []) (z_fix C) (cX_X10_law l D cI cS cW q H.size (xs (nI i + nI 1).toNatClampNeg) (nI 1) SX ex) (cwV 2 C.2.2.2.2.1 (zGV zv_X10_law_1 zv_X10_law_2 zv_X10_law_3 zl_X zv_X10_law_4) rfl rfl rfl zyd_X10_law ⟨Nat.le_of_ble_eq_true rfl, Nat.le_of_ble_eq_true rfl⟩) (z_preV (zNmX EX) EX (zLw_X Z hH) zX_o6 rfl) rfl rfl hl.1 rfl (lv_room (Nat.le_of_ble_eq_true rfl)) dL_law_256 hf0) (fun H locs hH => ?_)
    refine lv_aload_n hx hb dL_law_259 rfl (lv_at hl 2 rfl) ?_
    refine lv_aload_n hx hb dL_law_260 rfl (lv_at hl 0 rfl) ?_
    refine lv_iload hx hb dL_law_261 (lv_at hl 4 rfl) ?_
    refine lv_iconst (v := nI 1) hx hb dL_law_263 (by decide) ?_
    refine lv_iadd hx hb dL_law_264 ?_
    refine va_sld hx hb hX hbl hbA hH.2.2.2 (zs_in (k := 1) (by omega) hL) dL_law_265 ?_
    refine lv_aload_n hx hb dL_law_266 rfl (lv_at hl 0 rfl) ?_
    refine lv_iload hx hb dL_law_267 (lv_at hl 4 rfl) ?_
    refine lv_iconst (v := nI 2) hx hb dL_law_269 (by decide) ?_
    refine lv_iadd hx hb dL_law_270 ?_
    refine va_sld hx hb hX hbl hbA hH.2.2.2 (zs_in (k := 2) (by omega) hL) dL_law_271 ?_
    refine lv_if_eq (tgt := 279) hx hb dL_law_272 (by decide) (fun c2 => absurd c2 c1) (fun _ => ?_)
    refine lv_iconst (v := nI 1) hx hb dL_law_275 (by decide) ?_
    refine lv_goto (tgt := 280) hx hb dL_law_276 (by decide) ?_
    refine zl_m (r9 := r) (S9 := SM9) Z hH (va_runV (As := [.int (xs (nI i + nI 1).toNatClampNeg), .int (nI 1)]) (rest := [.int r]) (z_fix C) (cM_X11_law l D cI q2 H.size (xs (nI i + nI 1).toNatClampNeg) (nI 1) SM em) (cwV 2 C.2.2.2.2.1 (zGV zv_X11_law_1 zv_X11_law_2 zv_X11_law_3 zl_M zv_X11_law_4) rfl rfl rfl zyd_X11_law ⟨Nat.le_of_ble_eq_true rfl, Nat.le_of_ble_eq_true rfl⟩) (z_preV zNm0 EM (zLw_M Z hH) zM_o rfl) rfl rfl hl.1 rfl (lv_room (Nat.le_of_ble_eq_true rfl)) dL_law_280 hf0) (fun H locs hH => ?_)
    refine lv_icmp_eq (tgt := 678) hx hb dL_law_283 (by decide) (fun _ => ?_) (fun c1 => absurd rfl c1)
    exact W.widen (k := cells + 1) (n := slots + 6) (by omega) (by omega) (kk ls SX9 SM9 f H locs hl hT hH)
set_option maxHeartbeats 4000000 in
set_option maxRecDepth 100000 in
theorem zlc_answer {p : Program} {l : Launch} {e : Env} {s : State} {m : MethodId} {below : List Frame} {meth : Method} {c : Code} {H : Heap} {locs : List Loc} {cells slots : Nat} {Q : State → Prop} {ls : Array Slot} {D : va_G} {cI cS cW cL : ClassId} {q q2 : Nat → Nat} {qo b L i : Nat} {xs : Nat → Int32} {SX SM : zSt} {f : Nat → Int64} (Z : zLs p l s m b meth c L xs D cI cS cW cL q q2 qo) (hi : i + 5 ≤ L) (hT : zTp SX SM) (hH : zLw D cI cS cW cL q q2 qo s SX SM f H locs) (hc : cells + 1 ≤ 601024) (hs : slots + 6 ≤ 7293034) (hl : lv_has ls 7 (zLl b q q2 qo i)) (kk : zLk p l e s m below meth c (cells + 1) (slots + 6) Q D cI cS cW cL q q2 qo b i) : W p l e room_1 s m #[.ref b] below meth c H locs cells slots Q (F0 m 362 ls []) := by
  have C := zLs_C Z
  have hx := C.1
  have hb := C.2.1
  have hX := Z.2.2.1.1
  have hbl := Z.2.2.1.2.1
  have hL := Z.2.2.1.2.2
  have hbA : ¬ (fun x : Nat => s.heap.size ≤ x) b := Nat.not_le.mpr hbl
  have EX := zLs_EX Z
  have EM := zLs_EM Z
  have hf0 : cells + 0 ≤ room_1.cells ∧ slots + 0 ≤ room_1.slots := ⟨by show cells + 0 ≤ 601024; omega, by show slots + 0 ≤ 7293034; omega⟩
  have hf1 : cells + 1 + 0 ≤ room_1.cells ∧ slots + 6 + 0 ≤ room_1.slots := ⟨by show cells + 1 + 0 ≤ 601024; omega, by show slots + 6 + 0 ≤ 7293034; omega⟩
  obtain ⟨y, SM9, kr, hans, em, e7, hT9⟩ : ∃ (y : Int32) (SM9 : zSt) (kr : Nat), ((kr = 0 ∧ fX_X10_isCall (xs (nI i + nI 1).toNatClampNeg) SX = some (nI 1) ∧ zin (xs (nI i + nI 1).toNatClampNeg) 200 = true ∧ y = SX.2 30 (xs (nI i + nI 1).toNatClampNeg).toNatClampNeg) ∨ (kr = 1 ∧ fX_X10_isCall (xs (nI i + nI 1).toNatClampNeg) SX = some (nI 0))) ∧ fM_X11_answer (xs (nI i + nI 1).toNatClampNeg) SM = some (y, SM9) ∧ SM9.1 7 = nI kr ∧ zTp SX SM9 := by
    rcases zt_answer hT (xs (nI i + nI 1).toNatClampNeg) with ⟨SM9, j, N, ej, hj, hN, h0, h1, h2, h3, h4⟩ | ⟨SM9, h1, h2, h3, h4⟩
    · refine ⟨_, SM9, 0, Or.inl ⟨rfl, h1, ?_, ?_⟩, h2, h3, h4⟩
      · rw [ej]; exact zin_t (by omega) (by omega)
      · rw [ej, zI_clamp (by omega)]
    · exact ⟨_, SM9, 1, Or.inr ⟨rfl, h1⟩, h2, h3, h4⟩
  refine lv_aload_n hx hb dL_law_362 rfl (lv_at hl 1 rfl) ?_
  refine lv_aload_n hx hb dL_law_363 rfl (lv_at hl 0 rfl) ?_
  refine lv_iload hx hb dL_law_364 (lv_at hl 4 rfl) ?_
  refine lv_iconst (v := nI 1) hx hb dL_law_366 (by decide) ?_
  refine lv_iadd hx hb dL_law_367 ?_
  refine va_sld hx hb hX hbl hbA hH.2.2.2 (zs_in (k := 1) (by omega) hL) dL_law_368 ?_
  refine lv_aload_n hx hb dL_law_369 rfl (lv_at hl 3 rfl) ?_
  refine zl_h Z hH (vx_runSW (As := [.ref (q 6), .int (xs (nI i + nI 1).toNatClampNeg), .ref qo]) (rest := []) (z_fix (zLs_Cx Z)) (cL_ans l Z.1.2 D cI cS cW cL q qo H.size (xs (nI i + nI 1).toNatClampNeg) SX f kr (hans.elim (fun h => Or.inl ⟨h.1, h.2.1, h.2.2.1⟩) (fun h => Or.inr h))) (vx_cwSW 3 (zLs_Cx Z).2.2.2.2.1 zGSh rfl rfl rfl zyd_h ⟨Nat.le_of_ble_eq_true rfl, Nat.le_of_ble_eq_true rfl⟩) (zh_pre Z hH) rfl rfl hl.1 rfl (lv_room (Nat.le_of_ble_eq_true rfl)) dL_law_370 ⟨by show cells + 1 ≤ 601024; omega, by show slots + 6 ≤ 7293034; omega⟩) (fun f9 hf9 H locs hH => ?_)
  refine lv_istore (lv' := (5, .int (nI kr)) :: zLl b q q2 qo i) hx hb dL_law_373 hl (by decide) rfl (fun ls hl => ?_)
  refine lv_aload_n hx hb dL_law_375 rfl (lv_at hl 3 rfl) ?_
  refine lv_aload_n hx hb dL_law_376 rfl (lv_at hl 1 rfl) ?_
  refine lv_iload hx hb dL_law_377 (lv_at hl 5 rfl) ?_
  refine lv_iconst (v := nI 1) hx hb dL_law_379 (by decide) ?_
  refine lv_iadd hx hb dL_law_380 ?_
  refine va_sld hx hb hX hbl hbA hH.2.2.2 (zs_in (k := 1) (by omega) hL) dL_law_381 ?_
  refine zl_m (r9 := y) (S9 := SM9) Z hH (va_runV (As := [.int (xs (nI i + nI 1).toNatClampNeg)]) (rest := []) (z_fix C) (cM_X11_answer l D cI q2 H.size (xs (nI i + nI 1).toNatClampNeg) SM em) (cwV 1 C.2.2.2.2.1 (zGV zv_X11_answer_1 zv_X11_answer_2 zv_X11_answer_3 zl_M zv_X11_answer_4) rfl rfl rfl zyd_X11_answer ⟨Nat.le_of_ble_eq_true rfl, Nat.le_of_ble_eq_true rfl⟩) (z_preV zNm0 EM (zLw_M Z hH) zM_o rfl) rfl rfl hl.1 rfl (lv_room (Nat.le_of_ble_eq_true rfl)) dL_law_382 hf1) (fun H locs hH => ?_)
  refine lv_istore (lv' := (6, .int y) :: (5, .int (nI kr)) :: zLl b q q2 qo i) hx hb dL_law_385 hl (by decide) rfl (fun ls hl => ?_)
  refine lv_aload_n hx hb dL_law_387 rfl (lv_at hl 4 rfl) ?_
  refine zl_m (r9 := SM9.1 7) (S9 := SM9) Z hH (va_runV (As := []) (rest := []) (z_fix C) (cM_X11_thrown l D cI q2 H.size  SM9 rfl) (cwV 0 C.2.2.2.2.1 (zGV zv_X11_thrown_1 zv_X11_thrown_2 zv_X11_thrown_3 zl_M zv_X11_thrown_4) rfl rfl rfl zyd_X11_thrown ⟨Nat.le_of_ble_eq_true rfl, Nat.le_of_ble_eq_true rfl⟩) (z_preV zNm0 EM (zLw_M Z hH) zM_o rfl) rfl rfl hl.1 rfl (lv_room (Nat.le_of_ble_eq_true rfl)) dL_law_388 hf1) (fun H locs hH => ?_)
  refine lv_iload hx hb dL_law_391 (lv_at hl 1 rfl) ?_
  refine lv_icmp_eq (tgt := 398) hx hb dL_law_393 (by decide) (fun _ => ?_) (fun c1 => absurd e7 c1)
  refine lv_iload hx hb dL_law_398 (lv_at hl 1 rfl) ?_
  have hl9 : lv_has ls 7 (zLl b q q2 qo i) := lv_sub hl [2, 3, 4, 5, 6] rfl
  refine lv_if_ne (tgt := 415) hx hb dL_law_400 (by decide) (fun c1 => ?_) (fun c1 => ?_)
  · refine lv_goto (tgt := 678) hx hb dL_law_415 (by decide) ?_
    exact kk ls SX SM9 f9 H locs hl9 hT9 hH
  · rcases hans with ⟨k0, h1, h2, h3⟩ | ⟨k1, h1⟩
    · refine lv_aload_n hx hb dL_law_403 rfl (lv_at hl 5 rfl) ?_
      refine lv_iconst (v := nI 0) hx hb dL_law_404 (by decide) ?_
      refine va_lald hx hb Z.2.1.2.1 hH.2.2.1 0 0 (cA := cL) (n := 1) (f := f9) rfl rfl (vp_in_nI (n := 0) (N := 1) (by omega) (by omega)) dL_law_405 ?_
      refine lv_iload hx hb dL_law_406 (lv_at hl 0 rfl) ?_
      refine lv_i2l (v := y.toInt64) hx hb dL_law_408 rfl ?_
      refine W.lcmp hx hb dL_law_409 ?_
      have e9 : lg_cmp (f9 (nI 0).toNatClampNeg) y.toInt64 = 0 := by
        have e8 : f9 (nI 0).toNatClampNeg = y.toInt64 := by rw [h3]; exact hf9 k0
        rw [e8]; exact zl_cmp _
      rw [e9]
      refine lv_if_eq (tgt := 415) hx hb dL_law_410 (by decide) (fun _ => ?_) (fun c2 => absurd rfl c2)
      refine lv_goto (tgt := 678) hx hb dL_law_415 (by decide) ?_
      exact kk ls SX SM9 f9 H locs hl9 hT9 hH
    · rw [k1] at c1; exact absurd c1 (by decide)

theorem zs_head {i L : Nat} (hi : i ≤ L) (hL : L ≤ 2560) (c1 : ¬ (Int32.ofNat L - nI 5 < nI i)) : i + 5 ≤ L := by
  rcases Nat.lt_or_ge L (i + 5) with h | h
  · exfalso
    apply c1
    rcases Nat.lt_or_ge L 5 with h5 | h5
    · have hL5 : L = 0 ∨ L = 1 ∨ L = 2 ∨ L = 3 ∨ L = 4 := by omega
      have hi5 : i = 0 ∨ i = 1 ∨ i = 2 ∨ i = 3 ∨ i = 4 := by omega
      rcases hL5 with rfl | rfl | rfl | rfl | rfl <;> rcases hi5 with rfl | rfl | rfl | rfl | rfl <;> first | decide | (exfalso; omega)
    · show nI L - nI 5 < nI i
      rw [zI_sub h5, zI_lt (by omega) (by omega)]
      omega
  · exact h
set_option maxHeartbeats 4000000 in
set_option maxRecDepth 100000 in
theorem zl_head {p : Program} {l : Launch} {e : Env} {s : State} {m : MethodId} {below : List Frame} {meth : Method} {c : Code} {D : va_G} {cI cS cW cL : ClassId} {q q2 : Nat → Nat} {qo b L : Nat} {xs : Nat → Int32} {H : Heap} {locs : List Loc} {cells slots i : Nat} {ls : Array Slot} {SX SM : zSt} {f : Nat → Int64} (Z : zLs p l s m b meth c L xs D cI cS cW cL q q2 qo) (hi : i ≤ L) (hH : zLw D cI cS cW cL q q2 qo s SX SM f H locs) (hc : cells ≤ 601024) (hs : slots ≤ 7293034) (hl : lv_has ls 7 (zLl b q q2 qo i)) (kk : i + 5 ≤ L → W p l e room_1 s m #[.ref b] below meth c H locs cells slots (lw_Z below #[.ref b] s) (F0 m 32 ls [])) : W p l e room_1 s m #[.ref b] below meth c H locs cells slots (lw_Z below #[.ref b] s) (F0 m 23 ls []) := by
  have C := zLs_C Z
  have hx := C.1
  have hb := C.2.1
  have hX := Z.2.2.1.1
  have hbl := Z.2.2.1.2.1
  have hL := Z.2.2.1.2.2
  have hbA : ¬ (fun x : Nat => s.heap.size ≤ x) b := Nat.not_le.mpr hbl
  refine lv_iload hx hb dL_law_23 (lv_at hl 4 rfl) ?_
  refine lv_aload_n hx hb dL_law_25 rfl (lv_at hl 0 rfl) ?_
  refine va_slen hx hb hX hbl hbA hH.2.2.2 dL_law_26 ?_
  refine lv_iconst (v := nI 5) hx hb dL_law_27 (by decide) ?_
  refine lv_isub hx hb dL_law_28 ?_
  refine lv_icmp_gt (tgt := 684) hx hb dL_law_29 (by decide) (fun c1 => ?_) (fun c1 => ?_)
  · refine lv_iconst (v := 1) hx hb dL_law_684 (by decide) ?_
    refine va_forget (fun q hq => hH.2.2.2.2.2 q hq) ?_
    refine W.widen (k := 601024) (n := 7293034) hc hs ?_
    exact lw_ret hx hb C.2.2.2.2.2.1 C.2.2.2.2.2.2 dL_law_685
  · exact kk (zs_head hi hL c1)
set_option maxHeartbeats 4000000 in
set_option maxRecDepth 100000 in
theorem zl_body {p : Program} {l : Launch} {e : Env} {s : State} {m : MethodId} {below : List Frame} {meth : Method} {c : Code} {D : va_G} {cI cS cW cL : ClassId} {q q2 : Nat → Nat} {qo b L : Nat} {xs : Nat → Int32} {H : Heap} {locs : List Loc} {cells slots i : Nat} {Q : State → Prop} {ls : Array Slot} {SX SM : zSt} {f : Nat → Int64} (Z : zLs p l s m b meth c L xs D cI cS cW cL q q2 qo) (hi : i + 5 ≤ L) (hT : zTp SX SM) (hH : zLw D cI cS cW cL q q2 qo s SX SM f H locs) (hc : cells + 1 ≤ 601024) (hs : slots + 6 ≤ 7293034) (hl : lv_has ls 7 (zLl b q q2 qo i)) (kk : zLk p l e s m below meth c (cells + 1) (slots + 6) Q D cI cS cW cL q q2 qo b i) : W p l e room_1 s m #[.ref b] below meth c H locs cells slots Q (F0 m 32 ls []) := by
  have C := zLs_C Z
  have hx := C.1
  have hb := C.2.1
  have hX := Z.2.2.1.1
  have hbl := Z.2.2.1.2.1
  have hL := Z.2.2.1.2.2
  have hbA : ¬ (fun x : Nat => s.heap.size ≤ x) b := Nat.not_le.mpr hbl
  refine lv_aload_n hx hb dL_law_32 rfl (lv_at hl 0 rfl) ?_
  refine lv_iload hx hb dL_law_33 (lv_at hl 4 rfl) ?_
  refine va_sld hx hb hX hbl hbA hH.2.2.2 (vp_in_nI (by omega) (by omega)) dL_law_35 ?_
  refine lv_bipush (v := 15) hx hb dL_law_36 (by decide) ?_
  refine lv_iand hx hb dL_law_38 ?_
  refine lv_topi (fun v _ => ?_)
  by_cases c0 : v = 0
  · refine lv_tableIn (tgt := 112) hx hb dL_law_39 (by rw [c0]; decide) (by rw [c0]; decide) (by rw [c0]; rfl) (by decide) ?_
    exact zlc_call Z hi hT hH hc hs hl kk
  by_cases c1 : v = 1
  · refine lv_tableIn (tgt := 149) hx hb dL_law_39 (by rw [c1]; decide) (by rw [c1]; decide) (by rw [c1]; rfl) (by decide) ?_
    exact zlc_draw Z hi hT hH hc hs hl kk
  by_cases c2 : v = 2
  · refine lv_tableIn (tgt := 210) hx hb dL_law_39 (by rw [c2]; decide) (by rw [c2]; decide) (by rw [c2]; rfl) (by decide) ?_
    exact zlc_drop Z hi hT hH hc hs hl kk
  by_cases c3 : v = 3
  · refine lv_tableIn (tgt := 235) hx hb dL_law_39 (by rw [c3]; decide) (by rw [c3]; decide) (by rw [c3]; rfl) (by decide) ?_
    exact zlc_law Z hi hT hH hc hs hl kk
  by_cases c4 : v = 4
  · refine lv_tableIn (tgt := 288) hx hb dL_law_39 (by rw [c4]; decide) (by rw [c4]; decide) (by rw [c4]; rfl) (by decide) ?_
    exact zlc_set Z hi hT hH hc hs hl kk
  by_cases c5 : v = 5
  · refine lv_tableIn (tgt := 325) hx hb dL_law_39 (by rw [c5]; decide) (by rw [c5]; decide) (by rw [c5]; rfl) (by decide) ?_
    exact zlc_told Z hi hT hH hc hs hl kk
  by_cases c6 : v = 6
  · refine lv_tableIn (tgt := 362) hx hb dL_law_39 (by rw [c6]; decide) (by rw [c6]; decide) (by rw [c6]; rfl) (by decide) ?_
    exact zlc_answer Z hi hT hH hc hs hl kk
  by_cases c7 : v = 7
  · refine lv_tableIn (tgt := 418) hx hb dL_law_39 (by rw [c7]; decide) (by rw [c7]; decide) (by rw [c7]; rfl) (by decide) ?_
    exact zlc_cost Z hi hT hH hc hs hl kk
  by_cases c8 : v = 8
  · refine lv_tableIn (tgt := 455) hx hb dL_law_39 (by rw [c8]; decide) (by rw [c8]; decide) (by rw [c8]; rfl) (by decide) ?_
    exact zlc_key Z hi hT hH hc hs hl kk
  by_cases c9 : v = 9
  · refine lv_tableIn (tgt := 492) hx hb dL_law_39 (by rw [c9]; decide) (by rw [c9]; decide) (by rw [c9]; rfl) (by decide) ?_
    exact zlc_sum Z hi hT hH hc hs hl kk
  by_cases c10 : v = 10
  · refine lv_tableIn (tgt := 529) hx hb dL_law_39 (by rw [c10]; decide) (by rw [c10]; decide) (by rw [c10]; rfl) (by decide) ?_
    exact zlc_best Z hi hT hH hc hs hl kk
  by_cases c11 : v = 11
  · refine lv_tableIn (tgt := 566) hx hb dL_law_39 (by rw [c11]; decide) (by rw [c11]; decide) (by rw [c11]; rfl) (by decide) ?_
    exact zlc_drift Z hi hT hH hc hs hl kk
  by_cases c12 : v = 12
  · refine lv_tableIn (tgt := 615) hx hb dL_law_39 (by rw [c12]; decide) (by rw [c12]; decide) (by rw [c12]; rfl) (by decide) ?_
    exact zlc_stages Z hi hT hH hc hs hl kk
  by_cases c13 : v = 13
  · refine lv_tableIn (tgt := 628) hx hb dL_law_39 (by rw [c13]; decide) (by rw [c13]; decide) (by rw [c13]; rfl) (by decide) ?_
    exact zlc_stage Z hi hT hH hc hs hl kk
  by_cases c14 : v = 14
  · refine lv_tableIn (tgt := 653) hx hb dL_law_39 (by rw [c14]; decide) (by rw [c14]; decide) (by rw [c14]; rfl) (by decide) ?_
    exact zlc_count Z hi hT hH hc hs hl kk
  have e0 : ¬ v.toInt = 0 := zsw_ne c0
  have e1 : ¬ v.toInt = 1 := zsw_ne c1
  have e2 : ¬ v.toInt = 2 := zsw_ne c2
  have e3 : ¬ v.toInt = 3 := zsw_ne c3
  have e4 : ¬ v.toInt = 4 := zsw_ne c4
  have e5 : ¬ v.toInt = 5 := zsw_ne c5
  have e6 : ¬ v.toInt = 6 := zsw_ne c6
  have e7 : ¬ v.toInt = 7 := zsw_ne c7
  have e8 : ¬ v.toInt = 8 := zsw_ne c8
  have e9 : ¬ v.toInt = 9 := zsw_ne c9
  have e10 : ¬ v.toInt = 10 := zsw_ne c10
  have e11 : ¬ v.toInt = 11 := zsw_ne c11
  have e12 : ¬ v.toInt = 12 := zsw_ne c12
  have e13 : ¬ v.toInt = 13 := zsw_ne c13
  have e14 : ¬ v.toInt = 14 := zsw_ne c14
  refine lv_tableOut (tgt := 678) hx hb dL_law_39 (by omega) (by decide) ?_
  exact W.widen (k := cells + 1) (n := slots + 6) (by omega) (by omega) (kk ls SX SM f H locs hl hT hH)
set_option maxHeartbeats 4000000 in
set_option maxRecDepth 100000 in
/-- THE LAW'S LOOP -/
theorem zl_loop {p : Program} {l : Launch} {e : Env} {s : State} {m : MethodId} {below : List Frame} {meth : Method} {c : Code} {D : va_G} {cI cS cW cL : ClassId} {q q2 : Nat → Nat} {qo b L : Nat} {xs : Nat → Int32} (Z : zLs p l s m b meth c L xs D cI cS cW cL q q2 qo) : ∀ (n i cells slots : Nat), i ≤ L → L ≤ i + 5 * n → cells + n ≤ 601024 → slots + 6 * n ≤ 7293034 → ∀ (ls : Array Slot) (SX SM : zSt) (f : Nat → Int64) (H : Heap) (locs : List Loc), lv_has ls 7 (zLl b q q2 qo i) → zTp SX SM → zLw D cI cS cW cL q q2 qo s SX SM f H locs → W p l e room_1 s m #[.ref b] below meth c H locs cells slots (lw_Z below #[.ref b] s) (F0 m 23 ls []) := by
  have C := zLs_C Z
  have hx := C.1
  have hb := C.2.1
  intro n
  induction n with
  | zero =>
    intro i cells slots h1 h2 h3 h4 ls SX SM f H locs hl hT hH
    exact zl_head Z h1 hH (by omega) (by omega) hl (fun h5 => absurd h5 (by omega))
  | succ n ih =>
    intro i cells slots h1 h2 h3 h4 ls SX SM f H locs hl hT hH
    refine zl_head Z h1 hH (by omega) (by omega) hl (fun h5 => zl_body Z h5 hT hH (by omega) (by omega) hl ?_)
    intro ls SX SM f H locs hl hT hH
    refine lv_iinc (v := nI (i + 5)) (lv' := [(4, .int (nI (i + 5))), (0, .ref b), (1, .ref (q 6)), (2, .ref (q2 32)), (3, .ref qo)]) hx hb dL_law_678 hl (k := 4) rfl (by rw [show Int32.ofInt 5 = nI 5 from by decide, zI_add]) (by decide) rfl (fun ls hl => ?_)
    refine lv_goto (tgt := 23) hx hb dL_law_681 (by decide) ?_
    exact ih (i + 5) (cells + 1) (slots + 6) h5 (by omega) (by omega) (by omega) ls SX SM f H locs (lv_sub hl [1, 2, 3, 4, 0] rfl) hT hH

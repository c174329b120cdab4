theorem zal9 {a b : va_W} {k : Nat} {x : Nat × va_E} (h : a[k]? = some x) : (a ++ b)[k]? = some x := by rw [List.getElem?_append_left (List.getElem?_eq_some_iff.mp h).1]; exact h
theorem zar9 {a b : va_W} {k : Nat} {x : Nat × va_E} (h : b[k]? = some x) : (a ++ b)[a.length + k]? = some x := by rw [List.getElem?_append_right (Nat.le_add_right _ _), Nat.add_sub_cancel_left]; exact h
theorem zDl {A : Nat → Prop} {a b : va_W} (h : va_D A (a ++ b)) : va_D A a := ⟨fun i j p q hi hj e => h.1 i j p q (zal9 hi) (zal9 hj) e, fun k x hx => h.2 k x (zal9 hx)⟩
theorem zDr {A : Nat → Prop} {a b : va_W} (h : va_D A (a ++ b)) : va_D A b := ⟨fun i j p q hi hj e => by
  have := h.1 _ _ p q (zar9 (a := a) hi) (zar9 (a := a) hj) e
  omega, fun k x hx => h.2 _ x (zar9 hx)⟩
theorem zDx {A : Nat → Prop} {a b : va_W} (h : va_D A (a ++ b)) {i j : Nat} {p q : Nat × va_E} (hi : a[i]? = some p) (hj : b[j]? = some q) : p.1 ≠ q.1 := fun e => by
  have h1 := h.1 _ _ p q (zal9 hi) (zar9 (a := a) hj) e
  have h2 := (List.getElem?_eq_some_iff.mp hi).1
  omega
theorem zLd_of {cI cS cW cL : ClassId} {q q2 : Nat → Nat} {qo : Nat} {s : State} {S0 S1 : zSt} {f : Nat → Int64} (h : va_D (fun x : Nat => s.heap.size ≤ x) ((zwX cI cS cW q S0 ++ zwM cI q2 S1) ++ zo cL qo f)) : zLd cI cS cW q q2 qo s := by
  have h' : ∀ S S', va_D (fun x : Nat => s.heap.size ≤ x) ((zwX cI cS cW q S ++ zwM cI q2 S') ++ zo cL qo f) := fun S S' => by
    have e : ((zwX cI cS cW q S0 ++ zwM cI q2 S1) ++ zo cL qo f).map (·.1) = ((zwX cI cS cW q S ++ zwM cI q2 S') ++ zo cL qo f).map (·.1) := rfl
    exact y_Dadr e h
  refine ⟨fun S => zDl (zDl (h' S S1)), fun S => zDr (zDl (h' S0 S)), (zDr h).2 0 _ rfl, fun S S' k j x y hx hy => zDx (zDl (h' S S')) hx hy, fun S k x hx => ?_, fun S k x hx => ?_⟩
  · exact zDx (h' S S1) (zal9 hx) (q := (qo, .inl (cL, 1, .inr (.inl f)))) (j := 0) rfl
  · exact zDx (h' S0 S) (zar9 hx) (q := (qo, .inl (cL, 1, .inr (.inl f)))) (j := 0) rfl
theorem zTp_0 : zTp yS0 yS1 := by
  have hn : ∀ (P : Nat → Prop) t, t < 0 → P t := fun _ t h => absurd h (Nat.not_lt_zero t)
  refine ⟨fun _ => 0, fun _ => 0, 0, 0, 0, 10, 2, ⟨by omega, by omega, by omega, by omega⟩, ⟨⟨rfl, by omega, hn _, hn _, hn _, hn _, hn _, fun j hj => ⟨?_, ?_, hn _, hn _⟩⟩, rfl, rfl, rfl, rfl, Or.inl rfl⟩, ⟨⟨rfl, by omega, hn _, hn _, hn _, Or.inl rfl⟩, rfl, rfl, rfl, rfl⟩⟩
  · show zXR j yS0 za0
    rcases z6c hj with rfl | rfl | rfl | rfl | rfl | rfl
    · exact ⟨rfl, rfl, hn _, rfl⟩
    · exact ⟨rfl, rfl, hn _, rfl⟩
    · exact ⟨rfl, rfl, hn _, rfl⟩
    · refine ⟨fun _ => 64, fun _ => 64, 64, ⟨?_, fun t _ q => absurd q (by show ¬ 0 < 0; omega), fun t _ q => absurd q (by show ¬ 0 < 0; omega), ⟨Or.inl ⟨rfl, fun _ _ _ => rfl⟩, fun a b t _ hT ht => ?_⟩⟩, fun _ _ => rfl, ?_⟩
      · show (-1 : Int32) = zec 64
        rw [zec_64]; rfl
      · rcases hT with q | q
        · omega
        · exact absurd q.2.2.1 (by show ¬ 0 < 0; omega)
      · show nI 0 = nI (znd (fun _ => 0))
        rw [show znd (fun _ => 0) = 0 from by
          show zct (fun j => decide (0 < 0)) 64 = 0
          rw [show (fun _ : Nat => decide (0 < 0)) = fun _ => false from funext fun _ => rfl]
          exact zct_0 64]
    · exact ⟨rfl, rfl, hn _, rfl⟩
    · exact fun _ _ => rfl
  · rcases z6c hj with rfl | rfl | rfl | rfl | rfl | rfl <;> rfl
theorem znX_tb : ∀ w ∈ znX, w ∈ lw_tbl ∧ w.onTables = true := by decide +kernel
theorem znC_tb : ∀ w ∈ znC, w ∈ lw_tbl ∧ w.onTables = true := by decide +kernel
theorem zK_arr {args : Array Value} {s : State} {ty : FieldType} (hRA : ∀ c : ClassId, s.vm.findClass ("[" ++ ty.toString) = some c → va_RA s c ty) (h : (Cond.arrayClass ty).before args s = true) : ∃ cA : ClassId, ArrOfT s cA ty ∧ va_RA s cA ty := by
  obtain ⟨c, k, comp, h1, h2, h3⟩ := Cond.arrayClass_spec h
  exact ⟨c, fun n z => ⟨fun k h => (by cases h), k, h2, comp, h3⟩, hRA c h1⟩
theorem zK_of {args : Array Value} {s : State} (hts : ∀ w ∈ zU, w.before args s = true) : ∃ D : va_G, ∀ (k : Nat) (q : vw_C), vwCl[k]? = some q → u_Kn s q.1 q.2.1 q.2.2 (D.1 k) (D.2 k) := by
  obtain ⟨c0, iS0, hKn0⟩ := u_known (C := RX0) (T := TX0) (N := 4) (n := 4) hts zh_X0 (hts (.instantiable RX0 4) zv_in_X0)
  obtain ⟨c1, iS1, hKn1⟩ := u_known (C := RX2) (T := TX2) (N := 8) (n := 8) hts zh_X2 (hts (.instantiable RX2 8) zv_in_X2)
  obtain ⟨c2, iS2, hKn2⟩ := u_known (C := RX3) (T := TX3) (N := 7) (n := 7) hts zh_X3 (hts (.instantiable RX3 7) zv_in_X3)
  obtain ⟨c3, iS3, hKn3⟩ := u_known (C := RX5) (T := TX5) (N := 7) (n := 7) hts zh_X5 (hts (.instantiable RX5 7) zv_in_X5)
  obtain ⟨c4, iS4, hKn4⟩ := u_known (C := RX6) (T := TX6) (N := 7) (n := 7) hts zh_X6 (hts (.instantiable RX6 7) zv_in_X6)
  obtain ⟨c5, iS5, hKn5⟩ := u_known (C := RX8) (T := TX8) (N := 8) (n := 8) hts zh_X8 (hts (.instantiable RX8 8) zv_in_X8)
  obtain ⟨c6, iS6, hKn6⟩ := u_known (C := RX9) (T := TX9) (N := 9) (n := 9) hts zh_X9 (hts (.instantiable RX9 9) zv_in_X9)
  obtain ⟨c7, iS7, hKn7⟩ := u_known (C := RX10) (T := TX10) (N := 13) (n := 13) hts zh_X10 (hts (.instantiable RX10 13) zv_in_X10)
  obtain ⟨c8, iS8, hKn8⟩ := u_known (C := RX11) (T := TX11) (N := 32) (n := 32) hts zh_X11 (hts (.instantiable RX11 32) zv_in_X11)
  refine ⟨(fun k => if k = 0 then c0 else (if k = 1 then c1 else (if k = 2 then c2 else (if k = 3 then c3 else (if k = 4 then c4 else (if k = 5 then c5 else (if k = 6 then c6 else (if k = 7 then c7 else (c8)))))))), fun k => if k = 0 then iS0 else (if k = 1 then iS1 else (if k = 2 then iS2 else (if k = 3 then iS3 else (if k = 4 then iS4 else (if k = 5 then iS5 else (if k = 6 then iS6 else (if k = 7 then iS7 else (iS8))))))))), ?_⟩
  intro k q hq
  match k, hq with
  | 0, hq => cases hq; exact hKn0
  | 1, hq => cases hq; exact hKn1
  | 2, hq => cases hq; exact hKn2
  | 3, hq => cases hq; exact hKn3
  | 4, hq => cases hq; exact hKn4
  | 5, hq => cases hq; exact hKn5
  | 6, hq => cases hq; exact hKn6
  | 7, hq => cases hq; exact hKn7
  | 8, hq => cases hq; exact hKn8
  | k + 9, hq => simp [vwCl] at hq
set_option maxHeartbeats 4000000 in
set_option maxRecDepth 100000 in
/-- THE LAW, from its entry -/
theorem whole_start {p : Program} {e : Env} {s : State} {m : MethodId} {below : List Frame} {meth : Method} {c : Code} (l : Launch) (hl0 : l.stackTraces = false) {b L : Nat} {xs : Nat → Int32} (hL : L ≤ 2560) (C0 : lw_At p s m meth c b L xs) : W p l e room_1 s m #[Value.ref b] below meth c s.heap [] 0 0 (lw_Z below #[Value.ref b] s) (entryFrame m ([Value.ref b] : List Value).toArray 7) := by
  obtain ⟨hx, hb, hr, hml, hown, htb, hX, hbl, hlocks, hgv⟩ := id C0
  have Cx : zCX p s m #[.ref b] meth c code 7 ret zUx RL := ⟨hx, hb, hml, hown, fun w h => htb w (zUx_tb w h), hr, hlocks⟩
  have C : zCX p s m #[.ref b] meth c code 7 ret zU RL := ⟨hx, hb, hml, hown, fun w h => htb w (zU_tbl w h), hr, hlocks⟩
  have hts : ∀ w ∈ zU, w.before #[.ref b] s = true := C.2.2.2.2.1
  obtain ⟨D, hD1⟩ := zK_of hts
  obtain ⟨cI, hI1, hI2⟩ := zK_arr (ty := .int) (fun c h => h) (hts _ zv_int)
  obtain ⟨comS, cS, kS, s1, s2, s3, s4, s5⟩ := Cond.arrayOver_spec (htb (.arrayOver (.object "WhichShelf$Shelf")) (by decide +kernel))
  obtain ⟨comW, cW, kW, w1, w2, w3, w4, w5⟩ := arrayOverA_spec (htb (.arrayOver (.array .int)) (by decide +kernel))
  have hK : va_K D vwCl (zyX cI cS cW) s := ⟨hD1, fun k x hx => by
    match k, hx with
    | 0, hx => cases hx; exact ⟨hI1, hI2⟩
    | 1, hx => cases hx; exact ⟨fun n z => ⟨fun k h => (by cases h), kS, s3, comS, s4⟩, kS, comS, s3, s4, s1, s5⟩
    | 2, hx => cases hx; exact ⟨fun n z => ⟨fun k h => (by cases h), kW, w3, comW, w4⟩, w5⟩
    | k + 3, hx => simp [zyX] at hx⟩
  have hN : ∀ x ∈ znX, zNw x s := fun x hx => ⟨(znX_tb x hx).2, va_any (znX_tb x hx).2 (htb x (znX_tb x hx).1)⟩
  have hyN : yN s := ⟨fun x hx => ⟨(znC_tb x hx).2, va_any (znC_tb x hx).2 (htb x (znC_tb x hx).1)⟩, va_AO.of (htb (.arrayOver (.object "WhichShelf$Shelf")) (by decide +kernel)), va_AOA.of (htb (.arrayOver (.array .int)) (by decide +kernel))⟩
  have hfl := flat_of_before _ hgv
  have hTw : zTw (fun x : Nat => s.heap.size ≤ x) s s.heap := by
    have hcl10 : s.vm.findClass RX10 = some (D.1 7) := (hD1 7 _ rfl).2.1
    have hsr : (Cond.stringRef RX10 98 "no such call").before #[.ref b] s = true := htb _ (by decide +kernel)
    obtain ⟨-, -, -, sa, -, -, -, -, -, hev⟩ := Cond.stringRef_spec hcl10 hsr
    exact ⟨⟨sa, vk_R.of hsr hev⟩, fun x hx => ⟨zBx_on x hx, va_any (zBx_on x hx) (htb x (zBx_tb x hx))⟩, vx_Zqof (args := #[.ref b]) (htb _ (by decide +kernel)) (htb _ (by decide +kernel)) (hfl _ (by decide +kernel)) (fun a h => Nat.not_le.mpr h), vx_Zqof (args := #[.ref b]) (htb _ (by decide +kernel)) (htb _ (by decide +kernel)) (hfl _ (by decide +kernel)) (fun a h => Nat.not_le.mpr h)⟩
  have hE : yE D (zyX cI cS cW) (fun x : Nat => s.heap.size ≤ x) s := ⟨hK, fun _ h => h, hyN⟩
  have hH : yH D [] (fun x : Nat => s.heap.size ≤ x) s s.heap [] := ⟨fun k q h => by simp at h, ⟨fun i j p q h => by simp at h, fun k q h => by simp at h⟩, va_S.rf⟩
  have hl := lv_entry ([.ref b]) (n := 7) (Nat.le_of_ble_eq_true rfl)
  rw [lg_entry_eq]
  generalize (lg_sl ([.ref b]) ++ List.replicate (7 - (lg_sl ([.ref b])).length) Slot.unset).toArray = ls at hl ⊢
  have hl : lv_has ls 7 [(0, .ref b)] := hl
  refine y_new (X := RX10) (T := TX10) (N := 13) (ci := 7) (fs := [.null, .null, .null, .null, .null, .null, .int 0, .int 0, .int 0, .int 0, .int 0, .null, .int 0]) (ty := tyX10) C hE hH zh_X10 tyX10_ok zv_X10_k zv_X10_n zl_X rfl (fun j hj => by rcases (show j = 0 ∨ j = 1 ∨ j = 2 ∨ j = 3 ∨ j = 4 ∨ j = 5 ∨ j = 6 ∨ j = 7 ∨ j = 8 ∨ j = 9 ∨ j = 10 ∨ j = 11 ∨ j = 12 by omega) with rfl | rfl | rfl | rfl | rfl | rfl | rfl | rfl | rfl | rfl | rfl | rfl | rfl <;> rfl) (Nat.le_of_ble_eq_true rfl) (Nat.le_of_ble_eq_true rfl) dL_law_0 (fun h0 H hH => ?_)
  have hH : yH D [(h0, .inr (7, [.null, .null, .null, .null, .null, .null, .int 0, .int 0, .int 0, .int 0, .int 0, .null, .int 0]))] (fun x : Nat => s.heap.size ≤ x) s H [] := hH
  refine lv_dup hx hb dL_law_3 rfl ?_
  refine y_call (wr := []) (wc := [(h0, .inr (7, [.null, .null, .null, .null, .null, .null, .int 0, .int 0, .int 0, .int 0, .int 0, .null, .int 0]))]) (w1 := fun q => zwX cI cS cW (va_up q 6 h0) yS0) (va_runI (As := []) (rest := [.ref h0]) (z_fix C) (cC_X10 l D cI cS cW h0 _) (cwI 0 hts (zGc zv_X10_i3) rfl rfl rfl (hts _ zl_X) (hts _ zv_X10_i1) (hts _ zv_X10_i2) rfl yd_X10_init ⟨Nat.le_of_ble_eq_true rfl, Nat.le_of_ble_eq_true rfl⟩) (y_preS hE hH.1 hH.2.1) rfl rfl hl.1 rfl (lv_room (Nat.le_of_ble_eq_true rfl)) dL_law_4 ⟨Nat.le_of_ble_eq_true rfl, Nat.le_of_ble_eq_true rfl⟩) hE hH [0] [] rfl rfl (by decide) (by decide) (fun q0 H locs hH => ?_)
  obtain ⟨q, hq, hq6⟩ : ∃ q : Nat → Nat, q = va_up q0 6 h0 ∧ q 6 = h0 := ⟨_, rfl, rfl⟩
  have hHa : yH D (zwX cI cS cW q yS0) (fun x : Nat => s.heap.size ≤ x) s H locs := by rw [hq]; exact hH
  clear hq
  subst hq6
  refine lv_astore_n (lv' := [(1, .ref (q 6)), (0, .ref b)]) hx hb dL_law_7 rfl hl (by decide) rfl (fun ls hl => ?_)
  refine y_new (X := RX11) (T := TX11) (N := 32) (ci := 8) (fs := [.null, .null, .int 0, .int 0, .int 0, .int 0, .int 0, .int 0, .int 0, .null, .null, .null, .null, .null, .null, .null, .null, .null, .int 0, .null, .null, .int 0, .int 0, .null, .null, .int 0, .null, .null, .int 0, .null, .int 0, .int 0]) (ty := tyX11) C hE hHa zh_X11 tyX11_ok zv_X11_k zv_X11_n zl_M rfl (fun j hj => by rcases (show j = 0 ∨ j = 1 ∨ j = 2 ∨ j = 3 ∨ j = 4 ∨ j = 5 ∨ j = 6 ∨ j = 7 ∨ j = 8 ∨ j = 9 ∨ j = 10 ∨ j = 11 ∨ j = 12 ∨ j = 13 ∨ j = 14 ∨ j = 15 ∨ j = 16 ∨ j = 17 ∨ j = 18 ∨ j = 19 ∨ j = 20 ∨ j = 21 ∨ j = 22 ∨ j = 23 ∨ j = 24 ∨ j = 25 ∨ j = 26 ∨ j = 27 ∨ j = 28 ∨ j = 29 ∨ j = 30 ∨ j = 31 by omega) with rfl | rfl | rfl | rfl | rfl | rfl | rfl | rfl | rfl | rfl | rfl | rfl | rfl | rfl | rfl | rfl | rfl | rfl | rfl | rfl | rfl | rfl | rfl | rfl | rfl | rfl | rfl | rfl | rfl | rfl | rfl | rfl <;> rfl) (Nat.le_of_ble_eq_true rfl) (Nat.le_of_ble_eq_true rfl) dL_law_8 (fun h1 H hH => ?_)
  refine lv_dup hx hb dL_law_11 rfl ?_
  have hPc : va_P D vwCl [(h1, .inr (8, [.null, .null, .int 0, .int 0, .int 0, .int 0, .int 0, .int 0, .int 0, .null, .null, .null, .null, .null, .null, .null, .null, .null, .int 0, .null, .null, .int 0, .int 0, .null, .null, .int 0, .null, .null, .int 0, .null, .int 0, .int 0]))] H := zPr hH.1
  have hDc : va_D (fun x : Nat => s.heap.size ≤ x) [(h1, .inr (8, [.null, .null, .int 0, .int 0, .int 0, .int 0, .int 0, .int 0, .int 0, .null, .null, .null, .null, .null, .null, .null, .null, .null, .int 0, .null, .null, .int 0, .int 0, .null, .null, .int 0, .null, .null, .int 0, .null, .int 0, .int 0]))] := zDr hH.2.1
  refine y_call (wr := zwX cI cS cW q yS0) (wc := [(h1, .inr (8, [.null, .null, .int 0, .int 0, .int 0, .int 0, .int 0, .int 0, .int 0, .null, .null, .null, .null, .null, .null, .null, .null, .null, .int 0, .null, .null, .int 0, .int 0, .null, .null, .int 0, .null, .null, .int 0, .null, .int 0, .int 0]))]) (w1 := fun q => zwM cI (va_up q 32 h1) yS1) (va_runI (As := []) (rest := [.ref h1]) (z_fix C) (cC_X11 l D cI cS cW h1 _) (cwI 0 hts (zGc zv_X11_i3) rfl rfl rfl (hts _ zl_M) (hts _ zv_X11_i1) (hts _ zv_X11_i2) rfl yd_X11_init ⟨Nat.le_of_ble_eq_true rfl, Nat.le_of_ble_eq_true rfl⟩) (y_preS hE hPc hDc) rfl rfl hl.1 rfl (lv_room (Nat.le_of_ble_eq_true rfl)) dL_law_12 ⟨Nat.le_of_ble_eq_true rfl, Nat.le_of_ble_eq_true rfl⟩) hE hH [42] [0, 1, 2, 3, 4, 5, 6, 7, 8, 9, 10, 11, 12, 13, 14, 15, 16, 17, 18, 19, 20, 21, 22, 23, 24, 25, 26, 27, 28, 29, 30, 31, 32, 33, 34, 35, 36, 37, 38, 39, 40, 41] rfl rfl (by decide) (by decide) (fun q1 H locs hH => ?_)
  obtain ⟨q2, hq, hq32⟩ : ∃ q : Nat → Nat, q = va_up q1 32 h1 ∧ q 32 = h1 := ⟨_, rfl, rfl⟩
  have hHb : yH D (zwX cI cS cW q yS0 ++ zwM cI q2 yS1) (fun x : Nat => s.heap.size ≤ x) s H locs := by rw [hq]; exact hH
  clear hq
  subst hq32
  refine lv_astore_n (lv' := [(2, .ref (q2 32)), (1, .ref (q 6)), (0, .ref b)]) hx hb dL_law_15 rfl hl (by decide) rfl (fun ls hl => ?_)
  refine lv_iconst (v := nI 1) hx hb dL_law_16 (by decide) ?_
  refine va_newa (n := nI 1) (N' := 1) hx hb (atype := .long) (hts _ zv_long) (ty := .long) rfl hK hHb.1 hHb.2.1 hHb.2.2 (fun _ h => h) (a0 := (1, .inr (.inl (fun _ => 0)))) (fun _ => rfl) (by decide) (by decide) (by decide) (Nat.le_of_ble_eq_true rfl) (Nat.le_of_ble_eq_true rfl) dL_law_17 (fun qo cL H k1 k2 k3 k4 => ?_)
  refine lv_astore_n (lv' := [(3, .ref qo), (2, .ref (q2 32)), (1, .ref (q 6)), (0, .ref b)]) hx hb dL_law_19 rfl hl (by decide) rfl (fun ls hl => ?_)
  refine lv_iconst (v := nI 0) hx hb dL_law_20 (by decide) ?_
  refine lv_istore (lv' := [(4, .int (nI 0)), (3, .ref qo), (2, .ref (q2 32)), (1, .ref (q 6)), (0, .ref b)]) hx hb dL_law_21 hl (by decide) rfl (fun ls hl => ?_)
  have k2' : va_P D vwCl ((zwX cI cS cW q yS0 ++ zwM cI q2 yS1) ++ zo cL qo (fun _ => 0)) H := k2
  have Z : zLs p l s m b meth c L xs D cI cS cW cL q q2 qo := ⟨⟨Cx, hl0⟩, ⟨hK, k1.sub [3] rfl, hN, hTw⟩, ⟨hX, hbl, hL⟩, zLd_of (cL := cL) (f := fun _ => 0) k3⟩
  exact zl_loop Z 512 0 _ _ (Nat.zero_le L) (by omega) (by decide) (by decide) ls yS0 yS1 (fun _ => 0) H _ (lv_sub hl [4, 3, 2, 1, 0] rfl) zTp_0 ⟨zPl (zPl k2'), zPr (zPl k2'), zPr k2', k4⟩

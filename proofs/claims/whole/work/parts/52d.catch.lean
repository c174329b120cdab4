/-! the law's catcher: WhichShelfLaw.answer -/
theorem zPl {D : va_G} {cl : List vw_C} {a b : va_W} {H : Heap} (h : va_P D cl (a ++ b) H) : va_P D cl a H := fun k x hx => h k x (by rw [List.getElem?_append_left (List.getElem?_eq_some_iff.mp hx).1]; exact hx)
theorem zPr {D : va_G} {cl : List vw_C} {a b : va_W} {H : Heap} (h : va_P D cl (a ++ b) H) : va_P D cl b H := fun k x hx => h (a.length + k) x (by rw [List.getElem?_append_right (Nat.le_add_right _ _), Nat.add_sub_cancel_left]; exact hx)
theorem z_rest {D : va_G} {cl : List vw_C} {wc wr : va_W} {H H1 : Heap} (hP : va_P D cl wr H) (hdis : ∀ (k j : Nat) (x y : Nat × va_E), wc[k]? = some x → wr[j]? = some y → x.1 ≠ y.1) (hk : ∀ q : Nat, q < H.size → ¬ va_A wc H.size q → H1[q]? = H[q]?) : va_P D cl wr H1 :=
  va_P.kept hP (fun k x hx => hk x.1 (vx_lt hP hx) (fun h => by
    rcases h with ⟨k', e, hk'⟩ | h
    · exact hdis k' k _ x hk' hx rfl
    · exact absurd (vx_lt hP hx) (Nat.not_lt.mpr h)))
def zo (cL : ClassId) (qo : Nat) (f : Nat → Int64) : va_W := [(qo, .inl (cL, 1, .inr (.inl f)))]
theorem zo_1 {cL : ClassId} {qo : Nat} {f : Nat → Int64} {j : Nat} {y : Nat × va_E} (h : (zo cL qo f)[j]? = some y) : y.1 = qo := by
  cases j with
  | zero => cases h; rfl
  | succ j => cases h
theorem zo_D {A : Nat → Prop} {cL : ClassId} {qo : Nat} {f : Nat → Int64} (h : A qo) : va_D A (zo cL qo f) := by
  refine ⟨fun i j p q hi hj _ => ?_, fun k y hy => by rw [zo_1 hy]; exact h⟩
  cases i with
  | zero =>
    cases j with
    | zero => rfl
    | succ j => cases hj
  | succ i => cases hi
def zhA (cI cS cW : ClassId) (q : Nat → Nat) (qo sz : Nat) (S : zSt) : Nat → Prop := fun a => va_A (zwX cI cS cW q S) sz a ∨ a = qo
def zhP (D : va_G) (cI cS cW cL : ClassId) (q : Nat → Nat) (qo sz : Nat) (S : zSt) (f : Nat → Int64) (U : State) : Prop := U.heap.size = sz ∧ va_P D vwCl (zwX cI cS cW q S) U.heap ∧ va_P D vwCl (zo cL qo f) U.heap ∧ va_K D vwCl (zyX cI cS cW) U ∧ va_K D vwCl [(cL, .long)] U ∧ va_D (fun _ => True) (zwX cI cS cW q S) ∧ (∀ (k : Nat) (x : Nat × va_E), (zwX cI cS cW q S)[k]? = some x → x.1 ≠ qo) ∧ (∀ x ∈ znX, zNw x U) ∧ zTw (zhA cI cS cW q qo sz S) U U.heap
def zhB (D : va_G) (cI cS cW cL : ClassId) (q : Nat → Nat) (qo : Nat) (S : zSt) (u : Nat → Int64) (t : State) : Prop := va_P D vwCl (zwX cI cS cW q S) t.heap ∧ va_P D vwCl (zo cL qo u) t.heap
def vsLa : List Cond := .codeWith yL_answer cL_answer 4 (some .int) [(0, 9, 12, 13)] :: zUx
def rmL_ans : Room := { frames := 7, cells := 1, slots := 6, locals := 130 }
theorem yd_ans : yX10_answer.cls = RX10 ∧ yX10_answer.cls ≠ "java/lang/invoke/MethodHandle" ∧ yX10_answer.cls ≠ "java/lang/invoke/VarHandle" ∧ (parseMethodDescriptor yX10_answer.desc).map (fun d => d.parameters.length) = some 1 := by decide +kernel
theorem zGVx : GoodIn zUx (wsV RL 7 RX10 yX10_answer vsXb) := zGx (List.forall_mem_append.mpr ⟨List.forall_mem_cons.mpr ⟨zUl zl_aL, List.forall_mem_cons.mpr ⟨zUl zl_aI, List.forall_mem_cons.mpr ⟨zUl zl_aS, List.forall_mem_cons.mpr ⟨zUl zl_X, fun _ h => absurd h List.not_mem_nil⟩⟩⟩⟩, List.forall_mem_cons.mpr ⟨zUl zl_aC, fun _ q => q⟩⟩)
set_option maxHeartbeats 4000000 in
set_option maxRecDepth 100000 in
theorem cL_ans (l : Launch) (hl0 : l.stackTraces = false) (D : va_G) (cI cS cW cL : ClassId) (q : Nat → Nat) (qo sz : Nat) (x1 : Int32) (S : zSt) (f : Nat → Int64) (kr : Nat) (h : (kr = 0 ∧ fX_X10_isCall x1 S = some (nI 1) ∧ zin x1 200 = true) ∨ (kr = 1 ∧ fX_X10_isCall x1 S = some (nI 0))) : Met l yL_answer vsLa rmL_ans (va_Pc [.ref (q 6), .int x1, .ref qo] (zhP D cI cS cW cL q qo sz S f)) (va_Qi (fun (r : Int32) (u : Nat → Int64) => r = nI kr ∧ (kr = 0 → u 0 = (S.2 30 x1.toNatClampNeg).toInt64)) (zhB D cI cS cW cL q qo S) (zhA cI cS cW q qo sz S)) 1 6 (zhA cI cS cW q qo sz S) := by
  refine va_MetW (cc := cL_answer) (maxL := 4) (ret := (some .int)) (by decide) rfl ?_
  intro p e s m args below meth c s₁ B hml hv
  obtain ⟨rfl, rfl, hP, hPo, hK, hKo, hD0, hdis, hN, hT⟩ := hv
  have hl := lv_entry ([.ref (q 6), .int x1, .ref qo]) (n := 4) (Nat.le_of_ble_eq_true rfl)
  rw [lg_entry_eq]
  generalize (lg_sl ([.ref (q 6), .int x1, .ref qo]) ++ List.replicate (4 - (lg_sl ([.ref (q 6), .int x1, .ref qo])).length) Slot.unset).toArray = ls at hl ⊢
  have hl : lv_has ls 4 [(0, .ref (q 6)), (1, .int x1), (2, .ref qo)] := hl
  have hws : ∀ w ∈ vsLa, w.before ([.ref (q 6), .int x1, .ref qo] : List Value).toArray s = true := fun w h => atoms_spec (ws := vsLa) B.pre w h
  have Cx : zCX p s m ([.ref (q 6), .int x1, .ref qo] : List Value).toArray meth c cL_answer 4 (some .int) zUx RL := ⟨B.exec, B.bytes, hml, findClass_of_methodNamed B.named, fun w h => hws w (List.mem_cons_of_mem _ h), B.returns, B.notSynchronized⟩
  have C : zCX p s m ([.ref (q 6), .int x1, .ref qo] : List Value).toArray meth c cL_answer 4 (some .int) zU RL := ⟨Cx.1, Cx.2.1, Cx.2.2.1, Cx.2.2.2.1, fun w h => Cx.2.2.2.2.1 w (zUl h), Cx.2.2.2.2.2⟩
  obtain ⟨A, hA⟩ : ∃ A : Nat → Prop, A = zhA cI cS cW q qo s.heap.size S := ⟨_, rfl⟩
  rw [← hA] at hT ⊢
  have hE : zE D (zyX cI cS cW) znX A s := ⟨hK, fun q h => by rw [hA]; exact Or.inl (Or.inr h), hN⟩
  have hDX : va_D A (zwX cI cS cW q S) := ⟨hD0.1, fun k x hx => by rw [hA]; exact Or.inl (va_A.in hx)⟩
  have hAo : A qo := by rw [hA]; exact Or.inr rfl
  have hH : zH D (zwX cI cS cW q) A s S s.heap [] := ⟨hP, hDX, va_S.rf⟩
  have hdo : ∀ (f : Nat → Int64) (k j : Nat) (x y : Nat × va_E), (zwX cI cS cW q S)[k]? = some x → (zo cL qo f)[j]? = some y → x.1 ≠ y.1 := fun f k j x y hx hy => by rw [zo_1 hy]; exact hdis k x hx
  have hx := C.1
  have hb := C.2.1
  have hF := z_free hE hH
  refine lv_aload_n hx hb dL_answer_0 rfl (lv_at hl 2 rfl) ?_
  refine lv_iconst (v := 0) hx hb dL_answer_1 (by decide) ?_
  refine lv_aload_n hx hb dL_answer_2 rfl (lv_at hl 0 rfl) ?_
  refine lv_iload_n hx hb dL_answer_3 rfl (lv_at hl 1 rfl) ?_
  rcases h with ⟨rfl, h1, h2⟩ | ⟨rfl, h1⟩
  · refine va_calli (va_runV (As := [.int x1]) (rest := [.int 0, .ref qo]) (z_fix C) (cX_ans l D cI cS cW q s.heap.size x1 S h1 h2) (cwV 1 C.2.2.2.2.1 (zGV zl_aL zl_aI zl_aS zl_X zl_aC) rfl rfl rfl yd_ans ⟨Nat.le_of_ble_eq_true rfl, Nat.le_of_ble_eq_true rfl⟩) (z_preV (zNmX hE) hE hH zX_o6 rfl) rfl rfl hl.1 rfl (lv_room (Nat.le_of_ble_eq_true rfl)) dL_answer_4 ⟨Nat.le_of_ble_eq_true rfl, Nat.le_of_ble_eq_true rfl⟩) hH.2.2 (fun q _ h => hF q h) hF (fun r u t H1 locs1 ht hvm hw hB hz hk hS => ?_)
    obtain ⟨rfl, rfl⟩ := hw
    obtain ⟨b1, b2, b3⟩ := hB
    rw [ht] at b1
    have hPo1 : va_P D vwCl (zo cL qo f) H1 := z_rest hPo (hdo f) hk
    refine lv_i2l (v := (u.2 30 x1.toNatClampNeg).toInt64) hx hb dL_answer_7 rfl ?_
    refine va_last hx hb hKo (va_P.app b1 hPo1) (va_D.app hDX (zo_D hAo) (fun i j x y h1 h2 => hdo f i j x y h1 h2)) hS 42 0 (cA := cL) (n := 1) (f := f) rfl rfl (i := 0) (vp_in_nI (n := 0) (N := 1) (by omega) (by omega)) dL_answer_8 (fun H2 locs2 k1 k2 k3 => ?_)
    have k1' : va_P D vwCl (zwX cI cS cW q u ++ zo cL qo (vp_updL f (0 : Int32).toNatClampNeg (u.2 30 x1.toNatClampNeg).toInt64)) H2 := k1
    refine lv_goto (tgt := 15) hx hb dL_answer_9 (by decide) ?_
    refine lv_iconst (v := 0) hx hb dL_answer_15 (by decide) ?_
    refine W.widen (k := 1) (n := 6) (by decide) (by decide) ?_
    exact W.iret hx hb C.2.2.2.2.2.1 (fun t ht hW => ⟨⟨0, _, rfl, ⟨rfl, fun _ => rfl⟩, by rw [ht]; exact zPl k1', by rw [ht]; exact zPr k1'⟩, k3.F ht⟩) k3.2.2 dL_answer_16 C.2.2.2.2.2.2
  · refine vx_calli (vx_runV (As := [.int x1]) (rest := [.int 0, .ref qo]) (z_fix Cx) (cX_thr l hl0 D cI cS cW q s.heap.size x1 S h1) (cwV 1 Cx.2.2.2.2.1 zGVx rfl rfl rfl yd_ans ⟨Nat.le_of_ble_eq_true rfl, Nat.le_of_ble_eq_true rfl⟩) ⟨fun a U g mk hq => ⟨hq.1, (z_blind (nws := znX) a U g mk ⟨hq.1, hq.2.1⟩).2, zTw_blind hq.2.2⟩, va_recv hE.1 hH.1 (ci := 7) (q0 := 6) rfl zX_o6, fun U hU hW => ⟨rfl, ⟨by rw [hU], by rw [hU]; exact hH.1, va_K.moved hW.alike hE.1, hH.2.1.weaken (fun _ _ _ _ => trivial), zNmX hE U hW⟩, zTw_warm hW hH.2.2 hF hU hT⟩⟩ rfl rfl hl.1 rfl (lv_room (Nat.le_of_ble_eq_true rfl)) dL_answer_4 ⟨Nat.le_of_ble_eq_true rfl, Nat.le_of_ble_eq_true rfl⟩) hH.2.2 (fun q _ h => hF q h) hF (fun q _ h => hF q h) (fun E ce q9 u t H1 locs1 ht hvm hpx hBX hz hk hS hce hcv hcl => ?_) (fun r u t H1 locs1 ht hvm hw hB hz hk hS => hw.elim)
    obtain ⟨rfl, b1, b2, b3⟩ := hBX
    subst hpx
    rw [ht] at b1
    have hPo1 : va_P D vwCl (zo cL qo f) H1 := z_rest hPo (hdo f) hk
    have htab := vx_table (x := yL_answer) B (hws _ List.mem_cons_self)
    refine vx_catch (own := RL) (name := "java/util/NoSuchElementException") C.2.2.2.1 [] ⟨0, 9, 12, 13⟩ [] htab (fun z hz => nomatch hz) (by decide) (by decide) (C.2.2.2.2.1 _ zl_LK) (va_any (hT.2.1 _ (List.mem_of_getElem? (i := 3) rfl)).1 (hT.2.1 _ (List.mem_of_getElem? (i := 3) rfl)).2) hce hcv hcl ?_
    refine lv_astore_n (lv' := [(3, .ref q9), (0, .ref (q 6)), (1, .int x1), (2, .ref qo)]) hx hb dL_answer_12 rfl hl (by decide) rfl (fun ls hl => ?_)
    refine lv_iconst (v := 1) hx hb dL_answer_13 (by decide) ?_
    exact W.iret hx hb C.2.2.2.2.2.1 (fun t ht hW => ⟨⟨1, f, rfl, ⟨rfl, fun h => nomatch h⟩, by rw [ht]; exact b1, by rw [ht]; exact hPo1⟩, hS.F ht⟩) hS.2.2 dL_answer_14 C.2.2.2.2.2.2

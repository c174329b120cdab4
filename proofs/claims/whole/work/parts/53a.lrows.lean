/-! THE LAW: its world is the class, the reference, its own long[1] -/
def zLw (D : va_G) (cI cS cW cL : ClassId) (q q2 : Nat → Nat) (qo : Nat) (s : State) (SX SM : zSt) (f : Nat → Int64) (H : Heap) (locs : List Loc) : Prop := va_P D vwCl (zwX cI cS cW q SX) H ∧ va_P D vwCl (zwM cI q2 SM) H ∧ va_P D vwCl (zo cL qo f) H ∧ va_S (fun x : Nat => s.heap.size ≤ x) s.heap H locs
def zLd (cI cS cW : ClassId) (q q2 : Nat → Nat) (qo : Nat) (s : State) : Prop := (∀ S, va_D (fun x : Nat => s.heap.size ≤ x) (zwX cI cS cW q S)) ∧ (∀ S, va_D (fun x : Nat => s.heap.size ≤ x) (zwM cI q2 S)) ∧ s.heap.size ≤ qo ∧ (∀ (S S' : zSt) (k j : Nat) (x y : Nat × va_E), (zwX cI cS cW q S)[k]? = some x → (zwM cI q2 S')[j]? = some y → x.1 ≠ y.1) ∧ (∀ (S : zSt) (k : Nat) (x : Nat × va_E), (zwX cI cS cW q S)[k]? = some x → x.1 ≠ qo) ∧ ∀ (S : zSt) (k : Nat) (x : Nat × va_E), (zwM cI q2 S)[k]? = some x → x.1 ≠ qo
def zLs (p : Program) (l : Launch) (s : State) (m : MethodId) (b : Nat) (meth : Method) (c : Code) (L : Nat) (xs : Nat → Int32) (D : va_G) (cI cS cW cL : ClassId) (q q2 : Nat → Nat) (qo : Nat) : Prop := (zCX p s m #[.ref b] meth c code 7 ret zUx RL ∧ l.stackTraces = false) ∧ (va_K D vwCl (zyX cI cS cW) s ∧ va_K D vwCl [(cL, .long)] s ∧ (∀ x ∈ znX, zNw x s) ∧ zTw (fun x : Nat => s.heap.size ≤ x) s s.heap) ∧ (va_X b L xs s s.heap ∧ b < s.heap.size ∧ L ≤ 2560) ∧ zLd cI cS cW q q2 qo s
abbrev zLl (b : Nat) (q q2 : Nat → Nat) (qo i : Nat) : List (Nat × Value) := [(0, .ref b), (1, .ref (q 6)), (2, .ref (q2 32)), (3, .ref qo), (4, .int (nI i))]
def zLk (p : Program) (l : Launch) (e : Env) (s : State) (m : MethodId) (below : List Frame) (meth : Method) (c : Code) (cells slots : Nat) (Q : State → Prop) (D : va_G) (cI cS cW cL : ClassId) (q q2 : Nat → Nat) (qo b i : Nat) : Prop := ∀ (ls : Array Slot) (SX SM : zSt) (f : Nat → Int64) (H : Heap) (locs : List Loc), lv_has ls 7 (zLl b q q2 qo i) → zTp SX SM → zLw D cI cS cW cL q q2 qo s SX SM f H locs → W p l e room_1 s m #[.ref b] below meth c H locs cells slots Q (F0 m 678 ls [])
theorem zs_in {i k L : Nat} (h : i + k < L) (hL : L ≤ 2560) : vp_in (nI i + nI k) L := by rw [zI_add]; exact vp_in_nI h (by omega)
theorem zl_cmp (x : Int64) : lg_cmp x x = 0 := by
  unfold lg_cmp
  rw [if_neg (fun h => Int64.lt_irrefl h), if_pos rfl]
section ZL
variable {p : Program} {l : Launch} {e : Env} {R : Room} {s : State} {m : MethodId} {args : Array Value} {below : List Frame} {meth : Method} {c : Code} {H : Heap} {locs : List Loc} {cells slots : Nat} {Q : State → Prop} {pc : Nat} {ls : Array Slot} {rest : List Value}
variable {D : va_G} {cI cS cW cL : ClassId} {q q2 : Nat → Nat} {qo b L : Nat} {xs : Nat → Int32} {SX SM S9 : zSt} {f : Nat → Int64} {r9 : Int32}
theorem zLs_Cx (Z : zLs p l s m b meth c L xs D cI cS cW cL q q2 qo) : zCX p s m #[.ref b] meth c code 7 ret zUx RL := Z.1.1
theorem zLs_C (Z : zLs p l s m b meth c L xs D cI cS cW cL q q2 qo) : zCX p s m #[.ref b] meth c code 7 ret zU RL := ⟨Z.1.1.1, Z.1.1.2.1, Z.1.1.2.2.1, Z.1.1.2.2.2.1, fun w h => Z.1.1.2.2.2.2.1 w (zUl h), Z.1.1.2.2.2.2.2⟩
theorem zLs_EX (Z : zLs p l s m b meth c L xs D cI cS cW cL q q2 qo) : zE D (zyX cI cS cW) znX (fun x : Nat => s.heap.size ≤ x) s := ⟨Z.2.1.1, fun _ h => h, Z.2.1.2.2.1⟩
theorem zLs_EM (Z : zLs p l s m b meth c L xs D cI cS cW cL q q2 qo) : zE D [(cI, .int)] [] (fun x : Nat => s.heap.size ≤ x) s := ⟨Z.2.1.1.sub [0] rfl, fun _ h => h, fun x hx => absurd hx List.not_mem_nil⟩
theorem zLw_X (Z : zLs p l s m b meth c L xs D cI cS cW cL q q2 qo) (h : zLw D cI cS cW cL q q2 qo s SX SM f H locs) : zH D (zwX cI cS cW q) (fun x : Nat => s.heap.size ≤ x) s SX H locs := ⟨h.1, Z.2.2.2.1 SX, h.2.2.2⟩
theorem zLw_M (Z : zLs p l s m b meth c L xs D cI cS cW cL q q2 qo) (h : zLw D cI cS cW cL q q2 qo s SX SM f H locs) : zH D (zwM cI q2) (fun x : Nat => s.heap.size ≤ x) s SM H locs := ⟨h.2.1, Z.2.2.2.2.1 SM, h.2.2.2⟩
theorem zl_x {st0 : List Value} {av : Array Value} (Z : zLs p l s m b meth c L xs D cI cS cW cL q q2 qo) (hH : zLw D cI cS cW cL q q2 qo s SX SM f H locs) (hr : va_Run p l e R s m args below meth c H locs cells slots 0 0 (F0 m pc ls st0) rest (va_Qi (fun (r : Int32) (u : zSt) => r = r9 ∧ u = S9) (zPost D (zwX cI cS cW q) (zyX cI cS cW) (va_A (zwX cI cS cW q SX) H.size)) (va_A (zwX cI cS cW q SX) H.size) av) (va_A (zwX cI cS cW q SX) H.size))
    (kk : ∀ (H1 : Heap) (locs1 : List Loc), zLw D cI cS cW cL q q2 qo s S9 SM f H1 locs1 → W p l e R s m args below meth c H1 locs1 cells slots Q (F0 m (pc + 3) ls (.int r9 :: rest))) : W p l e R s m args below meth c H locs cells slots Q (F0 m pc ls st0) := by
  have hF := z_free (zLs_EX Z) (zLw_X Z hH)
  refine va_calli hr hH.2.2.2 (fun q _ h => hF q h) hF (fun r u t H1 locs1 ht hvm hw hB hz hk hS => ?_)
  obtain ⟨rfl, rfl⟩ := hw
  obtain ⟨b1, b2, b3⟩ := hB
  rw [ht] at b1
  exact kk H1 locs1 ⟨b1, z_rest hH.2.1 (Z.2.2.2.2.2.2.1 SX SM) hk, z_rest hH.2.2.1 (fun k j x y hx hy => by rw [zo_1 hy]; exact Z.2.2.2.2.2.2.2.1 SX k x hx) hk, hS⟩
theorem zl_m {st0 : List Value} {av : Array Value} (Z : zLs p l s m b meth c L xs D cI cS cW cL q q2 qo) (hH : zLw D cI cS cW cL q q2 qo s SX SM f H locs) (hr : va_Run p l e R s m args below meth c H locs cells slots 0 0 (F0 m pc ls st0) rest (va_Qi (fun (r : Int32) (u : zSt) => r = r9 ∧ u = S9) (zPost D (zwM cI q2) [(cI, .int)] (va_A (zwM cI q2 SM) H.size)) (va_A (zwM cI q2 SM) H.size) av) (va_A (zwM cI q2 SM) H.size))
    (kk : ∀ (H1 : Heap) (locs1 : List Loc), zLw D cI cS cW cL q q2 qo s SX S9 f H1 locs1 → W p l e R s m args below meth c H1 locs1 cells slots Q (F0 m (pc + 3) ls (.int r9 :: rest))) : W p l e R s m args below meth c H locs cells slots Q (F0 m pc ls st0) := by
  have hF := z_free (zLs_EM Z) (zLw_M Z hH)
  refine va_calli hr hH.2.2.2 (fun q _ h => hF q h) hF (fun r u t H1 locs1 ht hvm hw hB hz hk hS => ?_)
  obtain ⟨rfl, rfl⟩ := hw
  obtain ⟨b1, b2, b3⟩ := hB
  rw [ht] at b1
  exact kk H1 locs1 ⟨z_rest hH.1 (fun k j x y hx hy h => Z.2.2.2.2.2.2.1 SX SM j k y x hy hx h.symm) hk, b1, z_rest hH.2.2.1 (fun k j x y hx hy => by rw [zo_1 hy]; exact Z.2.2.2.2.2.2.2.2 SM k x hx) hk, hS⟩
theorem zh_A (Z : zLs p l s m b meth c L xs D cI cS cW cL q q2 qo) (hH : zLw D cI cS cW cL q q2 qo s SX SM f H locs) : ∀ a, zhA cI cS cW q qo H.size SX a → s.heap.size ≤ a := fun a h => by
  rcases h with h | h
  · exact z_free (zLs_EX Z) (zLw_X Z hH) a h
  · rw [h]; exact Z.2.2.2.2.2.1
theorem zl_h {st0 : List Value} {av : Array Value} {g9 : (Nat → Int64) → Prop} (Z : zLs p l s m b meth c L xs D cI cS cW cL q q2 qo) (hH : zLw D cI cS cW cL q q2 qo s SX SM f H locs) (hr : va_Run p l e R s m args below meth c H locs cells slots 1 6 (F0 m pc ls st0) rest (va_Qi (fun (r : Int32) (u : Nat → Int64) => r = r9 ∧ g9 u) (zhB D cI cS cW cL q qo SX) (zhA cI cS cW q qo H.size SX) av) (zhA cI cS cW q qo H.size SX))
    (kk : ∀ (f9 : Nat → Int64), g9 f9 → ∀ (H1 : Heap) (locs1 : List Loc), zLw D cI cS cW cL q q2 qo s SX SM f9 H1 locs1 → W p l e R s m args below meth c H1 locs1 (cells + 1) (slots + 6) Q (F0 m (pc + 3) ls (.int r9 :: rest))) : W p l e R s m args below meth c H locs cells slots Q (F0 m pc ls st0) := by
  have hF := zh_A Z hH
  refine va_calli hr hH.2.2.2 (fun q _ h => hF q h) hF (fun r u t H1 locs1 ht hvm hw hB hz hk hS => ?_)
  obtain ⟨rfl, hg⟩ := hw
  obtain ⟨b1, b2⟩ := hB
  rw [ht] at b1 b2
  refine kk u hg H1 locs1 ⟨b1, va_P.kept hH.2.1 (fun k x hx => hk x.1 (vx_lt hH.2.1 hx) (fun h => ?_)), b2, hS⟩
  rcases h with (⟨k', e, hk'⟩ | h) | h
  · exact Z.2.2.2.2.2.2.1 SX SM k' k _ x hk' hx rfl
  · exact absurd (vx_lt hH.2.1 hx) (Nat.not_lt.mpr h)
  · exact Z.2.2.2.2.2.2.2.2 SM k x hx h
theorem zh_pre {x1 : Int32} (Z : zLs p l s m b meth c L xs D cI cS cW cL q q2 qo) (hH : zLw D cI cS cW cL q q2 qo s SX SM f H locs) : PreS s H (va_Pc [.ref (q 6), .int x1, .ref qo] (zhP D cI cS cW cL q qo H.size SX f)) [.ref (q 6), .int x1, .ref qo] := by
  refine ⟨fun a U g mk h => ?_, fun U hU hW => ⟨rfl, by rw [hU], by rw [hU]; exact hH.1, by rw [hU]; exact hH.2.2.1, va_K.moved hW.alike Z.2.1.1, va_K.moved hW.alike Z.2.1.2.1, (Z.2.2.2.1 SX).weaken (fun _ _ _ _ => trivial), Z.2.2.2.2.2.2.2.1 SX, zNmX (zLs_EX Z) U hW, zTw_warm hW hH.2.2.2 (zh_A Z hH) hU Z.2.1.2.2.2⟩⟩
  obtain ⟨h0, h1, h2, h3, h4, h5, h6, h7, h8, h9⟩ := h
  exact ⟨h0, h1, h2, h3, va_K.moved (u := U) (U := U.calling g mk a) (Vm.Alike.refl U.vm) h4, va_K.moved (u := U) (U := U.calling g mk a) (Vm.Alike.refl U.vm) h5, h6, h7, fun x hx => zNw_moved (h8 x hx), zTw_blind h9⟩
end ZL
theorem zGSh : GoodIn zUx (va_wsS RL 46 yL_answer vsLa) := zGx (List.forall_mem_append.mpr ⟨List.forall_mem_cons.mpr ⟨zUl zl_hL, List.forall_mem_cons.mpr ⟨zUl zl_hS, List.forall_mem_cons.mpr ⟨zUl zl_L, fun _ h => absurd h List.not_mem_nil⟩⟩⟩, List.forall_mem_cons.mpr ⟨zUl zl_hC, fun _ q => q⟩⟩)
theorem zyd_h : yL_answer.cls ≠ "java/lang/invoke/MethodHandle" ∧ yL_answer.cls ≠ "java/lang/invoke/VarHandle" ∧ (parseMethodDescriptor yL_answer.desc).map (fun d => d.parameters.length) = some 3 := by decide +kernel

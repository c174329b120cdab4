/-! making: the words that no list may hold, arrays of the known classes -/
theorem va_AOA.moved {ty : FieldType} {u U : State} (hvm : u.vm.Alike U.vm) (h : va_AOA ty u) : va_AOA ty U := by
  have h' : (Cond.arrayOver (.array ty)).holds #[] u none u [] = true := h
  simp only [Cond.holds, Cond.value, beq_iff_eq] at h'
  cases hc : u.vm.findClass (FieldType.array ty).toString with
  | none => simp [hc] at h'
  | some comp =>
    simp only [hc, Option.bind_some, Option.bind_eq_some_iff, Option.map_eq_some_iff] at h'
    obtain ⟨c, hi, k, hk, hb⟩ := h'
    obtain ⟨k', hk', he⟩ := hvm.2.2 _ _ hk
    have hi2 : (U.vm.classes.findIdx? fun (x : Class) => match x.kind with | .array component _ => component == comp | _ => false) = some c := by
      have b : U.vm.bare = u.vm.bare := by first | exact hvm.bare_eq | exact hvm.bare_eq.symm
      refine (va_idx_bare U.vm comp).symm.trans ?_
      rw [b]
      exact (va_idx_bare u.vm comp).trans hi
    have f1 : U.vm.findClass (FieldType.array ty).toString = some comp := by rw [hvm.findClass]; exact hc
    cases hkind : k.kind with
    | array component ty2 =>
      rw [hkind] at hb
      simp at hb
      have hkind2 : k'.kind = .array component (.array ty) := by rw [he, ← hb.1]; exact hkind
      have f2 : U.vm.findClass ("[" ++ (FieldType.array ty).toString) = some c := by rw [hvm.findClass]; exact hb.2
      unfold va_AOA Cond.before Cond.holds
      simp only [Cond.value]
      rw [f1, Option.bind_some]
      refine (congrArg (fun o : Option Nat => (o.bind (fun c => (U.vm.classes[c]?).map fun (k : Class) => match k.kind with | .array _ ty' => decide (ty' = FieldType.array ty) && decide (U.vm.findClass ("[" ++ (FieldType.array ty).toString) = some c) | _ => false) == some true)) hi2).trans ?_
      simp [hk', hkind2, f2]
    | _ => rw [hkind] at hb; simp at hb
def znC : List Cond := [.methodLinkNest RX4 3 yX7_init "WhichShelf", .methodLinkNest RX1 3 yX7_init "WhichShelf", .methodLinkNest RX0 3 yX1_init "WhichShelf", .methodLinkNest RX9 3 yX1_init "WhichShelf", .methodLinkNest RX10 26 yX9_init "WhichShelf", .methodLinkNest RX10 32 yX0_init "WhichShelf", .methodLinkNest RX10 69 yX5_init "WhichShelf", .castable RX6 "WhichShelf$Shelf", .castable RX8 "WhichShelf$Shelf", .castable RX2 "WhichShelf$Shelf", .castable RX9 "WhichShelf$Shelf", .castable RX3 "WhichShelf$Shelf", .castable RX0 "WhichShelf$Shelf"]
theorem znC_0 : (.methodLinkNest RX4 3 yX7_init "WhichShelf" : Cond) ∈ znC := List.mem_of_getElem? (i := 0) rfl

theorem znC_1 : (.methodLinkNest RX1 3 yX7_init "WhichShelf" : Cond) ∈ znC := List.mem_of_getElem? (i := 1) rfl

theorem znC_2 : (.methodLinkNest RX0 3 yX1_init "WhichShelf" : Cond) ∈ znC := List.mem_of_getElem? (i := 2) rfl

theorem znC_3 : (.methodLinkNest RX9 3 yX1_init "WhichShelf" : Cond) ∈ znC := List.mem_of_getElem? (i := 3) rfl

theorem znC_4 : (.methodLinkNest RX10 26 yX9_init "WhichShelf" : Cond) ∈ znC := List.mem_of_getElem? (i := 4) rfl

theorem znC_5 : (.methodLinkNest RX10 32 yX0_init "WhichShelf" : Cond) ∈ znC := List.mem_of_getElem? (i := 5) rfl

theorem znC_6 : (.methodLinkNest RX10 69 yX5_init "WhichShelf" : Cond) ∈ znC := List.mem_of_getElem? (i := 6) rfl

theorem znC_7 : (.castable RX6 "WhichShelf$Shelf" : Cond) ∈ znC := List.mem_of_getElem? (i := 7) rfl

theorem znC_8 : (.castable RX8 "WhichShelf$Shelf" : Cond) ∈ znC := List.mem_of_getElem? (i := 8) rfl

theorem znC_9 : (.castable RX2 "WhichShelf$Shelf" : Cond) ∈ znC := List.mem_of_getElem? (i := 9) rfl

theorem znC_10 : (.castable RX9 "WhichShelf$Shelf" : Cond) ∈ znC := List.mem_of_getElem? (i := 10) rfl

theorem znC_11 : (.castable RX3 "WhichShelf$Shelf" : Cond) ∈ znC := List.mem_of_getElem? (i := 11) rfl

theorem znC_12 : (.castable RX0 "WhichShelf$Shelf" : Cond) ∈ znC := List.mem_of_getElem? (i := 12) rfl

def yN (U : State) : Prop := (∀ x ∈ znC, zNw x U) ∧ va_AO "WhichShelf$Shelf" U ∧ va_AOA .int U
theorem yN_moved {s U : State} (hW : s.WarmedH U.vm) (h : yN s) : yN U := by
  refine ⟨fun x hx => ?_, va_AO.moved hW.alike h.2.1, va_AOA.moved hW.alike h.2.2⟩
  obtain ⟨ho, h⟩ := h.1 x hx
  refine ⟨ho, ?_⟩
  clear ho
  simp only [znC, List.mem_cons, List.not_mem_nil, or_false] at hx
  rcases hx with rfl | rfl | rfl | rfl | rfl | rfl | rfl | rfl | rfl | rfl | rfl | rfl | rfl
  · exact va_Nw.warmM hW h
  · exact va_Nw.warmM hW h
  · exact va_Nw.warmM hW h
  · exact va_Nw.warmM hW h
  · exact va_Nw.warmM hW h
  · exact va_Nw.warmM hW h
  · exact va_Nw.warmM hW h
  · exact va_Nw.warmC hW h
  · exact va_Nw.warmC hW h
  · exact va_Nw.warmC hW h
  · exact va_Nw.warmC hW h
  · exact va_Nw.warmC hW h
  · exact va_Nw.warmC hW h
def yPre (D : va_G) (w : va_W) (tys : List (ClassId × FieldType)) (sz : Nat) (U : State) : Prop := U.heap.size = sz ∧ va_P D vwCl w U.heap ∧ va_K D vwCl tys U ∧ va_D (fun _ => True) w ∧ yN U
theorem y_blind {av : List Value} {D : va_G} {w : va_W} {tys : List (ClassId × FieldType)} {sz : Nat} : FrameBlind (va_Pc av (yPre D w tys sz)) := fun a U g mk q => by
  obtain ⟨q0, q1, qP, qK, qD, qN⟩ := q
  exact ⟨q0, q1, qP, va_K.moved (u := U) (U := U.calling g mk a) (Vm.Alike.refl U.vm) qK, qD, fun x hx => zNw_moved (qN.1 x hx), va_AO.moved (u := U) (U := U.calling g mk a) (Vm.Alike.refl U.vm) qN.2.1, va_AOA.moved (u := U) (U := U.calling g mk a) (Vm.Alike.refl U.vm) qN.2.2⟩
theorem yK_int {D : va_G} {tys : List (ClassId × FieldType)} {s : State} {cA cI : ClassId} {t0 : Nat} (hK : va_K D vwCl tys s) (ht : tys[t0]? = some (cI, .int)) (hK' : va_K D vwCl (tys ++ [(cA, .int)]) s) : cA = cI := by
  have h1 : s.vm.findClass ("[" ++ (FieldType.int).toString) = some cI := (hK.2 t0 _ ht).2
  have h2 : s.vm.findClass ("[" ++ (FieldType.int).toString) = some cA := (hK'.2 tys.length (cA, .int) (by simp)).2
  exact Option.some.inj (h2.symm.trans h1)
theorem yK_arr {D : va_G} {tys : List (ClassId × FieldType)} {s : State} {cA cI : ClassId} {t0 : Nat} (hK : va_K D vwCl tys s) (ht : tys[t0]? = some (cI, .array .int)) (hK' : va_K D vwCl (tys ++ [(cA, .array .int)]) s) : cA = cI := by
  have h1 : s.vm.findClass ("[" ++ (FieldType.array .int).toString) = some cI := (hK.2 t0 _ ht).2
  have h2 : s.vm.findClass ("[" ++ (FieldType.array .int).toString) = some cA := (hK'.2 tys.length (cA, .array .int) (by simp)).2
  exact Option.some.inj (h2.symm.trans h1)
theorem yK_obj {D : va_G} {tys : List (ClassId × FieldType)} {s : State} {cA cI : ClassId} {C : String} {t0 : Nat} (hK : va_K D vwCl tys s) (ht : tys[t0]? = some (cI, .object C)) (hK' : va_K D vwCl (tys ++ [(cA, .object C)]) s) : cA = cI := by
  obtain ⟨_, _, _, _, _, h1⟩ := (hK.2 t0 _ ht).2
  obtain ⟨_, _, _, _, _, h2⟩ := (hK'.2 tys.length (cA, .object C) (by simp)).2
  exact Option.some.inj (h2.symm.trans h1)
/-- what a body that makes things has at hand -/
def yE (D : va_G) (tys : List (ClassId × FieldType)) (A : Nat → Prop) (s : State) : Prop := va_K D vwCl tys s ∧ (∀ q : Nat, s.heap.size ≤ q → A q) ∧ yN s
def yH (D : va_G) (w : va_W) (A : Nat → Prop) (s : State) (H : Heap) (locs : List Loc) : Prop := va_P D vwCl w H ∧ va_D A w ∧ va_S A s.heap H locs
theorem y_ext {D : va_G} {H : Heap} {a : Nat} {cA : ClassId} {n : Nat} {f g : Nat → Option Nat} (h : va_at D vwCl (a, .inl (cA, n, .inr (.inr (.inr (.inr f))))) H) (e : ∀ j, j < n → f j = g j) : va_at D vwCl (a, .inl (cA, n, .inr (.inr (.inr (.inr g))))) H := by
  have h' : H[a]? = some (arrV cA n (fun j => va_rf (f j))) := h
  have e' : arrV cA n (fun j => va_rf (f j)) = arrV cA n (fun j => va_rf (g j)) := by
    unfold arrV
    congr 1
    congr 1
    funext j
    show va_rf (f j.val) = va_rf (g j.val)
    rw [e j.val j.isLt]
  rw [e'] at h'
  exact h'
theorem y_Dadr {A : Nat → Prop} {w w' : va_W} (h : w.map (·.1) = w'.map (·.1)) (hD : va_D A w) : va_D A w' := by
  have key : ∀ (k : Nat) (z : Nat × va_E), w'[k]? = some z → ∃ z2, w[k]? = some z2 ∧ z2.1 = z.1 := fun k z hz => by
    have h1 : (w'.map (·.1))[k]? = some z.1 := by rw [List.getElem?_map, hz]; rfl
    rw [← h, List.getElem?_map] at h1
    cases hw : w[k]? with
    | none => rw [hw] at h1; cases h1
    | some z2 => rw [hw] at h1; exact ⟨z2, rfl, Option.some.inj h1⟩
  refine ⟨fun i j p q hp hq e => ?_, fun k z hz => ?_⟩
  · obtain ⟨p2, h1, e1⟩ := key i p hp
    obtain ⟨q2, h2, e2⟩ := key j q hq
    exact hD.1 i j p2 q2 h1 h2 (by rw [e1, e2]; exact e)
  · obtain ⟨z2, h1, e1⟩ := key k z hz
    rw [← e1]; exact hD.2 k z2 h1
theorem y_inner (c : ClassId) : Jvm.Free.Multi.innerC c 200 (defaultValue .int) = vp_cell c (200, .inl (fun _ => 0)) := by
  show _ = arrV c 200 (fun _ => .int 0)
  rw [← arrV_new]
  rfl
section YB
variable {p : Program} {l : Launch} {e : Env} {R : Room} {s : State} {m : MethodId} {args : Array Value} {below : List Frame} {meth : Method} {c : Code} {H : Heap} {locs : List Loc} {cells slots : Nat} {Q : State → Prop}
variable {cc : ByteArray} {pc nL : Nat} {ls : Array Slot} {rest : List Value} {D : va_G} {A : Nat → Prop} {a : Nat} {tys : List (ClassId × FieldType)} {Ts : List Cond} {own : String} {ret : Option FieldType} {w wc : va_W}
theorem y_preS {As : List Value} (hE : yE D tys A s) (hP : va_P D vwCl wc H) (hD : va_D A wc) : PreS s H (va_Pc As (yPre D wc tys H.size)) As :=
  ⟨y_blind, fun U hU hW => ⟨rfl, by rw [hU], by rw [hU]; exact hP, va_K.moved hW.alike hE.1, hD.weaken (fun _ _ _ _ => trivial), yN_moved hW hE.2.2⟩⟩
theorem y_newi {cI : ClassId} (C : zCX p s m args meth c cc nL ret Ts own) (hE : yE D tys A s) (hH : yH D w A s H locs) (harr : Cond.arrayClass .int ∈ Ts) (t0 : Nat) (ht : tys[t0]? = some (cI, .int)) {n : Int32} {N : Nat} (hn : ¬ n < 0) (hN : n.toNatClampNeg = N) (hb : N * componentBytes .int ≤ 536870912) (hcells : cells + 1 ≤ R.cells) (hslots : slots + N ≤ R.slots) (hd : decode cc pc = .ok (.newarray .int, 2))
    (kk : ∀ (q : Nat) (H1 : Heap), yH D (w ++ [(q, .inl (cI, N, .inl (fun _ => 0)))]) A s H1 locs → W p l e R s m args below meth c H1 locs (cells + 1) (slots + N) Q (F0 m (pc + 2) ls (.ref q :: rest))) : W p l e R s m args below meth c H locs cells slots Q (F0 m pc ls (.int n :: rest)) := by
  refine va_newa C.1 C.2.1 (atype := .int) (C.2.2.2.2.1 _ harr) (ty := .int) rfl hE.1 hH.1 hH.2.1 hH.2.2 hE.2.1 (a0 := (N, .inl (fun _ => 0))) (fun _ => rfl) hn hN hb hcells hslots hd (fun q cA H1 k1 k2 k3 k4 => ?_)
  cases yK_int hE.1 ht k1
  exact kk q H1 ⟨k2, k3, k4⟩
theorem y_newq {cS : ClassId} {E : String} {index : Nat} (C : zCX p s m args meth c cc nL ret Ts own) (hE : yE D tys A s) (hH : yH D w A s H locs) (hcl : Cond.classLink own index E ∈ Ts) (hao : va_AO E s) (t0 : Nat) (ht : tys[t0]? = some (cS, .object E)) {n : Int32} {N : Nat} (hn : ¬ n < 0) (hN : n.toNatClampNeg = N) (hb : N * 4 ≤ 536870912) (hcells : cells + 1 ≤ R.cells) (hslots : slots + N ≤ R.slots) (hd : decode cc pc = .ok (.anewarray index, 3))
    (kk : ∀ (q : Nat) (H1 : Heap), yH D (w ++ [(q, .inl (cS, N, .inr (.inr (.inr (.inr (fun _ => none))))))]) A s H1 locs → W p l e R s m args below meth c H1 locs (cells + 1) (slots + N) Q (F0 m (pc + 3) ls (.ref q :: rest))) : W p l e R s m args below meth c H locs cells slots Q (F0 m pc ls (.int n :: rest)) := by
  refine va_newq C.1 C.2.1 C.2.2.2.1 (C.2.2.2.2.1 _ hcl) hao hE.1 hH.1 hH.2.1 hH.2.2 hE.2.1 hn hN hb hcells hslots hd (fun q cA H1 k1 k2 k3 k4 => ?_)
  cases yK_obj hE.1 ht k1
  exact kk q H1 ⟨k2, k3, k4⟩
theorem y_new {X : String} {T : u_T} {N ci index : Nat} {ty : Nat → FieldType} (C : zCX p s m args meth c cc nL ret Ts own) (hE : yE D tys A s) (hH : yH D w A s H locs) (hin : ∀ x ∈ u_ws X T N, x ∈ Ts) (hty : ∀ k, k < N → parseFieldDescriptor (T k).2.2.1 = some (ty k)) (hcl : Cond.classLink own index X ∈ Ts) (hinst : Cond.instantiable X N ∈ Ts) (hini : Cond.initialized X ∈ Ts) (hc : vwCl[ci]? = some (X, T, N)) {fs : List Value} (hfs : ∀ j, j < N → defaultValue (ty j) = vp_V fs j) (hcells : cells + 1 ≤ R.cells) (hslots : slots + N ≤ R.slots) (hd : decode cc pc = .ok (.new index, 3))
    (kk : ∀ (q : Nat) (H1 : Heap), yH D (w ++ [(q, .inr (ci, fs))]) A s H1 locs → W p l e R s m args below meth c H1 locs (cells + 1) (slots + N) Q (F0 m (pc + 3) ls (.ref q :: rest))) : W p l e R s m args below meth c H locs cells slots Q (F0 m pc ls rest) :=
  va_new C.1 C.2.1 C.2.2.2.2.1 hin ty hty C.2.2.2.1 (C.2.2.2.2.1 _ hcl) (C.2.2.2.2.1 _ hinst) (C.2.2.2.2.1 _ hini) hE.1 hH.1 hH.2.1 hH.2.2 hE.2.1 hc hfs hcells hslots hd (fun q H1 k2 k3 k4 => kk q H1 ⟨k2, k3, k4⟩)
theorem y_put {ref X : String} {T : u_T} {N ci idx q0 : Nat} {fs : List Value} {v : Value} {ty : FieldType} {ty0 : Nat → FieldType} (C : zCX p s m args meth c cc nL ret Ts own) (hE : yE D tys A s) (hH : yH D w A s H locs) (he : w[q0]? = some (a, .inr (ci, fs))) (hc : vwCl[ci]? = some (X, T, N)) (hin : ∀ x ∈ u_ws X T N, x ∈ Ts) (hty : ∀ k, k < N → parseFieldDescriptor (T k).2.2.1 = some (ty0 k)) (hnm : ∀ a, a < N → ∀ b, b < N → a ≠ b → (T a).2.1 ≠ (T b).2.1) (k : Nat) (hk : k < N) (hlink : Cond.fieldLink own idx ref (T k).2.1 (T k).2.2.1 ∈ Ts) (hsame : (T k).1 = ref) (hfin : (T k).2.2.2 = false) (hdp : ty0 k = ty) (hn : narrow ty v = v) (hfit : fits ty v = true) (hl : k < fs.length) (hd : decode cc pc = .ok (.putfield idx, 3))
    (kk : ∀ (H1 : Heap) (locs1 : List Loc), yH D (w.set q0 (a, .inr (ci, fs.set k v))) A s H1 locs1 → W p l e R s m args below meth c H1 locs1 cells slots Q (F0 m (pc + 3) ls rest)) : W p l e R s m args below meth c H locs cells slots Q (F0 m pc ls (v :: .ref a :: rest)) :=
  va_put C.1 C.2.1 C.2.2.2.2.1 hin ty0 hty hnm C.2.2.2.1 hE.1 hH.1 hH.2.1 hH.2.2 q0 he hc k hk (C.2.2.2.2.1 _ hlink) (fun x h => by rw [← hsame]; exact h) hfin (by rw [← hdp]; exact hty k hk) hn hfit hl hd (fun H1 locs1 a1 a2 a3 => kk H1 locs1 ⟨a1, a2, a3⟩)
theorem y_putF {ref X : String} {T : u_T} {N ci idx q0 : Nat} {fs : List Value} {v : Value} {ty : FieldType} {ty0 : Nat → FieldType} (C : zCX p s m args meth c cc nL ret Ts own) (hE : yE D tys A s) (hH : yH D w A s H locs) (he : w[q0]? = some (a, .inr (ci, fs))) (hc : vwCl[ci]? = some (X, T, N)) (hin : ∀ x ∈ u_ws X T N, x ∈ Ts) (hty : ∀ k, k < N → parseFieldDescriptor (T k).2.2.1 = some (ty0 k)) (hnm : ∀ a, a < N → ∀ b, b < N → a ≠ b → (T a).2.1 ≠ (T b).2.1) (k : Nat) (hk : k < N) (hlink : Cond.fieldLink own idx ref (T k).2.1 (T k).2.2.1 ∈ Ts) (hsame : (T k).1 = ref) (hfin : (T k).2.2.2 = true) (hin2 : meth.name = "<init>") (hdecl : (T k).1 = own) (hdp : ty0 k = ty) (hn : narrow ty v = v) (hfit : fits ty v = true) (hl : k < fs.length) (hd : decode cc pc = .ok (.putfield idx, 3))
    (kk : ∀ (H1 : Heap) (locs1 : List Loc), yH D (w.set q0 (a, .inr (ci, fs.set k v))) A s H1 locs1 → W p l e R s m args below meth c H1 locs1 cells slots Q (F0 m (pc + 3) ls rest)) : W p l e R s m args below meth c H locs cells slots Q (F0 m pc ls (v :: .ref a :: rest)) :=
  va_putF C.1 C.2.1 C.2.2.2.2.1 hin ty0 hty hnm C.2.2.2.1 hE.1 hH.1 hH.2.1 hH.2.2 q0 he hc k hk (C.2.2.2.2.1 _ hlink) (fun x h => by rw [← hsame]; exact h) hfin hin2 hdecl (by rw [← hdp]; exact hty k hk) hn hfit hl hd (fun H1 locs1 a1 a2 a3 => kk H1 locs1 ⟨a1, a2, a3⟩)
theorem y_objInit {idx : Nat} (C : zCX p s m args meth c cc nL ret Ts own) (h1 : Cond.methodLink own idx objectInit ∈ Ts) (h2 : Cond.instanceMethod objectInit ∈ Ts) (h3 : Cond.code objectInit ⟨#[0xb1]⟩ 1 none ∈ Ts) (hsz : ls.size = nL) (hd : decode cc pc = .ok (.invokespecial idx, 3)) (hR : 1 ≤ R.frames) (hL : 2 * (F0 m pc ls (Value.ref a :: rest)).monitorRoom + (rest.map fun v => v.category).sum + 12 ≤ R.locals) (kk : W p l e R s m args below meth c H locs cells slots Q (F0 m (pc + 3) ls rest)) : W p l e R s m args below meth c H locs cells slots Q (F0 m pc ls (.ref a :: rest)) :=
  W.objInit C.1 C.2.1 C.2.2.2.1 (C.2.2.2.2.1 _ h1) (C.2.2.2.2.1 _ h2) (C.2.2.2.2.1 _ h3) rfl (by rw [C.2.2.1]; exact hsz) rfl hd hR hL kk
theorem y_pl (r : Nat → Nat) (f : Nat → va_E) (x : va_E) : va_pl ([] ++ (List.range 6).map r) (vr_up f ((List.range 6).map r) x) = [(r 0, x), (r 1, x), (r 2, x), (r 3, x), (r 4, x), (r 5, x)] := by
  have h : ∀ j, j < 6 → vr_up f ((List.range 6).map r) x (r j) = x := fun j hj => vr_up_in (List.mem_map.mpr ⟨j, List.mem_range.mpr hj, rfl⟩)
  have e : (List.range 6).map r = [r 0, r 1, r 2, r 3, r 4, r 5] := rfl
  unfold va_pl
  rw [List.nil_append]
  show ((List.range 6).map r).map (fun a => (a, vr_up f ((List.range 6).map r) x a)) = _
  generalize hv : vr_up f ((List.range 6).map r) x = v at h ⊢
  rw [e]
  show [(r 0, v (r 0)), (r 1, v (r 1)), (r 2, v (r 2)), (r 3, v (r 3)), (r 4, v (r 4)), (r 5, v (r 5))] = _
  rw [h 0 (by omega), h 1 (by omega), h 2 (by omega), h 3 (by omega), h 4 (by omega), h 5 (by omega)]
theorem y_mna {cI cS cW : ClassId} {index : Nat} (C : zCX p s m args meth c cc nL ret Ts own) (hE : yE D (zyX cI cS cW) A s) (hH : yH D w A s H locs) (hcl : Cond.classLink own index "[[I" ∈ Ts) (harr : Cond.arrayClass .int ∈ Ts) (hcells : cells + (1 + 6) ≤ R.cells) (hslots : slots + (6 + 6 * 200) ≤ R.slots) (hd : decode cc pc = .ok (.multianewarray index 2, 4))
    (kk : ∀ (q : Nat) (r : Nat → Nat) (H1 : Heap), yH D (w ++ [(q, .inl (cW, 6, .inr (.inr (.inr (.inr (fun j => some (r j))))))), (r 0, .inl (cI, 200, .inl (fun _ => 0))), (r 1, .inl (cI, 200, .inl (fun _ => 0))), (r 2, .inl (cI, 200, .inl (fun _ => 0))), (r 3, .inl (cI, 200, .inl (fun _ => 0))), (r 4, .inl (cI, 200, .inl (fun _ => 0))), (r 5, .inl (cI, 200, .inl (fun _ => 0)))]) A s H1 locs → W p l e R s m args below meth c H1 locs (cells + 1 + 6) (slots + 6 + 6 * 200) Q (F0 m (pc + 4) ls (.ref q :: rest))) : W p l e R s m args below meth c H locs cells slots Q (F0 m pc ls (.int 200 :: .int 6 :: rest)) := by
  have hcy : s.vm.findClass (FieldType.array .int).toString = some cI := (hE.1.2 0 _ rfl).2
  refine va_mna (X := w) (L := []) (f := fun _ => .inl (cI, 0, .inl (fun _ => 0))) (ty := .int) (cy := cI) (z := (200, .inl (fun _ => 0))) (N' := 6) (K' := 200) C.1 C.2.1 C.2.2.2.1 (C.2.2.2.2.1 _ hcl) hE.2.2.2.2 (C.2.2.2.2.1 _ harr) hcy hE.1 (by show va_P D vwCl (w ++ []) H; rw [List.append_nil]; exact hH.1) (by show va_D A (w ++ []); rw [List.append_nil]; exact hH.2.1) hH.2.2 hE.2.1 (by decide) (by decide) (by decide) (by decide) (by decide) (by decide) (by decide) rfl rfl hcells hslots (fun _ => y_inner _) hd (fun q r cA H1 _ _ k1 k2 k3 k4 => ?_)
  cases yK_arr hE.1 (t0 := 2) rfl k1
  rw [y_pl] at k2 k3
  have k3' : va_D A (w ++ [(q, .inl (cW, 6, .inr (.inr (.inr (.inr (fun j => some (r j))))))), (r 0, .inl (cI, 200, .inl (fun _ => 0))), (r 1, .inl (cI, 200, .inl (fun _ => 0))), (r 2, .inl (cI, 200, .inl (fun _ => 0))), (r 3, .inl (cI, 200, .inl (fun _ => 0))), (r 4, .inl (cI, 200, .inl (fun _ => 0))), (r 5, .inl (cI, 200, .inl (fun _ => 0)))]) := y_Dadr (by rw [List.map_append, List.map_append, List.map_append, List.append_assoc]; rfl) k3
  refine kk q r H1 ⟨fun k z hz => ?_, k3', k4⟩
  by_cases hk : k = w.length
  · rw [hk, List.getElem?_append_right (Nat.le_refl _), Nat.sub_self] at hz
    cases hz
    have h8 := k2 w.length (q, .inl (cW, 6, .inr (.inr (.inr (.inr (fun i => if i < 6 then some (r i) else none)))))) (by
      rw [List.append_assoc, List.getElem?_append_right (Nat.le_refl _), Nat.sub_self]; rfl)
    exact y_ext h8 (fun j hj => if_pos hj)
  · refine k2 k z ?_
    rw [← hz, List.append_assoc]
    by_cases hl : k < w.length
    · rw [List.getElem?_append_left hl, List.getElem?_append_left hl]
    · have e1 : ∀ x : va_W, (w ++ x)[k]? = x[k - w.length]? := fun x => List.getElem?_append_right (by omega)
      rw [e1, e1]
      obtain ⟨n, hn⟩ : ∃ n, k - w.length = n + 1 := ⟨k - w.length - 1, by omega⟩
      rw [hn]; rfl
/-- a maker's end -/
abbrev yB (D : va_G) (tys : List (ClassId × FieldType)) (A : Nat → Prop) (w1 : (Nat → Nat) → va_W) : Unit → State → Prop := fun _ t => ∃ q : Nat → Nat, va_P D vwCl (w1 q) t.heap ∧ va_K D vwCl tys t ∧ va_D A (w1 q)
abbrev yM (l : Launch) (y : MethodName) (ws : List Cond) (rm : Room) (av : List Value) (D : va_G) (w : va_W) (tys : List (ClassId × FieldType)) (sz : Nat) (w1 : (Nat → Nat) → va_W) (mc ms : Nat) : Prop := Met l y ws rm (va_Pc av (yPre D w tys sz)) (va_Qv (fun _ : Unit => True) (yB D tys (va_A w sz) w1) (va_A w sz)) mc ms (va_A w sz)
theorem y_vret {w1 : (Nat → Nat) → va_W} (C : zCX p s m args meth c cc nL none Ts own) (hE : yE D tys A s) (q : Nat → Nat) (hH : yH D (w1 q) A s H locs) (hd : decode cc pc = .ok (.return_, 1)) : W p l e R s m args below meth c H locs cells slots (MQ below (va_Qv (fun _ : Unit => True) (yB D tys A w1) A) args s cells slots A) (F0 m pc ls []) :=
  W.vret C.1 C.2.1 C.2.2.2.2.2.1 (fun t ht hW => ⟨⟨(), rfl, trivial, q, by rw [ht]; exact hH.1, va_K.moved hW.alike hE.1, hH.2.1⟩, hH.2.2.F ht⟩) hH.2.2.2.2 hd C.2.2.2.2.2.2
/-- a maker called: its cells wc, the rest wr -/
theorem y_call {st0 : List Value} {av : Array Value} {mc ms : Nat} {w1 : (Nat → Nat) → va_W} {wr : va_W} (hr : va_Run p l e R s m args below meth c H locs cells slots mc ms (F0 m pc ls st0) rest (va_Qv (fun _ : Unit => True) (yB D tys (va_A wc H.size) w1) (va_A wc H.size) av) (va_A wc H.size)) (hE : yE D tys A s) (hH : yH D w A s H locs) (isC isR : List Nat) (hC : isC.map (fun i => w[i]?) = wc.map some) (hR : isR.map (fun i => w[i]?) = wr.map some) (hn : va_nd isR = true) (hdis : ∀ i ∈ isR, i ∉ isC)
    (kk : ∀ (q : Nat → Nat) (H1 : Heap) (locs1 : List Loc), yH D (wr ++ w1 q) A s H1 locs1 → W p l e R s m args below meth c H1 locs1 (cells + mc) (slots + ms) Q (F0 m (pc + 3) ls rest)) : W p l e R s m args below meth c H locs cells slots Q (F0 m pc ls st0) := by
  have hF := va_free (wc := wc) hH.2.1 hH.2.2 hE.2.1 isC hC
  refine va_callv hr hH.2.2 (fun q _ h => hF q h) hF (fun u t H1 locs1 ht hvm hw hB hz hk hS => ?_)
  obtain ⟨q, hP1, hK1, hD1⟩ := hB
  rw [ht] at hP1
  obtain ⟨h1, h2⟩ := va_join (wr := wr) (w1 := w1 q) hH.1 hH.2.1 isC isR hC hR hn hdis hk hF hP1 hD1
  exact kk q H1 locs1 ⟨h1, h2, hS⟩
end YB

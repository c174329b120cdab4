/-! answer(): it returns, or throws; the law's own catcher -/
/-- the words of a NoSuchElementException with its text: her own maker links by 13 -/
def zx_own : List Cond := [.methodLink RX10 100 (Bundle.initS "java/util/NoSuchElementException"), .instantiable "java/util/NoSuchElementException" 6, .castable "java/util/NoSuchElementException" "java/util/NoSuchElementException", .selects "java/util/NoSuchElementException" Bundle.tFill0 Bundle.tFill0, .selects "java/util/NoSuchElementException" Bundle.tFill Bundle.tFill, .lays "java/util/NoSuchElementException" Bundle.tN "cause" "Ljava/lang/Throwable;", .lays "java/util/NoSuchElementException" Bundle.tN "stackTrace" Bundle.steD, .lays "java/util/NoSuchElementException" Bundle.tN "suppressedExceptions" Bundle.listD, .lays "java/util/NoSuchElementException" Bundle.tN "detailMessage" "Ljava/lang/String;", .isRef (.static Bundle.tN "UNASSIGNED_STACK" Bundle.steD), .isRef (.static Bundle.tN "SUPPRESSED_SENTINEL" Bundle.listD), .fieldLink Bundle.tN 198 Bundle.tN "backtrace" "Ljava/lang/Object;", .lays Bundle.tN Bundle.tN "backtrace" "Ljava/lang/Object;", .lays "java/util/NoSuchElementException" Bundle.tN "backtrace" "Ljava/lang/Object;"]
def zx_words : List Cond := Bundle.throwableAtoms ++ (Bundle.throwableSAtoms ++ (Bundle.passSAtoms "java/util/NoSuchElementException" "java/lang/RuntimeException" 13 prog_21_method_4_code ++ (Bundle.chainSAtoms "java/lang/RuntimeException" ["java/lang/Exception"] ++ zx_own)))
theorem zx_1 {w : Cond} (h : w ∈ Bundle.throwableAtoms) : w ∈ zx_words := List.mem_append_left _ h
theorem zx_2 {w : Cond} (h : w ∈ Bundle.throwableSAtoms) : w ∈ zx_words := List.mem_append_right _ (List.mem_append_left _ h)
theorem zx_3 {w : Cond} (h : w ∈ Bundle.passSAtoms "java/util/NoSuchElementException" "java/lang/RuntimeException" 13 prog_21_method_4_code) : w ∈ zx_words := List.mem_append_right _ (List.mem_append_right _ (List.mem_append_left _ h))
theorem zx_4 {w : Cond} (h : w ∈ Bundle.chainSAtoms "java/lang/RuntimeException" ["java/lang/Exception"]) : w ∈ zx_words := List.mem_append_right _ (List.mem_append_right _ (List.mem_append_right _ (List.mem_append_left _ h)))
theorem zx_5 {w : Cond} (h : w ∈ zx_own) : w ∈ zx_words := List.mem_append_right _ (List.mem_append_right _ (List.mem_append_right _ (List.mem_append_right _ h)))
theorem zx_d0 : decode prog_21_method_4_code 0 = .ok (.aload_n 0, 1) := by decide +kernel
theorem zx_d1 : decode prog_21_method_4_code 1 = .ok (.aload_n 1, 1) := by decide +kernel
theorem zx_d2 : decode prog_21_method_4_code 2 = .ok (.invokespecial 13, 3) := by decide +kernel
theorem zx_d5 : decode prog_21_method_4_code 5 = .ok (.return_, 1) := by decide +kernel
set_option maxHeartbeats 4000000 in
/-- her maker and 'athrow', from the 'invokespecial' to the throw (traces off): along the library's laws, her first link being 13 -/
theorem zx_ctor {p : Program} {l : Launch} {e : Env} {R : Room} {s : State} {m₀ : MethodId} {args : Array Value} {below : List Frame} {meth : Method} {c : Code} {W : State} {locs : List Loc} {cells slots : Nat} (X : Stand p l e R s m₀ args below meth c W locs cells slots) (hexec : p.tables.exec = Jvm.exec) (htr : e.platform.stackTraces = false) (hown : s.vm.findClass RX10 = some m₀.cls) (h : ∀ a ∈ zx_words, a.before args s = true) (hlocs : ∀ x ∈ locs, ∀ cell, s.heap[x.base]? = some cell → cell.vm.isStatics = false)
    {a : Addr} {cX : ClassId} {kX : Class} (hfX : s.vm.findClass "java/util/NoSuchElementException" = some cX) (hkX : s.vm.classes[cX]? = some kX) (hcell : W.heap[a]? = some (freshCell cX kX)) (hnew : s.heap.size ≤ a) {msg : Value} (hmsg : msg.isRef = true) {g : JFrame} (hg : g.method = m₀) (hsize : g.locals.size = c.maxLocals) (hlocked : g.locked = none) (hent : g.entered = []) {rest : List Value} (hstack : g.stack = msg :: .ref a :: .ref a :: rest)
    (hd6 : decode c.code g.pc = .ok (.invokespecial 100, 3)) (hd9 : decode c.code (g.pc + 3) = .ok (.athrow, 1)) (hout : ∀ x ∈ c.exceptionTable.toList, covers x (g.pc + 3) = false) (hRf : 5 < R.frames) (hRl : 2 * g.monitorRoom + ((Value.ref a :: rest).map fun v => v.category).sum + 81 ≤ R.locals) (hlocks : meth.locks = false) :
    ∃ U : State, Steps p.tables e below (W.setTop g) U ∧ U.status = .running ∧ Ended U below (.threw a) ∧ s.WarmedH U.vm ∧ s.sameButNew ({ U with vm := s.vm } : State) locs cells slots ∧ ∃ ce, U.heap[a]? = some ce ∧ ce.vm = .none ∧ s.vm.findClass "java/util/NoSuchElementException" = some ce.cls := by
  have howns : e.platform.frameOwnsMonitors = true := by rw [X.admits.platform]
  have hfin : e.platform.finalization = false := by rw [X.admits.platform]
  have hpl : e.platform.magicAccessors = ({} : Platform).magicAccessors := by rw [X.admits.platform]
  have a' : ∀ x, x ∈ zx_own → x.holds args s none s [] = true := fun x hx => h x (zx_5 hx)
  obtain ⟨T, Z0, L, -, Y⟩ := ThrowableC.of_atoms (args := args) howns hfin hpl (fun x hx => h x (zx_1 hx))
  obtain ⟨Z, M, LZ, LM, hnZ⟩ := Init0T.ofS_atoms (args := args) hpl L Y (fun x hx => h x (zx_2 hx))
  obtain ⟨P2, Ps, hlen, L2, hL, hP2m, hlink2, hlink⟩ := Bundle.chainS (args := args) hpl hnZ ["java/lang/Exception"] "java/lang/RuntimeException" (by decide) (by decide) (fun x hx => h x (zx_4 hx))
  obtain ⟨P1, L1, hP1m, hP1s⟩ := PassC.ofS_atoms (args := args) (s := s) hpl (X := "java/util/NoSuchElementException") (Y := "java/lang/RuntimeException") (by decide) (by decide) zx_d0 zx_d1 zx_d2 zx_d5 (fun x hx => h x (zx_3 hx))
  have hlink1 : P1.sup = firstOf (Z.m T.toThrowableT) ((P2 :: Ps).map (·.toPassT)) := Option.some.inj (hP1s.symm.trans hP2m)
  have hfound : s.vm.findClass "java/util/NoSuchElementException" = some P1.m.cls := findClass_of_methodNamed hP1m
  cases Option.some.inj (hfX.symm.trans hfound)
  obtain ⟨c1, kX', hc1, hk, hord, -, -, hn6⟩ := Cond.instantiable_spec (a' (.instantiable "java/util/NoSuchElementException" 6) (by simp [zx_own]))
  cases Option.some.inj (hc1.symm.trans hfound)
  cases Option.some.inj (hkX.symm.trans hk)
  have hsel0 : selectMethod e.platform s.vm P1.m.cls T.fill0 = .method T.fill0 := by
    obtain ⟨c2, r2, m2, q1, q2, q3, q4, -⟩ := Cond.selects_spec (a' (.selects "java/util/NoSuchElementException" Bundle.tFill0 Bundle.tFill0) (by simp [zx_own]))
    cases Option.some.inj (q1.symm.trans hfound)
    cases Option.some.inj (q2.symm.trans (State.methodFound?_of_named Y.fill0 (by decide)))
    cases Option.some.inj (q3.symm.trans Y.fill0)
    rw [Launch.admits_selectMethod X.admits]; exact q4
  have hselF : selectMethod e.platform s.vm P1.m.cls T.fill = .method T.fill := by
    obtain ⟨c2, r2, m2, q1, q2, q3, q4, -⟩ := Cond.selects_spec (a' (.selects "java/util/NoSuchElementException" Bundle.tFill Bundle.tFill) (by simp [zx_own]))
    cases Option.some.inj (q1.symm.trans hfound)
    cases Option.some.inj (q2.symm.trans (State.methodFound?_of_named Y.fill (by decide)))
    cases Option.some.inj (q3.symm.trans Y.fill)
    rw [Launch.admits_selectMethod X.admits]; exact q4
  obtain ⟨cellS0, hcS0, hiss⟩ := Y.statics
  obtain ⟨u0, hu0⟩ := Cond.staticRefV Y.unassigned L.unassignedStatic L.statics hcS0 hiss (a' (.isRef (.static Bundle.tN "UNASSIGNED_STACK" Bundle.steD)) (by simp [zx_own]))
  obtain ⟨sen, hsen⟩ := Cond.staticRefV Y.sentinel L.sentinelStatic L.statics hcS0 hiss (a' (.isRef (.static Bundle.tN "SUPPRESSED_SENTINEL" Bundle.listD)) (by simp [zx_own]))
  obtain ⟨ci198, i198, fB, hk198, hg198, ha198, hsB, -, hnB, htB, hffB⟩ := Cond.ownField (t := .object "java/lang/Object") Y.found L.cls (by decide +kernel) (a' (.fieldLink Bundle.tN 198 Bundle.tN "backtrace" "Ljava/lang/Object;") (by simp [zx_own])) (a' (.lays Bundle.tN Bundle.tN "backtrace" "Ljava/lang/Object;") (by simp [zx_own])) e.platform hpl
  obtain ⟨cellS, hcS', heS, -, hkeep⟩ := X.same.2.2.2.2.2 T.aS cellS0 hcS0
  have hcellS : W.heap[T.aS]? = some cellS := hcS'
  have hout' : ∀ i, (⟨T.aS, i⟩ : Loc) ∉ locs := fun i hmem => by
    have := hlocs _ hmem cellS0 hcS0
    rw [hiss] at this; cases this
  have hknownS : cellS.vm ≠ .unknown := by
    rw [heS]; intro hu
    rw [show cellS0.vm = .unknown from hu] at hiss
    cases hiss
  have hneS : T.aS ≠ a := Nat.ne_of_lt (Nat.lt_of_lt_of_le (Array.getElem?_eq_some_iff.mp hcS0).1 hnew)
  obtain ⟨iM, hffM⟩ := Y.msg
  obtain ⟨tyC, dC, hdC, hdnC⟩ := Cond.laysAt hfound hk Y.cause (a' (.lays "java/util/NoSuchElementException" Bundle.tN "cause" "Ljava/lang/Throwable;") (by simp [zx_own]))
  obtain ⟨tyS, dS, hdS, hdnS⟩ := Cond.laysAt hfound hk Y.stack (a' (.lays "java/util/NoSuchElementException" Bundle.tN "stackTrace" Bundle.steD) (by simp [zx_own]))
  obtain ⟨tyP, dP, hdP, hdnP⟩ := Cond.laysAt hfound hk Y.supp (a' (.lays "java/util/NoSuchElementException" Bundle.tN "suppressedExceptions" Bundle.listD) (by simp [zx_own]))
  obtain ⟨tyM, dM, hdM, hdnM⟩ := Cond.laysAt hfound hk hffM (a' (.lays "java/util/NoSuchElementException" Bundle.tN "detailMessage" "Ljava/lang/String;") (by simp [zx_own]))
  obtain ⟨tyB, dB, hdB, hdnB⟩ := Cond.laysAt hfound hk hffB (a' (.lays "java/util/NoSuchElementException" Bundle.tN "backtrace" "Ljava/lang/Object;") (by simp [zx_own]))
  have bC := Cond.laysApart hdB hdC hdnB hdnC (by rw [hnB, Y.causeName]; decide)
  have bS := Cond.laysApart hdB hdS hdnB hdnS (by rw [hnB, Y.stackName]; decide)
  have bP := Cond.laysApart hdB hdP hdnB hdnP (by rw [hnB, Y.suppName]; decide)
  have hskip : SkipFacts T e.platform s (fun u => u) u0 ((preparedCellV T.toThrowableT (freshCell P1.m.cls kX) a u0 sen).withEntry W.cur) :=
    ⟨{ ci198 := ci198, i198 := i198, fBack := fB }, ⟨hk198, hg198, ha198, hsB⟩, by
      have := fresh_default (c := P1.m.cls) tyB
      rw [htB] at this
      simpa [preparedCellV, Cell.setSlot, Cell.withEntry, Array.getElem?_setIfInBounds, bC, bS, bP, bC.symm, bS.symm, bP.symm, defaultValue] using this, fun _ _ => rfl⟩
  obtain ⟨tm, methC, cdC, kC, vm₁, hnC, -, -, -, -, -, -, -, hW₁, st1⟩ := Steps.initColdS (tb := p.tables) (e := e) (below := below) (s := s) (U := W) X.here hexec X.warmed hpl hown (t := Bundle.initS "java/util/NoSuchElementException") rfl rfl (by decide)
    (a' (.methodLink RX10 100 (Bundle.initS "java/util/NoSuchElementException")) (by simp [zx_own])) (h (.instanceMethod (Bundle.initS "java/util/NoSuchElementException")) (zx_3 (by simp [Bundle.passSAtoms]))) (bytes := prog_21_method_4_code) (maxL := 2) (h (.code (Bundle.initS "java/util/NoSuchElementException") prog_21_method_4_code 2 none) (zx_3 (by simp [Bundle.passSAtoms])))
    (f := g) hg (a := a) (msg := msg) (rest := .ref a :: rest) hstack hd6
  cases Option.some.inj (hnC.symm.trans hP1m)
  have X₁ := X.noted hW₁
  have hl1 : Ps.length = 1 := hlen
  obtain ⟨vm₂, X₂, st2⟩ := X₁.ctorMessageOffV hexec (g := { g with stack := .ref a :: rest }) hg hsize T L Z LZ M LM (P1 :: P2 :: Ps)
    (fun P hP => by
      rcases List.mem_cons.mp hP with rfl | hP
      · exact L1
      · rcases List.mem_cons.mp hP with rfl | hP
        · exact L2
        · exact hL P hP) ⟨hlink1, hlink2, hlink⟩ (u0 := u0) (sen := sen) (self := a) hmsg (cell := freshCell P1.m.cls kX) (cellS := cellS)
    hcell (fun _ => by simp) (by simp) rfl rfl hsel0 hselF hcellS hneS hknownS (by rw [hkeep _ (hout' _)]; exact hu0) (by rw [hkeep _ (hout' _)]; exact hsen)
    (Takes.of_laid hk hord tyC (by rw [Y.causeType]; rfl)) (Takes.of_laid hk hord tyS (by rw [Y.stackType]; exact fits_refV_array _ u0)) (Takes.of_laid hk hord tyP (by rw [Y.suppType]; exact fits_refV_object _ sen))
    (Takes.of_laid hk hord tyM (by rw [Y.msgType]; exact fits_refV_object _ ⟨msg, hmsg⟩)) Y.objLocals hskip htr [] hd6
    (by simp only [List.length_cons, hl1]; omega) (by simp only [List.length_cons, hl1]; exact hRl)
  obtain ⟨hwalk, hrun, hended, hWU, hsame⟩ := X₂.athrowLeaves hexec (g := { g with stack := .ref a :: rest, pc := g.pc + 3 }) hg hlocked hent hout (a := a) (rest := rest) rfl hd9
  have hlt : a < ((W.setVm vm₁).setVm vm₂).heap.size := (Array.getElem?_eq_some_iff.mp hcell).1
  have hU := heapAt_setCell_self (s := (W.setVm vm₁).setVm vm₂) (plainBareV T.toThrowableT (freshCell P1.m.cls kX) a u0 sen msg) hlt
  refine ⟨_, st1 _ (fun acts => ?_), hrun, hended, hWU, hsame.weaken (fun y hy hlt' => ?_) (Nat.le_refl _) (Nat.le_refl _), _, hU, rfl, hfound⟩
  · rw [doInvoke_state]
    exact st2 _ hwalk
  · rcases List.mem_append.mp hy with h1 | h1
    · exact h1
    · exfalso
      have hb : y.base = a := by
        simp only [List.mem_cons, List.not_mem_nil, or_false] at h1
        rcases h1 with rfl | rfl | rfl | rfl | rfl <;> rfl
      rw [hb] at hlt'
      exact Nat.not_lt.mpr hnew hlt'
def zXa : List Cond := zx_words.filter vx_no
def zXg : List Cond := zXa.filter goodWord
def zUx : List Cond := zU ++ zXg
def zBx : List Cond := [.declares (Bundle.initS "java/lang/RuntimeException"), .declares (Bundle.initS "java/lang/Exception"), .declares (Bundle.initS "java/lang/Throwable"), .castable "java/util/NoSuchElementException" "java/util/NoSuchElementException"]
theorem zBx_ok : ∀ w ∈ zXa.filter (fun w => !goodWord w), w ∈ zBx := by decide +kernel
theorem zBx_tb : ∀ w ∈ zBx, w ∈ lw_tbl := by decide +kernel
theorem zBx_on : ∀ w ∈ zBx, w.onTables = true := by decide +kernel
theorem zXg_tb : ∀ w ∈ zXg, w ∈ lw_tbl := by decide +kernel
theorem zUx_tb : ∀ w ∈ zUx, w ∈ lw_tbl := fun w h => (List.mem_append.mp h).elim (zU_tbl w) (zXg_tb w)
theorem zUx_good : ∀ w ∈ zUx, goodWord w = true := fun w h => (List.mem_append.mp h).elim (zU_good w) (fun h => (List.mem_filter.mp h).2)
theorem zx_ot : ∀ w ∈ Cond.classLink RX10 96 "java/util/NoSuchElementException" :: Cond.initialized "java/util/NoSuchElementException" :: zXa, vx_ot w = true := by decide +kernel
set_option maxHeartbeats 4000000 in
/-- 'throw new NoSuchElementException("no such call")' -/
theorem zx_throw {p : Program} {l : Launch} {e : Env} {R : Room} {s : State} {m : MethodId} {args : Array Value} {below : List Frame} {meth : Method} {c : Code} {H : Heap} {locs : List Loc} {cells slots : Nat} {Qc : Array Value → State → Outcome → State → Prop} {XC : String → State → State → Prop} {free : Addr → Prop} {ls : Array Slot} {rest : List Value} {cc : ByteArray} {pc mc ms sa : Nat} {A : Nat → Prop} (hexec : p.tables.exec = Jvm.exec) (hb : c.code = cc) (hl : l.stackTraces = false) (hown : s.vm.findClass RX10 = some m.cls)
    (hk : (Cond.classLink RX10 96 "java/util/NoSuchElementException").before args s = true) (hini : (Cond.initialized "java/util/NoSuchElementException").before args s = true) (hstr : vk_R RX10 98 "no such call" sa s) (hat : ∀ w ∈ zXa, w.before args s = true)
    (hU : vx_Zq Bundle.tN "UNASSIGNED_STACK" Bundle.steD A s s.heap) (hN : vx_Zq Bundle.tN "SUPPRESSED_SENTINEL" Bundle.listD A s s.heap) (hS : va_S A s.heap H locs) (hsize : ls.size = c.maxLocals)
    (d0 : decode cc pc = .ok (.new 96, 3)) (d3 : decode cc (pc + 3) = .ok (.dup, 1)) (d4 : decode cc (pc + 4) = .ok (.ldc 98, 2)) (d6 : decode cc (pc + 6) = .ok (.invokespecial 100, 3)) (d9 : decode cc (pc + 9) = .ok (.athrow, 1)) (hout : ∀ x ∈ c.exceptionTable.toList, covers x (pc + 9) = false)
    (hRf : 5 < R.frames) (hRl : (rest.map fun v => v.category).sum + 82 ≤ R.locals) (hRcells : cells + 1 ≤ R.cells) (hRslots : slots + 6 ≤ R.slots) (hlocks : meth.locks = false)
    (hx : ∀ t : State, s.vm.Alike t.vm → H.size ≤ t.heap.size → (∀ q : Nat, q < H.size → t.heap[q]? = H[q]?) → XC "java/util/NoSuchElementException" s t) (hf : ∀ z ∈ locs, free z.base) (hc : cells + 1 ≤ mc) (hs : slots + 6 ≤ ms) :
    W p l e R s m args below meth c H locs cells slots (vx_MQ below Qc XC args s mc ms free) (F0 m pc ls rest) := by
  intro T hT X
  have htr : e.platform.stackTraces = false := (show e.platform.stackTraces = l.stackTraces by rw [X.admits.platform]).trans hl
  have Y := vx_rebase X (R' := { frames := R.frames, locals := R.locals, cells := 1, slots := 6 }) (Nat.le_refl _) (Nat.le_refl _) hRcells hRslots
  obtain ⟨s', hA⟩ : ∃ z, z = (T.setVm s.vm).setFrames (.invoking m args :: below) := ⟨_, rfl⟩
  rw [← hA] at Y
  have hvm : s'.vm = s.vm := by rw [hA]; rfl
  have hhp : s'.heap = H := by rw [hA]; exact hT
  have hW0 : s.WarmedH s'.vm := by rw [hvm]; exact State.WarmedH.refl s
  have hat' : ∀ w ∈ zXa, w.before args s' = true := fun w hw => vx_ot_at hW0 hvm.symm (zx_ot w (List.mem_cons_of_mem _ (List.mem_cons_of_mem _ hw))) (hat w hw)
  have hk' : (Cond.classLink RX10 96 "java/util/NoSuchElementException").before args s' = true := vx_ot_at hW0 hvm.symm (zx_ot _ List.mem_cons_self) hk
  have hini' : (Cond.initialized "java/util/NoSuchElementException").before args s' = true := vx_ot_at hW0 hvm.symm (zx_ot _ (List.mem_cons_of_mem _ List.mem_cons_self)) hini
  have hU' : vx_Zq Bundle.tN "UNASSIGNED_STACK" Bundle.steD A s' s'.heap := by rw [hhp]; exact vx_Zq.moved hW0.alike (hU.kept hS.2.1)
  have hN' : vx_Zq Bundle.tN "SUPPRESSED_SENTINEL" Bundle.listD A s' s'.heap := by rw [hhp]; exact vx_Zq.moved hW0.alike (hN.kept hS.2.1)
  have h : ∀ w ∈ zx_words, w.before args s' = true := vx_own hat' (vx_isRefq hU'.1) (vx_isRefq hN'.1) hU'.2.word hN'.2.word
  have hown' : s'.vm.findClass RX10 = some m.cls := by rw [hvm]; exact hown
  have hins : (Cond.instantiable "java/util/NoSuchElementException" 6).before args s' = true := h _ (zx_5 (by simp [zx_own]))
  obtain ⟨vm₁, cX, kX, hfX, hkX, -, -, X₁, st1⟩ := Y.newCold hexec (own := RX10) (C := "java/util/NoSuchElementException") (index := 96) (n := 6) hown' hk' hins hini'
    (g := F0 m pc ls rest) rfl (by rw [hb]; exact d0) (Nat.le_refl _) (Nat.le_refl _)
  generalize hT1 : (T.setVm vm₁).pushCell { cls := cX, slots := kX.instanceTypes.map defaultValue, vm := .none } = T1 at X₁ st1
  have hcat : (Value.ref T.heap.size).category = 1 := rfl
  have hcellA : T1.heap[T.heap.size]? = some (freshCell cX kX) := by rw [← hT1]; exact State.heap_pushCell_size _ _
  have d3' : decode c.code (pc + 3) = .ok (.dup, 1) := by rw [hb]; exact d3
  have d4' : decode c.code (pc + 4) = .ok (.ldc 98, 2) := by rw [hb]; exact d4
  have hstr' : vk_R RX10 98 "no such call" sa s' := vk_R.warm hW0 hstr
  obtain ⟨U, hsteps, hrun, hend, hW, hsame, ce, hce, hcv, hcc⟩ := zx_ctor X₁ hexec htr hown' h (fun x hx => nomatch hx) hfX hkX hcellA (by rw [hhp, hT]; exact Nat.le_refl _) (msg := .ref sa) rfl
    (g := { method := m, pc := pc + 6, locals := ls, stack := .ref sa :: .ref T.heap.size :: .ref T.heap.size :: rest, locked := none }) rfl hsize rfl rfl (rest := rest) rfl
    (by rw [hb]; exact d6) (by rw [hb]; exact d9) hout hRf (by
      have e0 : (JFrame.monitorRoom { method := m, pc := pc + 6, locals := ls, stack := .ref sa :: .ref T.heap.size :: .ref T.heap.size :: rest, locked := none }) = 0 := rfl
      rw [e0]
      simp only [List.map_cons, List.sum_cons, hcat]; omega) hlocks
  obtain ⟨f1, f2⟩ := vx_frame hsame
  rw [hhp] at f1 f2
  have hWs : s.WarmedH U.vm := State.WarmedH.trans hW0 hW
  have hcl : s.vm.findClass "java/util/NoSuchElementException" = some ce.cls := by
    rw [hvm] at hcc
    exact hcc
  have hall : s.sameButNew ({ U with vm := s.vm } : State) locs mc ms := by
    subst hA
    obtain ⟨e1, e2⟩ := hsame
    rw [State.setFrames_setFrames] at e1
    have h2 : (T.setVm s.vm).sameButNew ({ U with vm := s.vm } : State) [] (0 + 1) (0 + 6) := ⟨e1, e2⟩
    have h3 := X.same.trans h2
    rw [List.append_nil] at h3
    exact h3.mono hc hs
  refine ⟨U, ?_, .threw T.heap.size, hrun, hend, Or.inr ⟨T.heap.size, rfl, "java/util/NoSuchElementException", ce, locs, hx U hWs.alike f1 (fun q hq => f2 q hq (fun z hz => nomatch hz)), hce, hcv, hcl, hWs, hall, hf⟩⟩
  refine st1 _ ?_
  show Steps p.tables e below (T1.setTop { method := m, pc := pc + 3, locals := ls, stack := .ref T.heap.size :: rest, locked := none }) _
  jvm_step X₁.here [X₁.here.top, hexec, d3', Value.category]
  exact X₁.ldcString hexec (own := RX10) (text := "no such call") (index := 98) (a := sa) hown' hstr'.1 hstr'.2
    (g := { method := m, pc := pc + 4, locals := ls, stack := .ref T.heap.size :: .ref T.heap.size :: rest, locked := none }) rfl d4' _ hsteps
theorem zUl {w : Cond} (h : w ∈ zU) : w ∈ zUx := List.mem_append_left _ h
theorem zGx {ws : List Cond} (h : ∀ w ∈ ws, w ∈ zUx) : GoodIn zUx ws := fun w hw => ⟨h w hw, good_of_word (zUx_good w (h w hw))⟩
theorem zx_warm {s U : State} (hW : s.WarmedH U.vm) (h : ∀ x ∈ zBx, zNw x s) : ∀ x ∈ zBx, zNw x U := by
  intro x hx
  obtain ⟨ho, h⟩ := h x hx
  refine ⟨ho, ?_⟩
  clear ho
  simp only [zBx, List.mem_cons, List.not_mem_nil, or_false] at hx
  rcases hx with rfl | rfl | rfl | rfl
  · exact va_Nw.warmD hW h
  · exact va_Nw.warmD hW h
  · exact va_Nw.warmD hW h
  · exact va_Nw.warmC hW h
/-- what a throw needs, that no list may hold -/
def zTw (B : Nat → Prop) (U : State) (H : Heap) : Prop := (∃ sa, vk_R RX10 98 "no such call" sa U) ∧ (∀ x ∈ zBx, zNw x U) ∧ vx_Zq Bundle.tN "UNASSIGNED_STACK" Bundle.steD B U H ∧ vx_Zq Bundle.tN "SUPPRESSED_SENTINEL" Bundle.listD B U H
theorem zTw_warm {s U : State} {B B' : Nat → Prop} {H : Heap} {locs : List Loc} (hW : s.WarmedH U.vm) (hS : va_S B s.heap H locs) (hB : ∀ q, B' q → B q) (hU : U.heap = H) (h : zTw B s s.heap) : zTw B' U U.heap := by
  obtain ⟨⟨sa, a⟩, b, c, d⟩ := h
  rw [hU]
  exact ⟨⟨sa, vk_R.warm hW a⟩, zx_warm hW b, (vx_Zq.moved hW.alike (c.kept hS.2.1)).narrow hB, (vx_Zq.moved hW.alike (d.kept hS.2.1)).narrow hB⟩
theorem zTw_blind {B : Nat → Prop} {U : State} {g : JFrame} {mk : MethodId} {a : Array Value} (h : zTw B U U.heap) : zTw B (U.calling g mk a) (U.calling g mk a).heap := by
  obtain ⟨⟨sa, a1⟩, b, c, d⟩ := h
  exact ⟨⟨sa, vk_R.same (u := U) rfl a1⟩, fun x hx => zNw_moved (b x hx), vx_Zq.moved (u := U) (U := U.calling g mk a) (Vm.Alike.refl U.vm) c, vx_Zq.moved (u := U) (U := U.calling g mk a) (Vm.Alike.refl U.vm) d⟩
def vsXa : List Cond := .code yX10_answer cX10_answer 2 (some .int) :: zU
def vsXb : List Cond := .code yX10_answer cX10_answer 2 (some .int) :: zUx
def rmX_ans : Room := { frames := 1, cells := 0, slots := 0, locals := 21 }
def rmX_thr : Room := { frames := 6, cells := 1, slots := 6, locals := 100 }
set_option maxHeartbeats 4000000 in
set_option maxRecDepth 100000 in
theorem cX_ans (l : Launch) (D : va_G) (cI cS cW : ClassId) (q : Nat → Nat) (sz : Nat) (x1 : Int32) (S : zSt) (h : fX_X10_isCall x1 S = some (nI 1)) (hi : zin x1 200 = true) : zMi l yX10_answer vsXa rmX_ans [.ref (q 6), .int x1] D (zwX cI cS cW q) (zyX cI cS cW) znX sz S (S.2 30 x1.toNatClampNeg) S := by
  refine Met.ofW (cc := cX10_answer) (maxL := 2) (ret := (some .int)) (by decide) rfl ?_
  intro p e s m args below meth c s₁ B hml hv
  obtain ⟨rfl, rfl, hP, hK, hD0, hN⟩ := hv
  have hl := lv_entry ([.ref (q 6), .int x1]) (n := 2) (Nat.le_of_ble_eq_true rfl)
  rw [lg_entry_eq]
  generalize (lg_sl ([.ref (q 6), .int x1]) ++ List.replicate (2 - (lg_sl ([.ref (q 6), .int x1])).length) Slot.unset).toArray = ls at hl ⊢
  have hl : lv_has ls 2 [(0, .ref (q 6)), (1, .int x1)] := hl
  have C : zCX p s m ([.ref (q 6), .int x1] : List Value).toArray meth c cX10_answer 2 (some .int) zU RX10 := ⟨B.exec, B.bytes, hml, findClass_of_methodNamed B.named, fun w h => atoms_spec (ws := vsXa) B.pre w (List.mem_cons_of_mem _ h), B.returns, B.notSynchronized⟩
  have hE : zE D (zyX cI cS cW) znX (va_A (zwX cI cS cW q S) s.heap.size) s := ⟨hK, fun q h => Or.inr h, hN⟩
  have hH : zH D (zwX cI cS cW q) (va_A (zwX cI cS cW q S) s.heap.size) s S s.heap [] := ⟨hP, hD0.self, va_S.rf⟩
  have hx := C.1
  have hb := C.2.1
  refine lv_aload_n hx hb dX10_answer_0 rfl (lv_at hl 0 rfl) ?_
  refine lv_iload_n hx hb dX10_answer_1 rfl (lv_at hl 1 rfl) ?_
  refine z_calli (va_runV (As := [.int x1]) (rest := []) (z_fix C) (cX_X10_isCall l D cI cS cW q s.heap.size x1 S h) (cwV 1 C.2.2.2.2.1 (zGV zk21_9 zk21_10 zk21_11 zk1_2 zk21_12) rfl rfl rfl yd_X10_isCall ⟨Nat.le_of_ble_eq_true rfl, Nat.le_of_ble_eq_true rfl⟩) (z_preV (zNmX hE) hE hH zX_o6 rfl) rfl rfl hl.1 rfl (lv_room (Nat.le_of_ble_eq_true rfl)) dX10_answer_2 ⟨Nat.le_refl 0, Nat.le_refl 0⟩) hE hH (fun H locs hH => ?_)
  refine lv_if_ne (tgt := 18) hx hb dX10_answer_5 (by decide) (fun c1 => ?_) (fun c1 => absurd c1 (by decide))
  refine lv_aload_n hx hb dX10_answer_18 rfl (lv_at hl 0 rfl) ?_
  refine z_get C hE hH zX_o6 rfl zh_X10 4 (by decide) zl_anF (fun _ h9 => h9) (v := .ref (q 30)) rfl dX10_answer_19 ?_
  refine lv_iload_n hx hb dX10_answer_22 rfl (lv_at hl 1 rfl) ?_
  refine z_iald C hE hH zX_a30 (t0 := 0) rfl hi dX10_answer_23 ?_
  exact z_iret C hE hH dX10_answer_24
abbrev zXX (D : va_G) (w : zSt → va_W) (tys : List (ClassId × FieldType)) (A : Nat → Prop) (S : zSt) : String → State → State → Prop := vx_X (fun u : zSt => u = S) (fun (E : String) (u : zSt) (t : State) => E = "java/util/NoSuchElementException" ∧ zPost D w tys A u t) A
set_option maxHeartbeats 4000000 in
set_option maxRecDepth 100000 in
theorem cX_thr (l : Launch) (hl0 : l.stackTraces = false) (D : va_G) (cI cS cW : ClassId) (q : Nat → Nat) (sz : Nat) (x1 : Int32) (S : zSt) (h : fX_X10_isCall x1 S = some (nI 0)) : vx_Met l yX10_answer vsXb rmX_thr (va_Pc [.ref (q 6), .int x1] (fun U => zPre D (zwX cI cS cW q) (zyX cI cS cW) znX sz S U ∧ zTw (va_A (zwX cI cS cW q S) sz) U U.heap)) (va_Qi (fun (_ : Int32) (_ : zSt) => False) (zPost D (zwX cI cS cW q) (zyX cI cS cW) (va_A (zwX cI cS cW q S) sz)) (va_A (zwX cI cS cW q S) sz)) (zXX D (zwX cI cS cW q) (zyX cI cS cW) (va_A (zwX cI cS cW q S) sz) S) 1 6 (va_A (zwX cI cS cW q S) sz) := by
  refine vx_ofW (cc := cX10_answer) (maxL := 2) (ret := (some .int)) (by decide) rfl ?_
  intro p e s m args below meth c s₁ B hml hex hv
  obtain ⟨rfl, ⟨rfl, hP, hK, hD0, hN⟩, hT⟩ := hv
  have hl := lv_entry ([.ref (q 6), .int x1]) (n := 2) (Nat.le_of_ble_eq_true rfl)
  rw [lg_entry_eq]
  generalize (lg_sl ([.ref (q 6), .int x1]) ++ List.replicate (2 - (lg_sl ([.ref (q 6), .int x1])).length) Slot.unset).toArray = ls at hl ⊢
  have hl : lv_has ls 2 [(0, .ref (q 6)), (1, .int x1)] := hl
  have hws : ∀ w ∈ zUx, w.before ([.ref (q 6), .int x1] : List Value).toArray s = true := fun w h => atoms_spec (ws := vsXb) B.pre w (List.mem_cons_of_mem _ h)
  have C : zCX p s m ([.ref (q 6), .int x1] : List Value).toArray meth c cX10_answer 2 (some .int) zU RX10 := ⟨B.exec, B.bytes, hml, findClass_of_methodNamed B.named, fun w h => hws w (zUl h), B.returns, B.notSynchronized⟩
  have hE : zE D (zyX cI cS cW) znX (va_A (zwX cI cS cW q S) s.heap.size) s := ⟨hK, fun q h => Or.inr h, hN⟩
  have hH : zH D (zwX cI cS cW q) (va_A (zwX cI cS cW q S) s.heap.size) s S s.heap [] := ⟨hP, hD0.self, va_S.rf⟩
  have hx := C.1
  have hb := C.2.1
  obtain ⟨⟨sa, hsa⟩, hBx, hZ1, hZ2⟩ := hT
  refine lv_aload_n hx hb dX10_answer_0 rfl (lv_at hl 0 rfl) ?_
  refine lv_iload_n hx hb dX10_answer_1 rfl (lv_at hl 1 rfl) ?_
  refine z_calli (va_runV (As := [.int x1]) (rest := []) (z_fix C) (cX_X10_isCall l D cI cS cW q s.heap.size x1 S h) (cwV 1 C.2.2.2.2.1 (zGV zk21_9 zk21_10 zk21_11 zk1_2 zk21_12) rfl rfl rfl yd_X10_isCall ⟨Nat.le_of_ble_eq_true rfl, Nat.le_of_ble_eq_true rfl⟩) (z_preV (zNmX hE) hE hH zX_o6 rfl) rfl rfl hl.1 rfl (lv_room (Nat.le_of_ble_eq_true rfl)) dX10_answer_2 ⟨Nat.le_of_ble_eq_true rfl, Nat.le_of_ble_eq_true rfl⟩) hE hH (fun H locs hH => ?_)
  refine lv_if_ne (tgt := 18) hx hb dX10_answer_5 (by decide) (fun c1 => absurd rfl c1) (fun c1 => ?_)
  refine zx_throw (sa := sa) (A := va_A (zwX cI cS cW q S) s.heap.size) hx hb hl0 C.2.2.2.1 (C.2.2.2.2.1 _ zl_NK) (C.2.2.2.2.1 _ zl_NI) hsa (vx_hat (fun w hw => hws w (List.mem_append_right _ hw)) zBx_ok (fun w hw => va_any (hBx w hw).1 (hBx w hw).2)) hZ1 hZ2 hH.2.2 (hl.1.trans hml.symm) dX10_answer_8 dX10_answer_11 dX10_answer_12 dX10_answer_14 dX10_answer_17 (fun x hx => (hex x hx).elim) (by decide) (by decide) (by decide) (by decide) C.2.2.2.2.2.2 (fun t hA hz hk => ?_) hH.2.2.2.2 (by decide) (by decide)
  exact ⟨S, rfl, ⟨rfl, va_P.kept hH.1 (fun k x hx => hk _ (vx_lt hH.1 hx)), va_K.moved hA hE.1, hH.2.1⟩, Nat.le_trans hH.2.2.1 hz, fun q h1 h2 => (hk q (Nat.lt_of_lt_of_le h1 hH.2.2.1)).trans (hH.2.2.2.1 q h1 h2)⟩

/-! MY BASE: a state of a system is its ints and its int rows, by numbers; pure methods answer an Option; a block of bytecode is walked along its pure function -/
abbrev zSt : Type := (Nat → Int32) × (Nat → Nat → Int32)
def zsI (S : zSt) (k : Nat) (v : Int32) : zSt := (va_up S.1 k v, S.2)
def zsR (S : zSt) (k i : Nat) (v : Int32) : zSt := (S.1, va_up S.2 k (upd (S.2 k) i v))
def zsA (S : zSt) (k : Nat) (f : Nat → Int32) : zSt := (S.1, va_up S.2 k f)
def zin (i : Int32) (n : Nat) : Bool := decide (¬ (i < 0 ∨ n ≤ i.toNatClampNeg))
def znz (v : Int32) : Bool := decide (¬ v = 0)
def zbo (v : Int32) : Bool := decide (v = 0 ∨ v = 1)
def zrem (a b : Int32) : Int32 := a - a / b * b
def zush (a b : Int32) : Int32 := (a.toUInt32 >>> (b.toUInt32 &&& Int32.toUInt32 31)).toInt32
def zmax (a b : Int32) : Int32 := if a < b then b else a
def zgd {α : Type} (b : Bool) (x : Option α) : Option α := if b = true then x else none
theorem zgd_s {α : Type} {b : Bool} {x : Option α} {r : α} (h : zgd b x = some r) : b = true ∧ x = some r := by
  unfold zgd at h
  by_cases hb : b = true
  · rw [if_pos hb] at h; exact ⟨hb, h⟩
  · rw [if_neg hb] at h; cases h
theorem zbd_s {α β : Type} {x : Option α} {f : α → Option β} {r : β} (h : x.bind f = some r) : ∃ a, x = some a ∧ f a = some r := by
  cases x with
  | none => cases h
  | some a => exact ⟨a, rfl, h⟩
theorem zif_t {α : Type} {c : Prop} [Decidable c] {a b r : α} (hc : c) (h : (if c then a else b) = r) : a = r := by rw [if_pos hc] at h; exact h
theorem zif_f {α : Type} {c : Prop} [Decidable c] {a b r : α} (hc : ¬ c) (h : (if c then a else b) = r) : b = r := by rw [if_neg hc] at h; exact h
theorem zin_v {i : Int32} {n : Nat} (h : zin i n = true) : vp_in i n := (of_decide_eq_true h : ¬ (i < 0 ∨ n ≤ i.toNatClampNeg))
theorem znz_v {v : Int32} (h : znz v = true) : ¬ v = 0 := of_decide_eq_true h
theorem zbo_v {v : Int32} (h : zbo v = true) : v = 0 ∨ v = 1 := of_decide_eq_true h
theorem zbo_n {v : Int32} (h : zbo v = true) : narrow .boolean (.int v) = .int v := by rcases zbo_v h with rfl | rfl <;> rfl
theorem zbo_f {v : Int32} (h : zbo v = true) : fits .boolean (.int v) = true := by rcases zbo_v h with rfl | rfl <;> rfl
/-- what a body has of its own: the machine, the code, its class, its words -/
def zCX (p : Program) (s : State) (m : MethodId) (args : Array Value) (meth : Method) (c : Code) (cc : ByteArray) (nL : Nat) (ret : Option FieldType) (Ts : List Cond) (own : String) : Prop :=
  p.tables.exec = Jvm.exec ∧ c.code = cc ∧ c.maxLocals = nL ∧ s.vm.findClass own = some m.cls ∧ (∀ w ∈ Ts, w.before args s = true) ∧ meth.sig.returnType = ret ∧ meth.locks = false
/-- a word of the tables that no list may hold -/
def zNw (x : Cond) (U : State) : Prop := x.onTables = true ∧ va_Nw x U
/-- the classes' numbers, the arrays' classes, the words that no list may hold -/
def zE (D : va_G) (tys : List (ClassId × FieldType)) (nws : List Cond) (A : Nat → Prop) (s : State) : Prop := va_K D vwCl tys s ∧ (∀ q : Nat, s.heap.size ≤ q → A q) ∧ ∀ x ∈ nws, zNw x s
/-- the heap holds the system in the state S -/
def zH (D : va_G) (w : zSt → va_W) (A : Nat → Prop) (s : State) (S : zSt) (H : Heap) (locs : List Loc) : Prop := va_P D vwCl (w S) H ∧ va_D A (w S) ∧ va_S A s.heap H locs
def zPre (D : va_G) (w : zSt → va_W) (tys : List (ClassId × FieldType)) (nws : List Cond) (sz : Nat) (S : zSt) (U : State) : Prop := U.heap.size = sz ∧ va_P D vwCl (w S) U.heap ∧ va_K D vwCl tys U ∧ va_D (fun _ => True) (w S) ∧ ∀ x ∈ nws, zNw x U
def zPost (D : va_G) (w : zSt → va_W) (tys : List (ClassId × FieldType)) (A : Nat → Prop) (S : zSt) (t : State) : Prop := va_P D vwCl (w S) t.heap ∧ va_K D vwCl tys t ∧ va_D A (w S)
/-- contracts: from S, by these arguments, it answers r9 and leaves S9 -/
abbrev zMi (l : Launch) (y : MethodName) (ws : List Cond) (rm : Room) (av : List Value) (D : va_G) (w : zSt → va_W) (tys : List (ClassId × FieldType)) (nws : List Cond) (sz : Nat) (S : zSt) (r9 : Int32) (S9 : zSt) : Prop := Met l y ws rm (va_Pc av (zPre D w tys nws sz S)) (va_Qi (fun (r : Int32) (u : zSt) => r = r9 ∧ u = S9) (zPost D w tys (va_A (w S) sz)) (va_A (w S) sz)) 0 0 (va_A (w S) sz)
abbrev zMv (l : Launch) (y : MethodName) (ws : List Cond) (rm : Room) (av : List Value) (D : va_G) (w : zSt → va_W) (tys : List (ClassId × FieldType)) (nws : List Cond) (sz : Nat) (S : zSt) (S9 : zSt) : Prop := Met l y ws rm (va_Pc av (zPre D w tys nws sz S)) (va_Qv (fun (u : zSt) => u = S9) (zPost D w tys (va_A (w S) sz)) (va_A (w S) sz)) 0 0 (va_A (w S) sz)
abbrev zQi (below : List Frame) (D : va_G) (w : zSt → va_W) (tys : List (ClassId × FieldType)) (A : Nat → Prop) (args : Array Value) (s : State) (r9 : Int32) (S9 : zSt) : State → Prop := MQ below (va_Qi (fun (r : Int32) (u : zSt) => r = r9 ∧ u = S9) (zPost D w tys A) A) args s 0 0 A
abbrev zQv (below : List Frame) (D : va_G) (w : zSt → va_W) (tys : List (ClassId × FieldType)) (A : Nat → Prop) (args : Array Value) (s : State) (S9 : zSt) : State → Prop := MQ below (va_Qv (fun (u : zSt) => u = S9) (zPost D w tys A) A) args s 0 0 A
theorem zNw_moved {x : Cond} {U : State} {g : JFrame} {mk : MethodId} {a : Array Value} (h : zNw x U) : zNw x (U.calling g mk a) := ⟨h.1, va_Nw.same (u := U) (U := U.calling g mk a) h.1 rfl h.2⟩
theorem z_blind {av : List Value} {D : va_G} {w : zSt → va_W} {tys : List (ClassId × FieldType)} {nws : List Cond} {sz : Nat} {S : zSt} : FrameBlind (va_Pc av (zPre D w tys nws sz S)) := fun a U g mk q => by
  obtain ⟨q0, q1, qP, qK, qD, qN⟩ := q
  exact ⟨q0, q1, qP, va_K.moved (u := U) (U := U.calling g mk a) (Vm.Alike.refl U.vm) qK, qD, fun x hx => zNw_moved (qN x hx)⟩
section ZB
variable {p : Program} {l : Launch} {e : Env} {R : Room} {s : State} {m : MethodId} {args : Array Value} {below : List Frame} {meth : Method} {c : Code} {H : Heap} {locs : List Loc} {Q : State → Prop}
variable {cc : ByteArray} {pc nL : Nat} {ls : Array Slot} {rest : List Value} {D : va_G} {A : Nat → Prop} {a : Nat} {tys : List (ClassId × FieldType)} {nws : List Cond} {Ts : List Cond} {own : String} {ret : Option FieldType} {w : zSt → va_W} {S S9 : zSt} {r9 : Int32}
theorem z_free (hE : zE D tys nws A s) (hH : zH D w A s S H locs) : ∀ q, va_A (w S) H.size q → A q := fun q h => by
  rcases h with ⟨k, e9, hk⟩ | h
  · exact hH.2.1.2 k _ hk
  · exact hE.2.1 q (Nat.le_trans hH.2.2.1 h)
theorem z_preS {As : List Value} (hNm : ∀ U : State, s.WarmedH U.vm → ∀ x ∈ nws, zNw x U) (hE : zE D tys nws A s) (hH : zH D w A s S H locs) : PreS s H (va_Pc As (zPre D w tys nws H.size S)) As :=
  ⟨z_blind, fun U hU hW => ⟨rfl, by rw [hU], by rw [hU]; exact hH.1, va_K.moved hW.alike hE.1, hH.2.1.weaken (fun _ _ _ _ => trivial), hNm U hW⟩⟩
theorem z_preV {As : List Value} {q0 ci N : Nat} {Cn : String} {T : u_T} {fs : List Value} (hNm : ∀ U : State, s.WarmedH U.vm → ∀ x ∈ nws, zNw x U) (hE : zE D tys nws A s) (hH : zH D w A s S H locs) (he : (w S)[q0]? = some (a, .inr (ci, fs))) (hc : vwCl[ci]? = some (Cn, T, N)) : PreV s H Cn a (va_Pc (.ref a :: As) (zPre D w tys nws H.size S)) As :=
  ⟨z_blind, va_recv hE.1 hH.1 hc he, fun U hU hW => ⟨rfl, by rw [hU], by rw [hU]; exact hH.1, va_K.moved hW.alike hE.1, hH.2.1.weaken (fun _ _ _ _ => trivial), hNm U hW⟩⟩
theorem z_calli {st0 : List Value} {av : Array Value} (hr : va_Run p l e R s m args below meth c H locs 0 0 0 0 (F0 m pc ls st0) rest (va_Qi (fun (r : Int32) (u : zSt) => r = r9 ∧ u = S9) (zPost D w tys (va_A (w S) H.size)) (va_A (w S) H.size) av) (va_A (w S) H.size)) (hE : zE D tys nws A s) (hH : zH D w A s S H locs)
    (kk : ∀ (H1 : Heap) (locs1 : List Loc), zH D w A s S9 H1 locs1 → W p l e R s m args below meth c H1 locs1 0 0 Q (F0 m (pc + 3) ls (.int r9 :: rest))) : W p l e R s m args below meth c H locs 0 0 Q (F0 m pc ls st0) := by
  have hF := z_free hE hH
  refine va_calli hr hH.2.2 (fun q _ h => hF q h) hF (fun r u t H1 locs1 ht hvm hw hB hz hk hS => ?_)
  obtain ⟨rfl, rfl⟩ := hw
  obtain ⟨b1, b2, b3⟩ := hB
  rw [ht] at b1
  exact kk H1 locs1 ⟨b1, b3.weaken (fun _ _ _ h => hF _ h), hS⟩
theorem z_callv {st0 : List Value} {av : Array Value} (hr : va_Run p l e R s m args below meth c H locs 0 0 0 0 (F0 m pc ls st0) rest (va_Qv (fun (u : zSt) => u = S9) (zPost D w tys (va_A (w S) H.size)) (va_A (w S) H.size) av) (va_A (w S) H.size)) (hE : zE D tys nws A s) (hH : zH D w A s S H locs)
    (kk : ∀ (H1 : Heap) (locs1 : List Loc), zH D w A s S9 H1 locs1 → W p l e R s m args below meth c H1 locs1 0 0 Q (F0 m (pc + 3) ls rest)) : W p l e R s m args below meth c H locs 0 0 Q (F0 m pc ls st0) := by
  have hF := z_free hE hH
  refine va_callv hr hH.2.2 (fun q _ h => hF q h) hF (fun u t H1 locs1 ht hvm hw hB hz hk hS => ?_)
  subst hw
  obtain ⟨b1, b2, b3⟩ := hB
  rw [ht] at b1
  exact kk H1 locs1 ⟨b1, b3.weaken (fun _ _ _ h => hF _ h), hS⟩
theorem z_fix (C : zCX p s m args meth c cc nL ret Ts own) : CallFix p m c cc nL s args Ts own := ⟨C.1, C.2.1, C.2.2.1, C.2.2.2.1, C.2.2.2.2.1⟩
theorem z_iret {v : Int32} (C : zCX p s m args meth c cc nL (some .int) Ts own) (hE : zE D tys nws A s) (hH : zH D w A s S H locs) (hd : decode cc pc = .ok (.ireturn, 1)) : W p l e R s m args below meth c H locs 0 0 (zQi below D w tys A args s v S) (F0 m pc ls [.int v]) :=
  W.iret C.1 C.2.1 C.2.2.2.2.2.1 (fun t ht hW => ⟨⟨v, S, rfl, ⟨rfl, rfl⟩, by rw [ht]; exact hH.1, va_K.moved hW.alike hE.1, hH.2.1⟩, hH.2.2.F ht⟩) hH.2.2.2.2 hd C.2.2.2.2.2.2
theorem z_zret {v : Int32} (C : zCX p s m args meth c cc nL (some .boolean) Ts own) (hE : zE D tys nws A s) (hH : zH D w A s S H locs) (hn : narrow .boolean (.int v) = .int v) (hd : decode cc pc = .ok (.ireturn, 1)) : W p l e R s m args below meth c H locs 0 0 (zQi below D w tys A args s v S) (F0 m pc ls [.int v]) :=
  W.zret C.1 C.2.1 C.2.2.2.2.2.1 hn (fun t ht hW => ⟨⟨v, S, rfl, ⟨rfl, rfl⟩, by rw [ht]; exact hH.1, va_K.moved hW.alike hE.1, hH.2.1⟩, hH.2.2.F ht⟩) hH.2.2.2.2 hd C.2.2.2.2.2.2
theorem z_vret (C : zCX p s m args meth c cc nL none Ts own) (hE : zE D tys nws A s) (hH : zH D w A s S H locs) (hd : decode cc pc = .ok (.return_, 1)) : W p l e R s m args below meth c H locs 0 0 (zQv below D w tys A args s S) (F0 m pc ls []) :=
  W.vret C.1 C.2.1 C.2.2.2.2.2.1 (fun t ht hW => ⟨⟨S, rfl, rfl, by rw [ht]; exact hH.1, va_K.moved hW.alike hE.1, hH.2.1⟩, hH.2.2.F ht⟩) hH.2.2.2.2 hd C.2.2.2.2.2.2
theorem z_get {ref Cn : String} {T : u_T} {N ci idx q0 : Nat} {fs : List Value} {v : Value} (C : zCX p s m args meth c cc nL ret Ts own) (hE : zE D tys nws A s) (hH : zH D w A s S H locs) (he : (w S)[q0]? = some (a, .inr (ci, fs))) (hc : vwCl[ci]? = some (Cn, T, N)) (hin : ∀ x ∈ u_ws Cn T N, x ∈ Ts) (k : Nat) (hk : k < N) (hlink : Cond.fieldLink own idx ref (T k).2.1 (T k).2.2.1 ∈ Ts) (hsame : ∀ x, s.fieldFound? (T k).1 (T k).2.1 (T k).2.2.1 = some x → s.fieldFound? ref (T k).2.1 (T k).2.2.1 = some x) (hv : fs[k]? = some v) (hd : decode cc pc = .ok (.getfield idx, 3))
    (kk : W p l e R s m args below meth c H locs 0 0 Q (F0 m (pc + 3) ls (v :: rest))) : W p l e R s m args below meth c H locs 0 0 Q (F0 m pc ls (.ref a :: rest)) :=
  va_get C.1 C.2.1 C.2.2.2.2.1 hin C.2.2.2.1 hE.1 hH.1 q0 he hc k hk (C.2.2.2.2.1 _ hlink) hsame hv hd kk
theorem z_put {ref Cn : String} {T : u_T} {N ci idx q0 : Nat} {fs : List Value} {v : Value} {ty : FieldType} {ty0 : Nat → FieldType} (C : zCX p s m args meth c cc nL ret Ts own) (hE : zE D tys nws A s) (hH : zH D w A s S H locs) (he : (w S)[q0]? = some (a, .inr (ci, fs))) (hc : vwCl[ci]? = some (Cn, T, N)) (hin : ∀ x ∈ u_ws Cn T N, x ∈ Ts) (hty : ∀ k, k < N → parseFieldDescriptor (T k).2.2.1 = some (ty0 k)) (hnm : ∀ a, a < N → ∀ b, b < N → a ≠ b → (T a).2.1 ≠ (T b).2.1) (k : Nat) (hk : k < N) (hlink : Cond.fieldLink own idx ref (T k).2.1 (T k).2.2.1 ∈ Ts) (hsame : ∀ x, s.fieldFound? (T k).1 (T k).2.1 (T k).2.2.1 = some x → s.fieldFound? ref (T k).2.1 (T k).2.2.1 = some x) (hfin : (T k).2.2.2 = false) (hdp : ty0 k = ty) (hn : narrow ty v = v) (hfit : fits ty v = true) (hl : k < fs.length) (hset : (w S).set q0 (a, .inr (ci, fs.set k v)) = w S9) (hd : decode cc pc = .ok (.putfield idx, 3))
    (kk : ∀ (H1 : Heap) (locs1 : List Loc), zH D w A s S9 H1 locs1 → W p l e R s m args below meth c H1 locs1 0 0 Q (F0 m (pc + 3) ls rest)) : W p l e R s m args below meth c H locs 0 0 Q (F0 m pc ls (v :: .ref a :: rest)) :=
  va_put C.1 C.2.1 C.2.2.2.2.1 hin ty0 hty hnm C.2.2.2.1 hE.1 hH.1 hH.2.1 hH.2.2 q0 he hc k hk (C.2.2.2.2.1 _ hlink) hsame hfin (by rw [← hdp]; exact hty k hk) hn hfit hl hd (fun H1 locs1 a1 a2 a3 => kk H1 locs1 ⟨by rw [← hset]; exact a1, by rw [← hset]; exact a2, a3⟩)
theorem z_iald {q0 t0 n : Nat} {cA : ClassId} {f : Nat → Int32} {i : Int32} (C : zCX p s m args meth c cc nL ret Ts own) (hE : zE D tys nws A s) (hH : zH D w A s S H locs) (ha : (w S)[q0]? = some (a, .inl (cA, n, .inl f))) (ht : tys[t0]? = some (cA, .int)) (hi : zin i n = true) (hd : decode cc pc = .ok (.iaload, 1))
    (kk : W p l e R s m args below meth c H locs 0 0 Q (F0 m (pc + 1) ls (.int (f i.toNatClampNeg) :: rest))) : W p l e R s m args below meth c H locs 0 0 Q (F0 m pc ls (.int i :: .ref a :: rest)) :=
  va_iald C.1 C.2.1 hE.1 hH.1 q0 t0 ha ht (zin_v hi) hd kk
theorem z_iast {q0 t0 n : Nat} {cA : ClassId} {f : Nat → Int32} {i x : Int32} (C : zCX p s m args meth c cc nL ret Ts own) (hE : zE D tys nws A s) (hH : zH D w A s S H locs) (ha : (w S)[q0]? = some (a, .inl (cA, n, .inl f))) (ht : tys[t0]? = some (cA, .int)) (hi : zin i n = true) (hset : (w S).set q0 (a, .inl (cA, n, .inl (upd f i.toNatClampNeg x))) = w S9) (hd : decode cc pc = .ok (.iastore, 1))
    (kk : ∀ (H1 : Heap) (locs1 : List Loc), zH D w A s S9 H1 locs1 → W p l e R s m args below meth c H1 locs1 0 0 Q (F0 m (pc + 1) ls rest)) : W p l e R s m args below meth c H locs 0 0 Q (F0 m pc ls (.int x :: .int i :: .ref a :: rest)) :=
  va_iast C.1 C.2.1 hE.1 hH.1 hH.2.1 hH.2.2 q0 t0 ha ht (zin_v hi) hd (fun H1 locs1 a1 a2 a3 => kk H1 locs1 ⟨by rw [← hset]; exact a1, by rw [← hset]; exact a2, a3⟩)
end ZB
/-- a switch: which way by equations -/
theorem zsw_ne {x k : Int32} (h : ¬ x = k) : ¬ x.toInt = k.toInt := fun q => h (Int32.toInt_inj.mp q)
theorem zb_0 : narrow .boolean (.int 0) = .int 0 := rfl
theorem zb_1 : narrow .boolean (.int 1) = .int 1 := rfl

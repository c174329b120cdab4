/-! THE REFERENCE: its object at q 32, its rows at q of their slot -/
def zfsM (q : Nat → Nat) (S : zSt) : List Value := [.ref (q 0), .ref (q 1), .int (S.1 2), .int (S.1 3), .int (S.1 4), .int (S.1 5), .int (S.1 6), .int (S.1 7), .int (S.1 8), .ref (q 9), .ref (q 10), .ref (q 11), .ref (q 12), .ref (q 13), .ref (q 14), .ref (q 15), .ref (q 16), .ref (q 17), .int (S.1 18), .ref (q 19), .ref (q 20), .int (S.1 21), .int (S.1 22), .ref (q 23), .ref (q 24), .int (S.1 25), .ref (q 26), .ref (q 27), .int (S.1 28), .ref (q 29), .int (S.1 30), .int (S.1 31)]
def zwM (cI : ClassId) (q : Nat → Nat) (S : zSt) : va_W := [(q 32, .inr (8, zfsM q S)), (q 0, .inl (cI, 200, .inl (S.2 0))), (q 1, .inl (cI, 200, .inl (S.2 1))), (q 9, .inl (cI, 200, .inl (S.2 9))), (q 10, .inl (cI, 200, .inl (S.2 10))), (q 11, .inl (cI, 1200, .inl (S.2 11))), (q 12, .inl (cI, 6, .inl (S.2 12))), (q 13, .inl (cI, 6, .inl (S.2 13))), (q 14, .inl (cI, 200, .inl (S.2 14))), (q 15, .inl (cI, 200, .inl (S.2 15))), (q 16, .inl (cI, 200, .inl (S.2 16))), (q 17, .inl (cI, 6, .inl (S.2 17))), (q 19, .inl (cI, 200, .inl (S.2 19))), (q 20, .inl (cI, 200, .inl (S.2 20))), (q 23, .inl (cI, 64, .inl (S.2 23))), (q 24, .inl (cI, 64, .inl (S.2 24))), (q 26, .inl (cI, 1206, .inl (S.2 26))), (q 27, .inl (cI, 1206, .inl (S.2 27))), (q 29, .inl (cI, 200, .inl (S.2 29)))]
theorem zNm0 {s : State} : ∀ U : State, s.WarmedH U.vm → ∀ x ∈ ([] : List Cond), zNw x U := fun _ _ _ h => absurd h List.not_mem_nil
section ZM
variable {cI : ClassId} {q : Nat → Nat} {S : zSt}
theorem zM_o : (zwM cI q S)[0]? = some (q 32, .inr (8, zfsM q S)) := rfl
theorem zM_a0 : (zwM cI q S)[1]? = some (q 0, .inl (cI, 200, .inl (S.2 0))) := rfl
theorem zM_r0 {i : Nat} {x : Int32} : (zwM cI q S).set 1 (q 0, .inl (cI, 200, .inl (upd (S.2 0) i x))) = zwM cI q (zsR S 0 i x) := rfl
theorem zM_a1 : (zwM cI q S)[2]? = some (q 1, .inl (cI, 200, .inl (S.2 1))) := rfl
theorem zM_r1 {i : Nat} {x : Int32} : (zwM cI q S).set 2 (q 1, .inl (cI, 200, .inl (upd (S.2 1) i x))) = zwM cI q (zsR S 1 i x) := rfl
theorem zM_a9 : (zwM cI q S)[3]? = some (q 9, .inl (cI, 200, .inl (S.2 9))) := rfl
theorem zM_r9 {i : Nat} {x : Int32} : (zwM cI q S).set 3 (q 9, .inl (cI, 200, .inl (upd (S.2 9) i x))) = zwM cI q (zsR S 9 i x) := rfl
theorem zM_a10 : (zwM cI q S)[4]? = some (q 10, .inl (cI, 200, .inl (S.2 10))) := rfl
theorem zM_r10 {i : Nat} {x : Int32} : (zwM cI q S).set 4 (q 10, .inl (cI, 200, .inl (upd (S.2 10) i x))) = zwM cI q (zsR S 10 i x) := rfl
theorem zM_a11 : (zwM cI q S)[5]? = some (q 11, .inl (cI, 1200, .inl (S.2 11))) := rfl
theorem zM_r11 {i : Nat} {x : Int32} : (zwM cI q S).set 5 (q 11, .inl (cI, 1200, .inl (upd (S.2 11) i x))) = zwM cI q (zsR S 11 i x) := rfl
theorem zM_a12 : (zwM cI q S)[6]? = some (q 12, .inl (cI, 6, .inl (S.2 12))) := rfl
theorem zM_r12 {i : Nat} {x : Int32} : (zwM cI q S).set 6 (q 12, .inl (cI, 6, .inl (upd (S.2 12) i x))) = zwM cI q (zsR S 12 i x) := rfl
theorem zM_a13 : (zwM cI q S)[7]? = some (q 13, .inl (cI, 6, .inl (S.2 13))) := rfl
theorem zM_r13 {i : Nat} {x : Int32} : (zwM cI q S).set 7 (q 13, .inl (cI, 6, .inl (upd (S.2 13) i x))) = zwM cI q (zsR S 13 i x) := rfl
theorem zM_a14 : (zwM cI q S)[8]? = some (q 14, .inl (cI, 200, .inl (S.2 14))) := rfl
theorem zM_r14 {i : Nat} {x : Int32} : (zwM cI q S).set 8 (q 14, .inl (cI, 200, .inl (upd (S.2 14) i x))) = zwM cI q (zsR S 14 i x) := rfl
theorem zM_a15 : (zwM cI q S)[9]? = some (q 15, .inl (cI, 200, .inl (S.2 15))) := rfl
theorem zM_r15 {i : Nat} {x : Int32} : (zwM cI q S).set 9 (q 15, .inl (cI, 200, .inl (upd (S.2 15) i x))) = zwM cI q (zsR S 15 i x) := rfl
theorem zM_a16 : (zwM cI q S)[10]? = some (q 16, .inl (cI, 200, .inl (S.2 16))) := rfl
theorem zM_r16 {i : Nat} {x : Int32} : (zwM cI q S).set 10 (q 16, .inl (cI, 200, .inl (upd (S.2 16) i x))) = zwM cI q (zsR S 16 i x) := rfl
theorem zM_a17 : (zwM cI q S)[11]? = some (q 17, .inl (cI, 6, .inl (S.2 17))) := rfl
theorem zM_r17 {i : Nat} {x : Int32} : (zwM cI q S).set 11 (q 17, .inl (cI, 6, .inl (upd (S.2 17) i x))) = zwM cI q (zsR S 17 i x) := rfl
theorem zM_a19 : (zwM cI q S)[12]? = some (q 19, .inl (cI, 200, .inl (S.2 19))) := rfl
theorem zM_r19 {i : Nat} {x : Int32} : (zwM cI q S).set 12 (q 19, .inl (cI, 200, .inl (upd (S.2 19) i x))) = zwM cI q (zsR S 19 i x) := rfl
theorem zM_a20 : (zwM cI q S)[13]? = some (q 20, .inl (cI, 200, .inl (S.2 20))) := rfl
theorem zM_r20 {i : Nat} {x : Int32} : (zwM cI q S).set 13 (q 20, .inl (cI, 200, .inl (upd (S.2 20) i x))) = zwM cI q (zsR S 20 i x) := rfl
theorem zM_a23 : (zwM cI q S)[14]? = some (q 23, .inl (cI, 64, .inl (S.2 23))) := rfl
theorem zM_r23 {i : Nat} {x : Int32} : (zwM cI q S).set 14 (q 23, .inl (cI, 64, .inl (upd (S.2 23) i x))) = zwM cI q (zsR S 23 i x) := rfl
theorem zM_a24 : (zwM cI q S)[15]? = some (q 24, .inl (cI, 64, .inl (S.2 24))) := rfl
theorem zM_r24 {i : Nat} {x : Int32} : (zwM cI q S).set 15 (q 24, .inl (cI, 64, .inl (upd (S.2 24) i x))) = zwM cI q (zsR S 24 i x) := rfl
theorem zM_a26 : (zwM cI q S)[16]? = some (q 26, .inl (cI, 1206, .inl (S.2 26))) := rfl
theorem zM_r26 {i : Nat} {x : Int32} : (zwM cI q S).set 16 (q 26, .inl (cI, 1206, .inl (upd (S.2 26) i x))) = zwM cI q (zsR S 26 i x) := rfl
theorem zM_a27 : (zwM cI q S)[17]? = some (q 27, .inl (cI, 1206, .inl (S.2 27))) := rfl
theorem zM_r27 {i : Nat} {x : Int32} : (zwM cI q S).set 17 (q 27, .inl (cI, 1206, .inl (upd (S.2 27) i x))) = zwM cI q (zsR S 27 i x) := rfl
theorem zM_a29 : (zwM cI q S)[18]? = some (q 29, .inl (cI, 200, .inl (S.2 29))) := rfl
theorem zM_r29 {i : Nat} {x : Int32} : (zwM cI q S).set 18 (q 29, .inl (cI, 200, .inl (upd (S.2 29) i x))) = zwM cI q (zsR S 29 i x) := rfl
theorem zM_i2 {v : Int32} : (zwM cI q S).set 0 (q 32, .inr (8, (zfsM q S).set 2 (.int v))) = zwM cI q (zsI S 2 v) := rfl
theorem zM_i3 {v : Int32} : (zwM cI q S).set 0 (q 32, .inr (8, (zfsM q S).set 3 (.int v))) = zwM cI q (zsI S 3 v) := rfl
theorem zM_i4 {v : Int32} : (zwM cI q S).set 0 (q 32, .inr (8, (zfsM q S).set 4 (.int v))) = zwM cI q (zsI S 4 v) := rfl
theorem zM_i5 {v : Int32} : (zwM cI q S).set 0 (q 32, .inr (8, (zfsM q S).set 5 (.int v))) = zwM cI q (zsI S 5 v) := rfl
theorem zM_i6 {v : Int32} : (zwM cI q S).set 0 (q 32, .inr (8, (zfsM q S).set 6 (.int v))) = zwM cI q (zsI S 6 v) := rfl
theorem zM_i7 {v : Int32} : (zwM cI q S).set 0 (q 32, .inr (8, (zfsM q S).set 7 (.int v))) = zwM cI q (zsI S 7 v) := rfl
theorem zM_i8 {v : Int32} : (zwM cI q S).set 0 (q 32, .inr (8, (zfsM q S).set 8 (.int v))) = zwM cI q (zsI S 8 v) := rfl
theorem zM_i18 {v : Int32} : (zwM cI q S).set 0 (q 32, .inr (8, (zfsM q S).set 18 (.int v))) = zwM cI q (zsI S 18 v) := rfl
theorem zM_i21 {v : Int32} : (zwM cI q S).set 0 (q 32, .inr (8, (zfsM q S).set 21 (.int v))) = zwM cI q (zsI S 21 v) := rfl
theorem zM_i22 {v : Int32} : (zwM cI q S).set 0 (q 32, .inr (8, (zfsM q S).set 22 (.int v))) = zwM cI q (zsI S 22 v) := rfl
theorem zM_i25 {v : Int32} : (zwM cI q S).set 0 (q 32, .inr (8, (zfsM q S).set 25 (.int v))) = zwM cI q (zsI S 25 v) := rfl
theorem zM_i28 {v : Int32} : (zwM cI q S).set 0 (q 32, .inr (8, (zfsM q S).set 28 (.int v))) = zwM cI q (zsI S 28 v) := rfl
theorem zM_i30 {v : Int32} : (zwM cI q S).set 0 (q 32, .inr (8, (zfsM q S).set 30 (.int v))) = zwM cI q (zsI S 30 v) := rfl
theorem zM_i31 {v : Int32} : (zwM cI q S).set 0 (q 32, .inr (8, (zfsM q S).set 31 (.int v))) = zwM cI q (zsI S 31 v) := rfl
end ZM
def vsX11_add : List Cond := .code yX11_add cX11_add 3 none :: zU
def vsX11_aheadIn : List Cond := .code yX11_aheadIn cX11_aheadIn 5 (some .int) :: zU
def vsX11_answer : List Cond := .code yX11_answer cX11_answer 2 (some .int) :: zU
def vsX11_ascending : List Cond := .code yX11_ascending cX11_ascending 4 (some .int) :: zU
def vsX11_best : List Cond := .code yX11_best cX11_best 6 (some .int) :: zU
def vsX11_call : List Cond := .code yX11_call cX11_call 3 (some .int) :: zU
def vsX11_chained : List Cond := .code yX11_chained cX11_chained 4 (some .int) :: zU
def vsX11_cost : List Cond := .code yX11_cost cX11_cost 3 (some .int) :: zU
def vsX11_count : List Cond := .code yX11_count cX11_count 2 (some .int) :: zU
def vsX11_doAll : List Cond := .code yX11_doAll cX11_doAll 2 none :: zU
def vsX11_down : List Cond := .code yX11_down cX11_down 7 (some .int) :: zU
def vsX11_draw : List Cond := .code yX11_draw cX11_draw 8 (some .int) :: zU
def vsX11_drift : List Cond := .code yX11_drift cX11_drift 6 (some .int) :: zU
def vsX11_drop : List Cond := .code yX11_drop cX11_drop 2 (some .int) :: zU
def vsX11_find : List Cond := .code yX11_find cX11_find 4 (some .int) :: zU
def vsX11_findStages : List Cond := .code yX11_findStages cX11_findStages 7 (some .boolean) :: zU
def vsX11_firstShelf : List Cond := .code yX11_firstShelf cX11_firstShelf 3 (some .int) :: zU
def vsX11_grow : List Cond := .code yX11_grow cX11_grow 2 (some .int) :: zU
def vsX11_halving : List Cond := .code yX11_halving cX11_halving 6 (some .int) :: zU
def vsX11_hasFirst : List Cond := .code yX11_hasFirst cX11_hasFirst 2 (some .boolean) :: zU
def vsX11_in : List Cond := .code yX11_in cX11_in 3 (some .boolean) :: zU
def vsX11_isCall : List Cond := .code yX11_isCall cX11_isCall 2 (some .boolean) :: zU
def vsX11_isOffered : List Cond := .code yX11_isOffered cX11_isOffered 2 (some .boolean) :: zU
def vsX11_isShelf : List Cond := .code yX11_isShelf cX11_isShelf 1 (some .boolean) :: zU
def vsX11_key : List Cond := .code yX11_key cX11_key 3 (some .int) :: zU
def vsX11_law : List Cond := .code yX11_law cX11_law 3 (some .boolean) :: zU
def vsX11_leftMost : List Cond := .code yX11_leftMost cX11_leftMost 3 (some .int) :: zU
def vsX11_lengthOf : List Cond := .code yX11_lengthOf cX11_lengthOf 4 (some .int) :: zU
def vsX11_moving : List Cond := .code yX11_moving cX11_moving 2 (some .int) :: zU
def vsX11_nextKey : List Cond := .code yX11_nextKey cX11_nextKey 3 (some .int) :: zU
def vsX11_nextShelf : List Cond := .code yX11_nextShelf cX11_nextShelf 10 (some .int) :: zU
def vsX11_nodes : List Cond := .code yX11_nodes cX11_nodes 3 (some .int) :: zU
def vsX11_onBits : List Cond := .code yX11_onBits cX11_onBits 5 (some .int) :: zU
def vsX11_onHash : List Cond := .code yX11_onHash cX11_onHash 6 (some .int) :: zU
def vsX11_onHeap : List Cond := .code yX11_onHeap cX11_onHeap 6 (some .int) :: zU
def vsX11_onRow : List Cond := .code yX11_onRow cX11_onRow 5 (some .int) :: zU
def vsX11_onSorted : List Cond := .code yX11_onSorted cX11_onSorted 5 (some .int) :: zU
def vsX11_onTree : List Cond := .code yX11_onTree cX11_onTree 4 (some .int) :: zU
def vsX11_placeIn : List Cond := .code yX11_placeIn cX11_placeIn 4 (some .int) :: zU
def vsX11_rehash : List Cond := .code yX11_rehash cX11_rehash 5 none :: zU
def vsX11_roomOf : List Cond := .code yX11_roomOf cX11_roomOf 2 (some .int) :: zU
def vsX11_set : List Cond := .code yX11_set cX11_set 4 (some .int) :: zU
def vsX11_stage : List Cond := .code yX11_stage cX11_stage 4 (some .int) :: zU
def vsX11_stages : List Cond := .code yX11_stages cX11_stages 1 (some .int) :: zU
def vsX11_step : List Cond := .code yX11_step cX11_step 8 none :: zU
def vsX11_stepsOf : List Cond := .code yX11_stepsOf cX11_stepsOf 5 (some .int) :: zU
def vsX11_sum : List Cond := .code yX11_sum cX11_sum 4 (some .int) :: zU
def vsX11_takeNode : List Cond := .code yX11_takeNode cX11_takeNode 8 (some .int) :: zU
def vsX11_takeOut : List Cond := .code yX11_takeOut cX11_takeOut 4 none :: zU
def vsX11_thingAt : List Cond := .code yX11_thingAt cX11_thingAt 7 (some .int) :: zU
def vsX11_thrown : List Cond := .code yX11_thrown cX11_thrown 1 (some .int) :: zU
def vsX11_told : List Cond := .code yX11_told cX11_told 3 (some .int) :: zU
def vsX11_topOf : List Cond := .code yX11_topOf cX11_topOf 5 (some .int) :: zU
def vsX11_up : List Cond := .code yX11_up cX11_up 6 (some .int) :: zU
def vsX11_wayTo : List Cond := .code yX11_wayTo cX11_wayTo 4 (some .int) :: zU
def vsX11_worstOf : List Cond := .code yX11_worstOf cX11_worstOf 4 (some .int) :: zU
theorem yd_X11_add : yX11_add.cls = RX11 ∧ yX11_add.cls ≠ "java/lang/invoke/MethodHandle" ∧ yX11_add.cls ≠ "java/lang/invoke/VarHandle" ∧ (parseMethodDescriptor yX11_add.desc).map (fun d => d.parameters.length) = some 2 := by decide +kernel
theorem yd_X11_aheadIn : yX11_aheadIn.cls = RX11 ∧ yX11_aheadIn.cls ≠ "java/lang/invoke/MethodHandle" ∧ yX11_aheadIn.cls ≠ "java/lang/invoke/VarHandle" ∧ (parseMethodDescriptor yX11_aheadIn.desc).map (fun d => d.parameters.length) = some 1 := by decide +kernel
theorem yd_X11_ascending : yX11_ascending.cls = RX11 ∧ yX11_ascending.cls ≠ "java/lang/invoke/MethodHandle" ∧ yX11_ascending.cls ≠ "java/lang/invoke/VarHandle" ∧ (parseMethodDescriptor yX11_ascending.desc).map (fun d => d.parameters.length) = some 1 := by decide +kernel
theorem yd_X11_chained : yX11_chained.cls = RX11 ∧ yX11_chained.cls ≠ "java/lang/invoke/MethodHandle" ∧ yX11_chained.cls ≠ "java/lang/invoke/VarHandle" ∧ (parseMethodDescriptor yX11_chained.desc).map (fun d => d.parameters.length) = some 1 := by decide +kernel
theorem yd_X11_doAll : yX11_doAll.cls = RX11 ∧ yX11_doAll.cls ≠ "java/lang/invoke/MethodHandle" ∧ yX11_doAll.cls ≠ "java/lang/invoke/VarHandle" ∧ (parseMethodDescriptor yX11_doAll.desc).map (fun d => d.parameters.length) = some 0 := by decide +kernel
theorem yd_X11_down : yX11_down.cls = RX11 ∧ yX11_down.cls ≠ "java/lang/invoke/MethodHandle" ∧ yX11_down.cls ≠ "java/lang/invoke/VarHandle" ∧ (parseMethodDescriptor yX11_down.desc).map (fun d => d.parameters.length) = some 2 := by decide +kernel
theorem yd_X11_find : yX11_find.cls = RX11 ∧ yX11_find.cls ≠ "java/lang/invoke/MethodHandle" ∧ yX11_find.cls ≠ "java/lang/invoke/VarHandle" ∧ (parseMethodDescriptor yX11_find.desc).map (fun d => d.parameters.length) = some 2 := by decide +kernel
theorem yd_X11_findStages : yX11_findStages.cls = RX11 ∧ yX11_findStages.cls ≠ "java/lang/invoke/MethodHandle" ∧ yX11_findStages.cls ≠ "java/lang/invoke/VarHandle" ∧ (parseMethodDescriptor yX11_findStages.desc).map (fun d => d.parameters.length) = some 0 := by decide +kernel
theorem yd_X11_firstShelf : yX11_firstShelf.cls = RX11 ∧ yX11_firstShelf.cls ≠ "java/lang/invoke/MethodHandle" ∧ yX11_firstShelf.cls ≠ "java/lang/invoke/VarHandle" ∧ (parseMethodDescriptor yX11_firstShelf.desc).map (fun d => d.parameters.length) = some 0 := by decide +kernel
theorem yd_X11_grow : yX11_grow.cls = RX11 ∧ yX11_grow.cls ≠ "java/lang/invoke/MethodHandle" ∧ yX11_grow.cls ≠ "java/lang/invoke/VarHandle" ∧ (parseMethodDescriptor yX11_grow.desc).map (fun d => d.parameters.length) = some 1 := by decide +kernel
theorem yd_X11_halving : yX11_halving.cls = RX11 ∧ yX11_halving.cls ≠ "java/lang/invoke/MethodHandle" ∧ yX11_halving.cls ≠ "java/lang/invoke/VarHandle" ∧ (parseMethodDescriptor yX11_halving.desc).map (fun d => d.parameters.length) = some 1 := by decide +kernel
theorem yd_X11_hasFirst : yX11_hasFirst.cls = RX11 ∧ yX11_hasFirst.cls ≠ "java/lang/invoke/MethodHandle" ∧ yX11_hasFirst.cls ≠ "java/lang/invoke/VarHandle" ∧ (parseMethodDescriptor yX11_hasFirst.desc).map (fun d => d.parameters.length) = some 0 := by decide +kernel
theorem yd_X11_in : yX11_in.cls ≠ "java/lang/invoke/MethodHandle" ∧ yX11_in.cls ≠ "java/lang/invoke/VarHandle" ∧ (parseMethodDescriptor yX11_in.desc).map (fun d => d.parameters.length) = some 3 := by decide +kernel
theorem yd_X11_isCall : yX11_isCall.cls = RX11 ∧ yX11_isCall.cls ≠ "java/lang/invoke/MethodHandle" ∧ yX11_isCall.cls ≠ "java/lang/invoke/VarHandle" ∧ (parseMethodDescriptor yX11_isCall.desc).map (fun d => d.parameters.length) = some 1 := by decide +kernel
theorem yd_X11_isOffered : yX11_isOffered.cls = RX11 ∧ yX11_isOffered.cls ≠ "java/lang/invoke/MethodHandle" ∧ yX11_isOffered.cls ≠ "java/lang/invoke/VarHandle" ∧ (parseMethodDescriptor yX11_isOffered.desc).map (fun d => d.parameters.length) = some 1 := by decide +kernel
theorem yd_X11_isShelf : yX11_isShelf.cls ≠ "java/lang/invoke/MethodHandle" ∧ yX11_isShelf.cls ≠ "java/lang/invoke/VarHandle" ∧ (parseMethodDescriptor yX11_isShelf.desc).map (fun d => d.parameters.length) = some 1 := by decide +kernel
theorem yd_X11_leftMost : yX11_leftMost.cls = RX11 ∧ yX11_leftMost.cls ≠ "java/lang/invoke/MethodHandle" ∧ yX11_leftMost.cls ≠ "java/lang/invoke/VarHandle" ∧ (parseMethodDescriptor yX11_leftMost.desc).map (fun d => d.parameters.length) = some 0 := by decide +kernel
theorem yd_X11_lengthOf : yX11_lengthOf.cls = RX11 ∧ yX11_lengthOf.cls ≠ "java/lang/invoke/MethodHandle" ∧ yX11_lengthOf.cls ≠ "java/lang/invoke/VarHandle" ∧ (parseMethodDescriptor yX11_lengthOf.desc).map (fun d => d.parameters.length) = some 1 := by decide +kernel
theorem yd_X11_moving : yX11_moving.cls = RX11 ∧ yX11_moving.cls ≠ "java/lang/invoke/MethodHandle" ∧ yX11_moving.cls ≠ "java/lang/invoke/VarHandle" ∧ (parseMethodDescriptor yX11_moving.desc).map (fun d => d.parameters.length) = some 1 := by decide +kernel
theorem yd_X11_nextKey : yX11_nextKey.cls = RX11 ∧ yX11_nextKey.cls ≠ "java/lang/invoke/MethodHandle" ∧ yX11_nextKey.cls ≠ "java/lang/invoke/VarHandle" ∧ (parseMethodDescriptor yX11_nextKey.desc).map (fun d => d.parameters.length) = some 1 := by decide +kernel
theorem yd_X11_nextShelf : yX11_nextShelf.cls = RX11 ∧ yX11_nextShelf.cls ≠ "java/lang/invoke/MethodHandle" ∧ yX11_nextShelf.cls ≠ "java/lang/invoke/VarHandle" ∧ (parseMethodDescriptor yX11_nextShelf.desc).map (fun d => d.parameters.length) = some 2 := by decide +kernel
theorem yd_X11_nodes : yX11_nodes.cls = RX11 ∧ yX11_nodes.cls ≠ "java/lang/invoke/MethodHandle" ∧ yX11_nodes.cls ≠ "java/lang/invoke/VarHandle" ∧ (parseMethodDescriptor yX11_nodes.desc).map (fun d => d.parameters.length) = some 0 := by decide +kernel
theorem yd_X11_onBits : yX11_onBits.cls = RX11 ∧ yX11_onBits.cls ≠ "java/lang/invoke/MethodHandle" ∧ yX11_onBits.cls ≠ "java/lang/invoke/VarHandle" ∧ (parseMethodDescriptor yX11_onBits.desc).map (fun d => d.parameters.length) = some 2 := by decide +kernel
theorem yd_X11_onHash : yX11_onHash.cls = RX11 ∧ yX11_onHash.cls ≠ "java/lang/invoke/MethodHandle" ∧ yX11_onHash.cls ≠ "java/lang/invoke/VarHandle" ∧ (parseMethodDescriptor yX11_onHash.desc).map (fun d => d.parameters.length) = some 2 := by decide +kernel
theorem yd_X11_onHeap : yX11_onHeap.cls = RX11 ∧ yX11_onHeap.cls ≠ "java/lang/invoke/MethodHandle" ∧ yX11_onHeap.cls ≠ "java/lang/invoke/VarHandle" ∧ (parseMethodDescriptor yX11_onHeap.desc).map (fun d => d.parameters.length) = some 2 := by decide +kernel
theorem yd_X11_onRow : yX11_onRow.cls = RX11 ∧ yX11_onRow.cls ≠ "java/lang/invoke/MethodHandle" ∧ yX11_onRow.cls ≠ "java/lang/invoke/VarHandle" ∧ (parseMethodDescriptor yX11_onRow.desc).map (fun d => d.parameters.length) = some 2 := by decide +kernel
theorem yd_X11_onSorted : yX11_onSorted.cls = RX11 ∧ yX11_onSorted.cls ≠ "java/lang/invoke/MethodHandle" ∧ yX11_onSorted.cls ≠ "java/lang/invoke/VarHandle" ∧ (parseMethodDescriptor yX11_onSorted.desc).map (fun d => d.parameters.length) = some 2 := by decide +kernel
theorem yd_X11_onTree : yX11_onTree.cls = RX11 ∧ yX11_onTree.cls ≠ "java/lang/invoke/MethodHandle" ∧ yX11_onTree.cls ≠ "java/lang/invoke/VarHandle" ∧ (parseMethodDescriptor yX11_onTree.desc).map (fun d => d.parameters.length) = some 2 := by decide +kernel
theorem yd_X11_placeIn : yX11_placeIn.cls ≠ "java/lang/invoke/MethodHandle" ∧ yX11_placeIn.cls ≠ "java/lang/invoke/VarHandle" ∧ (parseMethodDescriptor yX11_placeIn.desc).map (fun d => d.parameters.length) = some 3 := by decide +kernel
theorem yd_X11_rehash : yX11_rehash.cls = RX11 ∧ yX11_rehash.cls ≠ "java/lang/invoke/MethodHandle" ∧ yX11_rehash.cls ≠ "java/lang/invoke/VarHandle" ∧ (parseMethodDescriptor yX11_rehash.desc).map (fun d => d.parameters.length) = some 0 := by decide +kernel
theorem yd_X11_roomOf : yX11_roomOf.cls = RX11 ∧ yX11_roomOf.cls ≠ "java/lang/invoke/MethodHandle" ∧ yX11_roomOf.cls ≠ "java/lang/invoke/VarHandle" ∧ (parseMethodDescriptor yX11_roomOf.desc).map (fun d => d.parameters.length) = some 1 := by decide +kernel
theorem yd_X11_step : yX11_step.cls = RX11 ∧ yX11_step.cls ≠ "java/lang/invoke/MethodHandle" ∧ yX11_step.cls ≠ "java/lang/invoke/VarHandle" ∧ (parseMethodDescriptor yX11_step.desc).map (fun d => d.parameters.length) = some 1 := by decide +kernel
theorem yd_X11_stepsOf : yX11_stepsOf.cls = RX11 ∧ yX11_stepsOf.cls ≠ "java/lang/invoke/MethodHandle" ∧ yX11_stepsOf.cls ≠ "java/lang/invoke/VarHandle" ∧ (parseMethodDescriptor yX11_stepsOf.desc).map (fun d => d.parameters.length) = some 2 := by decide +kernel
theorem yd_X11_takeNode : yX11_takeNode.cls = RX11 ∧ yX11_takeNode.cls ≠ "java/lang/invoke/MethodHandle" ∧ yX11_takeNode.cls ≠ "java/lang/invoke/VarHandle" ∧ (parseMethodDescriptor yX11_takeNode.desc).map (fun d => d.parameters.length) = some 1 := by decide +kernel
theorem yd_X11_takeOut : yX11_takeOut.cls ≠ "java/lang/invoke/MethodHandle" ∧ yX11_takeOut.cls ≠ "java/lang/invoke/VarHandle" ∧ (parseMethodDescriptor yX11_takeOut.desc).map (fun d => d.parameters.length) = some 3 := by decide +kernel
theorem yd_X11_thingAt : yX11_thingAt.cls = RX11 ∧ yX11_thingAt.cls ≠ "java/lang/invoke/MethodHandle" ∧ yX11_thingAt.cls ≠ "java/lang/invoke/VarHandle" ∧ (parseMethodDescriptor yX11_thingAt.desc).map (fun d => d.parameters.length) = some 3 := by decide +kernel
theorem yd_X11_topOf : yX11_topOf.cls = RX11 ∧ yX11_topOf.cls ≠ "java/lang/invoke/MethodHandle" ∧ yX11_topOf.cls ≠ "java/lang/invoke/VarHandle" ∧ (parseMethodDescriptor yX11_topOf.desc).map (fun d => d.parameters.length) = some 2 := by decide +kernel
theorem yd_X11_up : yX11_up.cls = RX11 ∧ yX11_up.cls ≠ "java/lang/invoke/MethodHandle" ∧ yX11_up.cls ≠ "java/lang/invoke/VarHandle" ∧ (parseMethodDescriptor yX11_up.desc).map (fun d => d.parameters.length) = some 1 := by decide +kernel
theorem yd_X11_wayTo : yX11_wayTo.cls = RX11 ∧ yX11_wayTo.cls ≠ "java/lang/invoke/MethodHandle" ∧ yX11_wayTo.cls ≠ "java/lang/invoke/VarHandle" ∧ (parseMethodDescriptor yX11_wayTo.desc).map (fun d => d.parameters.length) = some 1 := by decide +kernel
theorem yd_X11_worstOf : yX11_worstOf.cls = RX11 ∧ yX11_worstOf.cls ≠ "java/lang/invoke/MethodHandle" ∧ yX11_worstOf.cls ≠ "java/lang/invoke/VarHandle" ∧ (parseMethodDescriptor yX11_worstOf.desc).map (fun d => d.parameters.length) = some 1 := by decide +kernel
theorem zk17_17 : Cond.fieldLink RX11 71 "WhichShelfModel" "thrown" "I" ∈ zU := zu_17 _ (List.mem_of_getElem? (i := 17) rfl)
theorem zk17_18 : Cond.fieldLink RX11 74 "WhichShelfModel" "calls" "I" ∈ zU := zu_17 _ (List.mem_of_getElem? (i := 18) rfl)
theorem zk17_19 : Cond.methodLink RX11 81 yX11_in ∈ zU := zu_17 _ (List.mem_of_getElem? (i := 19) rfl)
theorem zk17_20 : Cond.static yX11_in ∈ zU := zu_17 _ (List.mem_of_getElem? (i := 20) rfl)
theorem zk17_21 : Cond.code yX11_in cX11_in 3 (some .boolean) ∈ zU := zu_17 _ (List.mem_of_getElem? (i := 21) rfl)
theorem zk17_22 : Cond.methodLink RX11 85 yX11_add ∈ zU := zu_17 _ (List.mem_of_getElem? (i := 22) rfl)
theorem zk17_23 : Cond.instanceMethod yX11_add ∈ zU := zu_17 _ (List.mem_of_getElem? (i := 23) rfl)
theorem zk18_0 : Cond.selects RX11 yX11_add yX11_add ∈ zU := zu_18 _ (List.mem_of_getElem? (i := 0) rfl)
theorem zk18_1 : Cond.code yX11_add cX11_add 3 none ∈ zU := zu_18 _ (List.mem_of_getElem? (i := 1) rfl)
theorem zk18_15 : Cond.constant RX11 89 (1103515245) ∈ zU := zu_18 _ (List.mem_of_getElem? (i := 15) rfl)
theorem zk18_2 : Cond.fieldLink RX11 77 "WhichShelfModel" "isDone" "Z" ∈ zU := zu_18 _ (List.mem_of_getElem? (i := 2) rfl)
theorem zk1_5 : Cond.initialized RX11 ∈ zU := zu_1 _ (List.mem_of_getElem? (i := 5) rfl)
theorem zk20_19 : Cond.fieldLink RX11 90 "WhichShelfModel" "goesUp" "Z" ∈ zU := zu_20 _ (List.mem_of_getElem? (i := 19) rfl)
theorem zk20_20 : Cond.fieldLink RX11 93 "WhichShelfModel" "asCame" "Z" ∈ zU := zu_20 _ (List.mem_of_getElem? (i := 20) rfl)
theorem zk21_17 : Cond.methodLink RX11 200 yX11_isCall ∈ zU := zu_21 _ (List.mem_of_getElem? (i := 17) rfl)
theorem zk21_18 : Cond.instanceMethod yX11_isCall ∈ zU := zu_21 _ (List.mem_of_getElem? (i := 18) rfl)
theorem zk21_19 : Cond.selects RX11 yX11_isCall yX11_isCall ∈ zU := zu_21 _ (List.mem_of_getElem? (i := 19) rfl)
theorem zk21_20 : Cond.code yX11_isCall cX11_isCall 2 (some .boolean) ∈ zU := zu_21 _ (List.mem_of_getElem? (i := 20) rfl)
theorem zk21_21 : Cond.methodLink RX11 204 yX11_doAll ∈ zU := zu_21 _ (List.mem_of_getElem? (i := 21) rfl)
theorem zk21_22 : Cond.instanceMethod yX11_doAll ∈ zU := zu_21 _ (List.mem_of_getElem? (i := 22) rfl)
theorem zk21_23 : Cond.selects RX11 yX11_doAll yX11_doAll ∈ zU := zu_21 _ (List.mem_of_getElem? (i := 23) rfl)
theorem zk22_0 : Cond.code yX11_doAll cX11_doAll 2 none ∈ zU := zu_22 _ (List.mem_of_getElem? (i := 0) rfl)
theorem zk22_1 : Cond.fieldLink RX11 96 "WhichShelfModel" "n" "I" ∈ zU := zu_22 _ (List.mem_of_getElem? (i := 1) rfl)
theorem zk22_10 : Cond.instanceMethod yX11_nodes ∈ zU := zu_22 _ (List.mem_of_getElem? (i := 10) rfl)
theorem zk22_11 : Cond.selects RX11 yX11_nodes yX11_nodes ∈ zU := zu_22 _ (List.mem_of_getElem? (i := 11) rfl)
theorem zk22_12 : Cond.code yX11_nodes cX11_nodes 3 (some .int) ∈ zU := zu_22 _ (List.mem_of_getElem? (i := 12) rfl)
theorem zk22_13 : Cond.methodLink RX11 196 yX11_step ∈ zU := zu_22 _ (List.mem_of_getElem? (i := 13) rfl)
theorem zk22_14 : Cond.instanceMethod yX11_step ∈ zU := zu_22 _ (List.mem_of_getElem? (i := 14) rfl)
theorem zk22_15 : Cond.selects RX11 yX11_step yX11_step ∈ zU := zu_22 _ (List.mem_of_getElem? (i := 15) rfl)
theorem zk22_16 : Cond.code yX11_step cX11_step 8 none ∈ zU := zu_22 _ (List.mem_of_getElem? (i := 16) rfl)
theorem zk22_17 : Cond.methodLink RX11 175 yX11_onRow ∈ zU := zu_22 _ (List.mem_of_getElem? (i := 17) rfl)
theorem zk22_18 : Cond.instanceMethod yX11_onRow ∈ zU := zu_22 _ (List.mem_of_getElem? (i := 18) rfl)
theorem zk22_19 : Cond.selects RX11 yX11_onRow yX11_onRow ∈ zU := zu_22 _ (List.mem_of_getElem? (i := 19) rfl)
theorem zk22_2 : Cond.fieldLink RX11 121 "WhichShelfModel" "chains" "I" ∈ zU := zu_22 _ (List.mem_of_getElem? (i := 2) rfl)
theorem zk22_20 : Cond.code yX11_onRow cX11_onRow 5 (some .int) ∈ zU := zu_22 _ (List.mem_of_getElem? (i := 20) rfl)
theorem zk22_21 : Cond.methodLink RX11 99 yX11_placeIn ∈ zU := zu_22 _ (List.mem_of_getElem? (i := 21) rfl)
theorem zk22_22 : Cond.static yX11_placeIn ∈ zU := zu_22 _ (List.mem_of_getElem? (i := 22) rfl)
theorem zk22_23 : Cond.code yX11_placeIn cX11_placeIn 4 (some .int) ∈ zU := zu_22 _ (List.mem_of_getElem? (i := 23) rfl)
theorem zk22_3 : Cond.fieldLink RX11 131 "WhichShelfModel" "stamp" "I" ∈ zU := zu_22 _ (List.mem_of_getElem? (i := 3) rfl)
theorem zk22_4 : Cond.fieldLink RX11 153 "WhichShelfModel" "clock" "I" ∈ zU := zu_22 _ (List.mem_of_getElem? (i := 4) rfl)
theorem zk22_5 : Cond.methodLink RX11 193 yX11_roomOf ∈ zU := zu_22 _ (List.mem_of_getElem? (i := 5) rfl)
theorem zk22_6 : Cond.instanceMethod yX11_roomOf ∈ zU := zu_22 _ (List.mem_of_getElem? (i := 6) rfl)
theorem zk22_7 : Cond.selects RX11 yX11_roomOf yX11_roomOf ∈ zU := zu_22 _ (List.mem_of_getElem? (i := 7) rfl)
theorem zk22_8 : Cond.code yX11_roomOf cX11_roomOf 2 (some .int) ∈ zU := zu_22 _ (List.mem_of_getElem? (i := 8) rfl)
theorem zk22_9 : Cond.methodLink RX11 159 yX11_nodes ∈ zU := zu_22 _ (List.mem_of_getElem? (i := 9) rfl)
theorem zk23_0 : Cond.methodLink RX11 103 yX11_grow ∈ zU := zu_23 _ (List.mem_of_getElem? (i := 0) rfl)
theorem zk23_1 : Cond.instanceMethod yX11_grow ∈ zU := zu_23 _ (List.mem_of_getElem? (i := 1) rfl)
theorem zk23_10 : Cond.code yX11_takeOut cX11_takeOut 4 none ∈ zU := zu_23 _ (List.mem_of_getElem? (i := 10) rfl)
theorem zk23_11 : Cond.methodLink RX11 178 yX11_onSorted ∈ zU := zu_23 _ (List.mem_of_getElem? (i := 11) rfl)
theorem zk23_12 : Cond.instanceMethod yX11_onSorted ∈ zU := zu_23 _ (List.mem_of_getElem? (i := 12) rfl)
theorem zk23_13 : Cond.selects RX11 yX11_onSorted yX11_onSorted ∈ zU := zu_23 _ (List.mem_of_getElem? (i := 13) rfl)
theorem zk23_14 : Cond.code yX11_onSorted cX11_onSorted 5 (some .int) ∈ zU := zu_23 _ (List.mem_of_getElem? (i := 14) rfl)
theorem zk23_15 : Cond.fieldLink RX11 115 "WhichShelfModel" "halvingEnd" "I" ∈ zU := zu_23 _ (List.mem_of_getElem? (i := 15) rfl)
theorem zk23_16 : Cond.methodLink RX11 118 yX11_halving ∈ zU := zu_23 _ (List.mem_of_getElem? (i := 16) rfl)
theorem zk23_17 : Cond.instanceMethod yX11_halving ∈ zU := zu_23 _ (List.mem_of_getElem? (i := 17) rfl)
theorem zk23_18 : Cond.selects RX11 yX11_halving yX11_halving ∈ zU := zu_23 _ (List.mem_of_getElem? (i := 18) rfl)
theorem zk23_19 : Cond.code yX11_halving cX11_halving 6 (some .int) ∈ zU := zu_23 _ (List.mem_of_getElem? (i := 19) rfl)
theorem zk23_2 : Cond.selects RX11 yX11_grow yX11_grow ∈ zU := zu_23 _ (List.mem_of_getElem? (i := 2) rfl)
theorem zk23_20 : Cond.methodLink RX11 181 yX11_onHash ∈ zU := zu_23 _ (List.mem_of_getElem? (i := 20) rfl)
theorem zk23_21 : Cond.instanceMethod yX11_onHash ∈ zU := zu_23 _ (List.mem_of_getElem? (i := 21) rfl)
theorem zk23_22 : Cond.selects RX11 yX11_onHash yX11_onHash ∈ zU := zu_23 _ (List.mem_of_getElem? (i := 22) rfl)
theorem zk23_23 : Cond.code yX11_onHash cX11_onHash 6 (some .int) ∈ zU := zu_23 _ (List.mem_of_getElem? (i := 23) rfl)
theorem zk23_3 : Cond.code yX11_grow cX11_grow 2 (some .int) ∈ zU := zu_23 _ (List.mem_of_getElem? (i := 3) rfl)
theorem zk23_4 : Cond.methodLink RX11 107 yX11_find ∈ zU := zu_23 _ (List.mem_of_getElem? (i := 4) rfl)
theorem zk23_5 : Cond.instanceMethod yX11_find ∈ zU := zu_23 _ (List.mem_of_getElem? (i := 5) rfl)
theorem zk23_6 : Cond.selects RX11 yX11_find yX11_find ∈ zU := zu_23 _ (List.mem_of_getElem? (i := 6) rfl)
theorem zk23_7 : Cond.code yX11_find cX11_find 4 (some .int) ∈ zU := zu_23 _ (List.mem_of_getElem? (i := 7) rfl)
theorem zk23_8 : Cond.methodLink RX11 111 yX11_takeOut ∈ zU := zu_23 _ (List.mem_of_getElem? (i := 8) rfl)
theorem zk23_9 : Cond.static yX11_takeOut ∈ zU := zu_23 _ (List.mem_of_getElem? (i := 9) rfl)
theorem zk24_0 : Cond.methodLink RX11 134 yX11_aheadIn ∈ zU := zu_24 _ (List.mem_of_getElem? (i := 0) rfl)
theorem zk24_1 : Cond.instanceMethod yX11_aheadIn ∈ zU := zu_24 _ (List.mem_of_getElem? (i := 1) rfl)
theorem zk24_10 : Cond.selects RX11 yX11_rehash yX11_rehash ∈ zU := zu_24 _ (List.mem_of_getElem? (i := 10) rfl)
theorem zk24_11 : Cond.code yX11_rehash cX11_rehash 5 none ∈ zU := zu_24 _ (List.mem_of_getElem? (i := 11) rfl)
theorem zk24_12 : Cond.methodLink RX11 127 yX11_thingAt ∈ zU := zu_24 _ (List.mem_of_getElem? (i := 12) rfl)
theorem zk24_13 : Cond.instanceMethod yX11_thingAt ∈ zU := zu_24 _ (List.mem_of_getElem? (i := 13) rfl)
theorem zk24_14 : Cond.selects RX11 yX11_thingAt yX11_thingAt ∈ zU := zu_24 _ (List.mem_of_getElem? (i := 14) rfl)
theorem zk24_15 : Cond.code yX11_thingAt cX11_thingAt 7 (some .int) ∈ zU := zu_24 _ (List.mem_of_getElem? (i := 15) rfl)
theorem zk24_16 : Cond.methodLink RX11 184 yX11_onTree ∈ zU := zu_24 _ (List.mem_of_getElem? (i := 16) rfl)
theorem zk24_17 : Cond.instanceMethod yX11_onTree ∈ zU := zu_24 _ (List.mem_of_getElem? (i := 17) rfl)
theorem zk24_18 : Cond.selects RX11 yX11_onTree yX11_onTree ∈ zU := zu_24 _ (List.mem_of_getElem? (i := 18) rfl)
theorem zk24_19 : Cond.code yX11_onTree cX11_onTree 4 (some .int) ∈ zU := zu_24 _ (List.mem_of_getElem? (i := 19) rfl)
theorem zk24_2 : Cond.selects RX11 yX11_aheadIn yX11_aheadIn ∈ zU := zu_24 _ (List.mem_of_getElem? (i := 2) rfl)
theorem zk24_20 : Cond.methodLink RX11 150 yX11_wayTo ∈ zU := zu_24 _ (List.mem_of_getElem? (i := 20) rfl)
theorem zk24_21 : Cond.instanceMethod yX11_wayTo ∈ zU := zu_24 _ (List.mem_of_getElem? (i := 21) rfl)
theorem zk24_22 : Cond.selects RX11 yX11_wayTo yX11_wayTo ∈ zU := zu_24 _ (List.mem_of_getElem? (i := 22) rfl)
theorem zk24_23 : Cond.code yX11_wayTo cX11_wayTo 4 (some .int) ∈ zU := zu_24 _ (List.mem_of_getElem? (i := 23) rfl)
theorem zk24_3 : Cond.code yX11_aheadIn cX11_aheadIn 5 (some .int) ∈ zU := zu_24 _ (List.mem_of_getElem? (i := 3) rfl)
theorem zk24_4 : Cond.methodLink RX11 124 yX11_lengthOf ∈ zU := zu_24 _ (List.mem_of_getElem? (i := 4) rfl)
theorem zk24_5 : Cond.instanceMethod yX11_lengthOf ∈ zU := zu_24 _ (List.mem_of_getElem? (i := 5) rfl)
theorem zk24_6 : Cond.selects RX11 yX11_lengthOf yX11_lengthOf ∈ zU := zu_24 _ (List.mem_of_getElem? (i := 6) rfl)
theorem zk24_7 : Cond.code yX11_lengthOf cX11_lengthOf 4 (some .int) ∈ zU := zu_24 _ (List.mem_of_getElem? (i := 7) rfl)
theorem zk24_8 : Cond.methodLink RX11 137 yX11_rehash ∈ zU := zu_24 _ (List.mem_of_getElem? (i := 8) rfl)
theorem zk24_9 : Cond.instanceMethod yX11_rehash ∈ zU := zu_24 _ (List.mem_of_getElem? (i := 9) rfl)
theorem zk25_0 : Cond.fieldLink RX11 140 "WhichShelfModel" "lowEnd" "I" ∈ zU := zu_25 _ (List.mem_of_getElem? (i := 0) rfl)
theorem zk25_1 : Cond.fieldLink RX11 143 "WhichShelfModel" "highEnd" "I" ∈ zU := zu_25 _ (List.mem_of_getElem? (i := 1) rfl)
theorem zk25_10 : Cond.methodLink RX11 163 yX11_leftMost ∈ zU := zu_25 _ (List.mem_of_getElem? (i := 10) rfl)
theorem zk25_11 : Cond.instanceMethod yX11_leftMost ∈ zU := zu_25 _ (List.mem_of_getElem? (i := 11) rfl)
theorem zk25_12 : Cond.selects RX11 yX11_leftMost yX11_leftMost ∈ zU := zu_25 _ (List.mem_of_getElem? (i := 12) rfl)
theorem zk25_13 : Cond.code yX11_leftMost cX11_leftMost 3 (some .int) ∈ zU := zu_25 _ (List.mem_of_getElem? (i := 13) rfl)
theorem zk25_14 : Cond.methodLink RX11 187 yX11_onHeap ∈ zU := zu_25 _ (List.mem_of_getElem? (i := 14) rfl)
theorem zk25_15 : Cond.instanceMethod yX11_onHeap ∈ zU := zu_25 _ (List.mem_of_getElem? (i := 15) rfl)
theorem zk25_16 : Cond.selects RX11 yX11_onHeap yX11_onHeap ∈ zU := zu_25 _ (List.mem_of_getElem? (i := 16) rfl)
theorem zk25_17 : Cond.code yX11_onHeap cX11_onHeap 6 (some .int) ∈ zU := zu_25 _ (List.mem_of_getElem? (i := 17) rfl)
theorem zk25_18 : Cond.methodLink RX11 166 yX11_up ∈ zU := zu_25 _ (List.mem_of_getElem? (i := 18) rfl)
theorem zk25_19 : Cond.instanceMethod yX11_up ∈ zU := zu_25 _ (List.mem_of_getElem? (i := 19) rfl)
theorem zk25_2 : Cond.methodLink RX11 146 yX11_topOf ∈ zU := zu_25 _ (List.mem_of_getElem? (i := 2) rfl)
theorem zk25_20 : Cond.selects RX11 yX11_up yX11_up ∈ zU := zu_25 _ (List.mem_of_getElem? (i := 20) rfl)
theorem zk25_21 : Cond.code yX11_up cX11_up 6 (some .int) ∈ zU := zu_25 _ (List.mem_of_getElem? (i := 21) rfl)
theorem zk25_22 : Cond.methodLink RX11 169 yX11_down ∈ zU := zu_25 _ (List.mem_of_getElem? (i := 22) rfl)
theorem zk25_23 : Cond.instanceMethod yX11_down ∈ zU := zu_25 _ (List.mem_of_getElem? (i := 23) rfl)
theorem zk25_3 : Cond.instanceMethod yX11_topOf ∈ zU := zu_25 _ (List.mem_of_getElem? (i := 3) rfl)
theorem zk25_4 : Cond.selects RX11 yX11_topOf yX11_topOf ∈ zU := zu_25 _ (List.mem_of_getElem? (i := 4) rfl)
theorem zk25_5 : Cond.code yX11_topOf cX11_topOf 5 (some .int) ∈ zU := zu_25 _ (List.mem_of_getElem? (i := 5) rfl)
theorem zk25_6 : Cond.methodLink RX11 156 yX11_takeNode ∈ zU := zu_25 _ (List.mem_of_getElem? (i := 6) rfl)
theorem zk25_7 : Cond.instanceMethod yX11_takeNode ∈ zU := zu_25 _ (List.mem_of_getElem? (i := 7) rfl)
theorem zk25_8 : Cond.selects RX11 yX11_takeNode yX11_takeNode ∈ zU := zu_25 _ (List.mem_of_getElem? (i := 8) rfl)
theorem zk25_9 : Cond.code yX11_takeNode cX11_takeNode 8 (some .int) ∈ zU := zu_25 _ (List.mem_of_getElem? (i := 9) rfl)
theorem zk26_0 : Cond.selects RX11 yX11_down yX11_down ∈ zU := zu_26 _ (List.mem_of_getElem? (i := 0) rfl)
theorem zk26_1 : Cond.code yX11_down cX11_down 7 (some .int) ∈ zU := zu_26 _ (List.mem_of_getElem? (i := 1) rfl)
theorem zk26_2 : Cond.methodLink RX11 190 yX11_onBits ∈ zU := zu_26 _ (List.mem_of_getElem? (i := 2) rfl)
theorem zk26_3 : Cond.instanceMethod yX11_onBits ∈ zU := zu_26 _ (List.mem_of_getElem? (i := 3) rfl)
theorem zk26_4 : Cond.selects RX11 yX11_onBits yX11_onBits ∈ zU := zu_26 _ (List.mem_of_getElem? (i := 4) rfl)
theorem zk26_5 : Cond.code yX11_onBits cX11_onBits 5 (some .int) ∈ zU := zu_26 _ (List.mem_of_getElem? (i := 5) rfl)
theorem zk26_6 : Cond.methodLink RX11 172 yX11_nextKey ∈ zU := zu_26 _ (List.mem_of_getElem? (i := 6) rfl)
theorem zk26_7 : Cond.instanceMethod yX11_nextKey ∈ zU := zu_26 _ (List.mem_of_getElem? (i := 7) rfl)
theorem zk26_8 : Cond.selects RX11 yX11_nextKey yX11_nextKey ∈ zU := zu_26 _ (List.mem_of_getElem? (i := 8) rfl)
theorem zk26_9 : Cond.code yX11_nextKey cX11_nextKey 3 (some .int) ∈ zU := zu_26 _ (List.mem_of_getElem? (i := 9) rfl)
theorem zk27_17 : Cond.methodLink RX11 207 yX11_isShelf ∈ zU := zu_27 _ (List.mem_of_getElem? (i := 17) rfl)
theorem zk27_18 : Cond.static yX11_isShelf ∈ zU := zu_27 _ (List.mem_of_getElem? (i := 18) rfl)
theorem zk27_19 : Cond.code yX11_isShelf cX11_isShelf 1 (some .boolean) ∈ zU := zu_27 _ (List.mem_of_getElem? (i := 19) rfl)
theorem zk28_14 : Cond.methodLink RX11 210 yX11_chained ∈ zU := zu_28 _ (List.mem_of_getElem? (i := 14) rfl)
theorem zk28_15 : Cond.instanceMethod yX11_chained ∈ zU := zu_28 _ (List.mem_of_getElem? (i := 15) rfl)
theorem zk28_16 : Cond.selects RX11 yX11_chained yX11_chained ∈ zU := zu_28 _ (List.mem_of_getElem? (i := 16) rfl)
theorem zk28_17 : Cond.code yX11_chained cX11_chained 4 (some .int) ∈ zU := zu_28 _ (List.mem_of_getElem? (i := 17) rfl)
theorem zk28_18 : Cond.methodLink RX11 213 yX11_ascending ∈ zU := zu_28 _ (List.mem_of_getElem? (i := 18) rfl)
theorem zk28_19 : Cond.instanceMethod yX11_ascending ∈ zU := zu_28 _ (List.mem_of_getElem? (i := 19) rfl)
theorem zk28_20 : Cond.selects RX11 yX11_ascending yX11_ascending ∈ zU := zu_28 _ (List.mem_of_getElem? (i := 20) rfl)
theorem zk28_21 : Cond.code yX11_ascending cX11_ascending 4 (some .int) ∈ zU := zu_28 _ (List.mem_of_getElem? (i := 21) rfl)
theorem zk31_12 : Cond.methodLink RX11 220 yX11_worstOf ∈ zU := zu_31 _ (List.mem_of_getElem? (i := 12) rfl)
theorem zk31_13 : Cond.instanceMethod yX11_worstOf ∈ zU := zu_31 _ (List.mem_of_getElem? (i := 13) rfl)
theorem zk31_14 : Cond.selects RX11 yX11_worstOf yX11_worstOf ∈ zU := zu_31 _ (List.mem_of_getElem? (i := 14) rfl)
theorem zk31_15 : Cond.code yX11_worstOf cX11_worstOf 4 (some .int) ∈ zU := zu_31 _ (List.mem_of_getElem? (i := 15) rfl)
theorem zk31_16 : Cond.methodLink RX11 223 yX11_stepsOf ∈ zU := zu_31 _ (List.mem_of_getElem? (i := 16) rfl)
theorem zk31_17 : Cond.instanceMethod yX11_stepsOf ∈ zU := zu_31 _ (List.mem_of_getElem? (i := 17) rfl)
theorem zk31_18 : Cond.selects RX11 yX11_stepsOf yX11_stepsOf ∈ zU := zu_31 _ (List.mem_of_getElem? (i := 18) rfl)
theorem zk31_19 : Cond.code yX11_stepsOf cX11_stepsOf 5 (some .int) ∈ zU := zu_31 _ (List.mem_of_getElem? (i := 19) rfl)
theorem zk31_20 : Cond.methodLink RX11 226 yX11_isOffered ∈ zU := zu_31 _ (List.mem_of_getElem? (i := 20) rfl)
theorem zk31_21 : Cond.instanceMethod yX11_isOffered ∈ zU := zu_31 _ (List.mem_of_getElem? (i := 21) rfl)
theorem zk31_22 : Cond.selects RX11 yX11_isOffered yX11_isOffered ∈ zU := zu_31 _ (List.mem_of_getElem? (i := 22) rfl)
theorem zk31_23 : Cond.code yX11_isOffered cX11_isOffered 2 (some .boolean) ∈ zU := zu_31 _ (List.mem_of_getElem? (i := 23) rfl)
theorem zk32_0 : Cond.methodLink RX11 216 yX11_hasFirst ∈ zU := zu_32 _ (List.mem_of_getElem? (i := 0) rfl)
theorem zk32_1 : Cond.instanceMethod yX11_hasFirst ∈ zU := zu_32 _ (List.mem_of_getElem? (i := 1) rfl)
theorem zk32_2 : Cond.selects RX11 yX11_hasFirst yX11_hasFirst ∈ zU := zu_32 _ (List.mem_of_getElem? (i := 2) rfl)
theorem zk32_3 : Cond.code yX11_hasFirst cX11_hasFirst 2 (some .boolean) ∈ zU := zu_32 _ (List.mem_of_getElem? (i := 3) rfl)
theorem zk35_10 : Cond.methodLink RX11 230 yX11_nextShelf ∈ zU := zu_35 _ (List.mem_of_getElem? (i := 10) rfl)
theorem zk35_11 : Cond.instanceMethod yX11_nextShelf ∈ zU := zu_35 _ (List.mem_of_getElem? (i := 11) rfl)
theorem zk35_12 : Cond.selects RX11 yX11_nextShelf yX11_nextShelf ∈ zU := zu_35 _ (List.mem_of_getElem? (i := 12) rfl)
theorem zk35_13 : Cond.code yX11_nextShelf cX11_nextShelf 10 (some .int) ∈ zU := zu_35 _ (List.mem_of_getElem? (i := 13) rfl)
theorem zk35_14 : Cond.methodLink RX11 233 yX11_moving ∈ zU := zu_35 _ (List.mem_of_getElem? (i := 14) rfl)
theorem zk35_15 : Cond.instanceMethod yX11_moving ∈ zU := zu_35 _ (List.mem_of_getElem? (i := 15) rfl)
theorem zk35_16 : Cond.selects RX11 yX11_moving yX11_moving ∈ zU := zu_35 _ (List.mem_of_getElem? (i := 16) rfl)
theorem zk35_17 : Cond.code yX11_moving cX11_moving 2 (some .int) ∈ zU := zu_35 _ (List.mem_of_getElem? (i := 17) rfl)
theorem zk35_18 : Cond.methodLink RX11 239 yX11_firstShelf ∈ zU := zu_35 _ (List.mem_of_getElem? (i := 18) rfl)
theorem zk35_19 : Cond.instanceMethod yX11_firstShelf ∈ zU := zu_35 _ (List.mem_of_getElem? (i := 19) rfl)
theorem zk35_20 : Cond.selects RX11 yX11_firstShelf yX11_firstShelf ∈ zU := zu_35 _ (List.mem_of_getElem? (i := 20) rfl)
theorem zk35_21 : Cond.code yX11_firstShelf cX11_firstShelf 3 (some .int) ∈ zU := zu_35 _ (List.mem_of_getElem? (i := 21) rfl)
theorem zk35_5 : Cond.methodLink RX11 236 yX11_findStages ∈ zU := zu_35 _ (List.mem_of_getElem? (i := 5) rfl)
theorem zk35_6 : Cond.instanceMethod yX11_findStages ∈ zU := zu_35 _ (List.mem_of_getElem? (i := 6) rfl)
theorem zk35_7 : Cond.selects RX11 yX11_findStages yX11_findStages ∈ zU := zu_35 _ (List.mem_of_getElem? (i := 7) rfl)
theorem zk35_8 : Cond.code yX11_findStages cX11_findStages 7 (some .boolean) ∈ zU := zu_35 _ (List.mem_of_getElem? (i := 8) rfl)
theorem zk35_9 : Cond.constant RX11 229 (536870912) ∈ zU := zu_35 _ (List.mem_of_getElem? (i := 9) rfl)
theorem zk5_13 : Cond.fieldLink RX11 9 "WhichShelfModel" "kinds" "[I" ∈ zU := zu_5 _ (List.mem_of_getElem? (i := 13) rfl)
theorem zk5_14 : Cond.fieldLink RX11 13 "WhichShelfModel" "keys" "[I" ∈ zU := zu_5 _ (List.mem_of_getElem? (i := 14) rfl)
theorem zk5_15 : Cond.fieldLink RX11 16 "WhichShelfModel" "fee" "I" ∈ zU := zu_5 _ (List.mem_of_getElem? (i := 15) rfl)
theorem zk5_16 : Cond.fieldLink RX11 20 "WhichShelfModel" "each" "I" ∈ zU := zu_5 _ (List.mem_of_getElem? (i := 16) rfl)
theorem zk5_17 : Cond.fieldLink RX11 23 "WhichShelfModel" "answers" "[I" ∈ zU := zu_5 _ (List.mem_of_getElem? (i := 17) rfl)
theorem zk5_18 : Cond.fieldLink RX11 26 "WhichShelfModel" "many" "[I" ∈ zU := zu_5 _ (List.mem_of_getElem? (i := 18) rfl)
theorem zk5_19 : Cond.fieldLink RX11 29 "WhichShelfModel" "cost" "[I" ∈ zU := zu_5 _ (List.mem_of_getElem? (i := 19) rfl)
theorem zk5_20 : Cond.fieldLink RX11 32 "WhichShelfModel" "room" "[I" ∈ zU := zu_5 _ (List.mem_of_getElem? (i := 20) rfl)
theorem zk5_21 : Cond.fieldLink RX11 35 "WhichShelfModel" "mostRoom" "[I" ∈ zU := zu_5 _ (List.mem_of_getElem? (i := 21) rfl)
theorem zk5_22 : Cond.fieldLink RX11 38 "WhichShelfModel" "row" "[I" ∈ zU := zu_5 _ (List.mem_of_getElem? (i := 22) rfl)
theorem zk5_23 : Cond.fieldLink RX11 41 "WhichShelfModel" "sorted" "[I" ∈ zU := zu_5 _ (List.mem_of_getElem? (i := 23) rfl)
theorem zk6_0 : Cond.fieldLink RX11 44 "WhichShelfModel" "heap" "[I" ∈ zU := zu_6 _ (List.mem_of_getElem? (i := 0) rfl)
theorem zk6_1 : Cond.fieldLink RX11 47 "WhichShelfModel" "size" "[I" ∈ zU := zu_6 _ (List.mem_of_getElem? (i := 1) rfl)
theorem zk6_2 : Cond.fieldLink RX11 50 "WhichShelfModel" "hashKey" "[I" ∈ zU := zu_6 _ (List.mem_of_getElem? (i := 2) rfl)
theorem zk6_3 : Cond.fieldLink RX11 53 "WhichShelfModel" "hashStamp" "[I" ∈ zU := zu_6 _ (List.mem_of_getElem? (i := 3) rfl)
theorem zk6_4 : Cond.fieldLink RX11 56 "WhichShelfModel" "time" "[I" ∈ zU := zu_6 _ (List.mem_of_getElem? (i := 4) rfl)
theorem zk6_5 : Cond.fieldLink RX11 59 "WhichShelfModel" "count" "[I" ∈ zU := zu_6 _ (List.mem_of_getElem? (i := 5) rfl)
theorem zk6_6 : Cond.fieldLink RX11 62 "WhichShelfModel" "rest" "[I" ∈ zU := zu_6 _ (List.mem_of_getElem? (i := 6) rfl)
theorem zk6_7 : Cond.fieldLink RX11 65 "WhichShelfModel" "restMoves" "[I" ∈ zU := zu_6 _ (List.mem_of_getElem? (i := 7) rfl)
theorem zk6_8 : Cond.fieldLink RX11 68 "WhichShelfModel" "anew" "[I" ∈ zU := zu_6 _ (List.mem_of_getElem? (i := 8) rfl)

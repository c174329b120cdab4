/-! THE CLASS: its objects at q 0 .. q 7, its rows behind -/
def zfX0 (q : Nat → Nat) (S : zSt) : List Value := [.ref (q 33), .int (S.1 18), .int (S.1 19), .int (S.1 20), .ref (q 10), .ref (q 16), .int (S.1 12)]
def zfX1 (q : Nat → Nat) (S : zSt) : List Value := [.ref (q 34), .int (S.1 21), .int (S.1 22), .int (S.1 23), .ref (q 11), .ref (q 17), .int (S.1 13), .int (S.1 24)]
def zfX2 (q : Nat → Nat) (S : zSt) : List Value := [.ref (q 35), .int (S.1 25), .int (S.1 26), .int (S.1 27), .ref (q 12), .ref (q 18), .int (S.1 14), .ref (q 37)]
def zfX3 (q : Nat → Nat) (S : zSt) : List Value := [.ref (q 38), .ref (q 13), .ref (q 19), .int (S.1 15), .ref (q 40), .ref (q 41), .int (S.1 31), .int (S.1 32), .int (S.1 33)]
def zfX4 (q : Nat → Nat) (S : zSt) : List Value := [.ref (q 36), .int (S.1 28), .int (S.1 29), .int (S.1 30), .ref (q 14), .ref (q 20), .int (S.1 16)]
def zfX5 (q : Nat → Nat) (S : zSt) : List Value := [.ref (q 39), .ref (q 15), .ref (q 21), .int (S.1 17)]
def zfX6 (q : Nat → Nat) (S : zSt) : List Value := [.ref (q 0), .ref (q 8), .ref (q 28), .ref (q 29), .ref (q 30), .ref (q 31), .int (S.1 0), .int (S.1 1), .int (S.1 2), .int (S.1 3), .int (S.1 4), .ref (q 7), .int (S.1 5)]
def zfX7 (q : Nat → Nat) (S : zSt) : List Value := [.ref (q 32), .ref (q 9), .int (S.1 6), .int (S.1 7), .int (S.1 8), .int (S.1 9), .int (S.1 10)]
def zwX (cI cS cW : ClassId) (q : Nat → Nat) (S : zSt) : va_W := [(q 0, .inr (4, zfX0 q S)), (q 1, .inr (5, zfX1 q S)), (q 2, .inr (1, zfX2 q S)), (q 3, .inr (6, zfX3 q S)), (q 4, .inr (2, zfX4 q S)), (q 5, .inr (0, zfX5 q S)), (q 6, .inr (7, zfX6 q S)), (q 7, .inr (3, zfX7 q S)), (q 8, .inl (cS, 6, .inr (.inr (.inr (.inr (fun j => some (q j))))))), (q 9, .inl (cW, 6, .inr (.inr (.inr (.inr (fun j => some (q (22 + j)))))))), (q 10, .inl (cI, 200, .inl (S.2 10))), (q 11, .inl (cI, 200, .inl (S.2 11))), (q 12, .inl (cI, 200, .inl (S.2 12))), (q 13, .inl (cI, 200, .inl (S.2 13))), (q 14, .inl (cI, 200, .inl (S.2 14))), (q 15, .inl (cI, 200, .inl (S.2 15))), (q 16, .inl (cI, 200, .inl (S.2 16))), (q 17, .inl (cI, 200, .inl (S.2 17))), (q 18, .inl (cI, 200, .inl (S.2 18))), (q 19, .inl (cI, 200, .inl (S.2 19))), (q 20, .inl (cI, 200, .inl (S.2 20))), (q 21, .inl (cI, 200, .inl (S.2 21))), (q 22, .inl (cI, 200, .inl (S.2 22))), (q 23, .inl (cI, 200, .inl (S.2 23))), (q 24, .inl (cI, 200, .inl (S.2 24))), (q 25, .inl (cI, 200, .inl (S.2 25))), (q 26, .inl (cI, 200, .inl (S.2 26))), (q 27, .inl (cI, 200, .inl (S.2 27))), (q 28, .inl (cI, 200, .inl (S.2 28))), (q 29, .inl (cI, 200, .inl (S.2 29))), (q 30, .inl (cI, 200, .inl (S.2 30))), (q 31, .inl (cI, 200, .inl (S.2 31))), (q 32, .inl (cI, 200, .inl (S.2 32))), (q 33, .inl (cI, 200, .inl (S.2 33))), (q 34, .inl (cI, 200, .inl (S.2 34))), (q 35, .inl (cI, 200, .inl (S.2 35))), (q 36, .inl (cI, 200, .inl (S.2 36))), (q 37, .inl (cI, 200, .inl (S.2 37))), (q 38, .inl (cI, 64, .inl (S.2 38))), (q 39, .inl (cI, 64, .inl (S.2 39))), (q 40, .inl (cI, 64, .inl (S.2 40))), (q 41, .inl (cI, 64, .inl (S.2 41)))]
def zyX (cI cS cW : ClassId) : List (ClassId × FieldType) := [(cI, .int), (cS, .object "WhichShelf$Shelf"), (cW, .array .int)]
def znX : List Cond := [.methodLinkNest RX9 45 yX10_isKey "WhichShelf", .methodLinkNest RX5 53 yX10_isIn "WhichShelf", .declares ⟨"WhichShelf$Shelf", "step", "(II)I"⟩, .declares ⟨"WhichShelf$Shelf", "room", "()I"⟩, .declares ⟨"WhichShelf$Shelf", "keyAt", "(I)I"⟩, .declares ⟨"WhichShelf$Shelf", "clear", "()V"⟩]
theorem znX_0 : (.methodLinkNest RX9 45 yX10_isKey "WhichShelf" : Cond) ∈ znX := List.mem_of_getElem? (i := 0) rfl
theorem znX_1 : (.methodLinkNest RX5 53 yX10_isIn "WhichShelf" : Cond) ∈ znX := List.mem_of_getElem? (i := 1) rfl
theorem znX_2 : (.declares ⟨"WhichShelf$Shelf", "step", "(II)I"⟩ : Cond) ∈ znX := List.mem_of_getElem? (i := 2) rfl
theorem znX_3 : (.declares ⟨"WhichShelf$Shelf", "room", "()I"⟩ : Cond) ∈ znX := List.mem_of_getElem? (i := 3) rfl
theorem znX_4 : (.declares ⟨"WhichShelf$Shelf", "keyAt", "(I)I"⟩ : Cond) ∈ znX := List.mem_of_getElem? (i := 4) rfl
theorem znX_5 : (.declares ⟨"WhichShelf$Shelf", "clear", "()V"⟩ : Cond) ∈ znX := List.mem_of_getElem? (i := 5) rfl
theorem zNmX {D : va_G} {tys : List (ClassId × FieldType)} {A : Nat → Prop} {s : State} (hE : zE D tys znX A s) : ∀ U : State, s.WarmedH U.vm → ∀ x ∈ znX, zNw x U := by
  intro U hW x hx
  obtain ⟨ho, h⟩ := hE.2.2 x hx
  refine ⟨ho, ?_⟩
  clear ho
  simp only [znX, List.mem_cons, List.not_mem_nil, or_false] at hx
  rcases hx with rfl | rfl | rfl | rfl | rfl | rfl
  · exact va_Nw.warmM hW h
  · exact va_Nw.warmM hW h
  · exact va_Nw.warmD hW h
  · exact va_Nw.warmD hW h
  · exact va_Nw.warmD hW h
  · exact va_Nw.warmD hW h
theorem z6 {j : Nat} (h : j < 6) : j = 0 ∨ j = 1 ∨ j = 2 ∨ j = 3 ∨ j = 4 ∨ j = 5 := by omega
theorem zin_lt {i : Int32} {n : Nat} (h : zin i n = true) : i.toNatClampNeg < n := Nat.not_le.mp fun q => zin_v h (Or.inr q)
section ZX
variable {cI cS cW : ClassId} {q : Nat → Nat} {S : zSt}
theorem zX_o0 : (zwX cI cS cW q S)[0]? = some (q 0, .inr (4, zfX0 q S)) := rfl
theorem zX_o1 : (zwX cI cS cW q S)[1]? = some (q 1, .inr (5, zfX1 q S)) := rfl
theorem zX_o2 : (zwX cI cS cW q S)[2]? = some (q 2, .inr (1, zfX2 q S)) := rfl
theorem zX_o3 : (zwX cI cS cW q S)[3]? = some (q 3, .inr (6, zfX3 q S)) := rfl
theorem zX_o4 : (zwX cI cS cW q S)[4]? = some (q 4, .inr (2, zfX4 q S)) := rfl
theorem zX_o5 : (zwX cI cS cW q S)[5]? = some (q 5, .inr (0, zfX5 q S)) := rfl
theorem zX_o6 : (zwX cI cS cW q S)[6]? = some (q 6, .inr (7, zfX6 q S)) := rfl
theorem zX_o7 : (zwX cI cS cW q S)[7]? = some (q 7, .inr (3, zfX7 q S)) := rfl
theorem zX_sh : (zwX cI cS cW q S)[8]? = some (q 8, .inl (cS, 6, .inr (.inr (.inr (.inr (fun j => some (q j))))))) := rfl
theorem zX_wt : (zwX cI cS cW q S)[9]? = some (q 9, .inl (cW, 6, .inr (.inr (.inr (.inr (fun j => some (q (22 + j)))))))) := rfl
theorem zX_a10 : (zwX cI cS cW q S)[10]? = some (q 10, .inl (cI, 200, .inl (S.2 10))) := rfl
theorem zX_r10 {i : Nat} {x : Int32} : (zwX cI cS cW q S).set 10 (q 10, .inl (cI, 200, .inl (upd (S.2 10) i x))) = zwX cI cS cW q (zsR S 10 i x) := rfl
theorem zX_c10 {f : Nat → Int32} : (zwX cI cS cW q S).set 10 (q 10, .inl (cI, 200, .inl f)) = zwX cI cS cW q (zsA S 10 f) := rfl
theorem zX_a11 : (zwX cI cS cW q S)[11]? = some (q 11, .inl (cI, 200, .inl (S.2 11))) := rfl
theorem zX_r11 {i : Nat} {x : Int32} : (zwX cI cS cW q S).set 11 (q 11, .inl (cI, 200, .inl (upd (S.2 11) i x))) = zwX cI cS cW q (zsR S 11 i x) := rfl
theorem zX_c11 {f : Nat → Int32} : (zwX cI cS cW q S).set 11 (q 11, .inl (cI, 200, .inl f)) = zwX cI cS cW q (zsA S 11 f) := rfl
theorem zX_a12 : (zwX cI cS cW q S)[12]? = some (q 12, .inl (cI, 200, .inl (S.2 12))) := rfl
theorem zX_r12 {i : Nat} {x : Int32} : (zwX cI cS cW q S).set 12 (q 12, .inl (cI, 200, .inl (upd (S.2 12) i x))) = zwX cI cS cW q (zsR S 12 i x) := rfl
theorem zX_c12 {f : Nat → Int32} : (zwX cI cS cW q S).set 12 (q 12, .inl (cI, 200, .inl f)) = zwX cI cS cW q (zsA S 12 f) := rfl
theorem zX_a13 : (zwX cI cS cW q S)[13]? = some (q 13, .inl (cI, 200, .inl (S.2 13))) := rfl
theorem zX_r13 {i : Nat} {x : Int32} : (zwX cI cS cW q S).set 13 (q 13, .inl (cI, 200, .inl (upd (S.2 13) i x))) = zwX cI cS cW q (zsR S 13 i x) := rfl
theorem zX_c13 {f : Nat → Int32} : (zwX cI cS cW q S).set 13 (q 13, .inl (cI, 200, .inl f)) = zwX cI cS cW q (zsA S 13 f) := rfl
theorem zX_a14 : (zwX cI cS cW q S)[14]? = some (q 14, .inl (cI, 200, .inl (S.2 14))) := rfl
theorem zX_r14 {i : Nat} {x : Int32} : (zwX cI cS cW q S).set 14 (q 14, .inl (cI, 200, .inl (upd (S.2 14) i x))) = zwX cI cS cW q (zsR S 14 i x) := rfl
theorem zX_c14 {f : Nat → Int32} : (zwX cI cS cW q S).set 14 (q 14, .inl (cI, 200, .inl f)) = zwX cI cS cW q (zsA S 14 f) := rfl
theorem zX_a15 : (zwX cI cS cW q S)[15]? = some (q 15, .inl (cI, 200, .inl (S.2 15))) := rfl
theorem zX_r15 {i : Nat} {x : Int32} : (zwX cI cS cW q S).set 15 (q 15, .inl (cI, 200, .inl (upd (S.2 15) i x))) = zwX cI cS cW q (zsR S 15 i x) := rfl
theorem zX_c15 {f : Nat → Int32} : (zwX cI cS cW q S).set 15 (q 15, .inl (cI, 200, .inl f)) = zwX cI cS cW q (zsA S 15 f) := rfl
theorem zX_a16 : (zwX cI cS cW q S)[16]? = some (q 16, .inl (cI, 200, .inl (S.2 16))) := rfl
theorem zX_r16 {i : Nat} {x : Int32} : (zwX cI cS cW q S).set 16 (q 16, .inl (cI, 200, .inl (upd (S.2 16) i x))) = zwX cI cS cW q (zsR S 16 i x) := rfl
theorem zX_c16 {f : Nat → Int32} : (zwX cI cS cW q S).set 16 (q 16, .inl (cI, 200, .inl f)) = zwX cI cS cW q (zsA S 16 f) := rfl
theorem zX_a17 : (zwX cI cS cW q S)[17]? = some (q 17, .inl (cI, 200, .inl (S.2 17))) := rfl
theorem zX_r17 {i : Nat} {x : Int32} : (zwX cI cS cW q S).set 17 (q 17, .inl (cI, 200, .inl (upd (S.2 17) i x))) = zwX cI cS cW q (zsR S 17 i x) := rfl
theorem zX_c17 {f : Nat → Int32} : (zwX cI cS cW q S).set 17 (q 17, .inl (cI, 200, .inl f)) = zwX cI cS cW q (zsA S 17 f) := rfl
theorem zX_a18 : (zwX cI cS cW q S)[18]? = some (q 18, .inl (cI, 200, .inl (S.2 18))) := rfl
theorem zX_r18 {i : Nat} {x : Int32} : (zwX cI cS cW q S).set 18 (q 18, .inl (cI, 200, .inl (upd (S.2 18) i x))) = zwX cI cS cW q (zsR S 18 i x) := rfl
theorem zX_c18 {f : Nat → Int32} : (zwX cI cS cW q S).set 18 (q 18, .inl (cI, 200, .inl f)) = zwX cI cS cW q (zsA S 18 f) := rfl
theorem zX_a19 : (zwX cI cS cW q S)[19]? = some (q 19, .inl (cI, 200, .inl (S.2 19))) := rfl
theorem zX_r19 {i : Nat} {x : Int32} : (zwX cI cS cW q S).set 19 (q 19, .inl (cI, 200, .inl (upd (S.2 19) i x))) = zwX cI cS cW q (zsR S 19 i x) := rfl
theorem zX_c19 {f : Nat → Int32} : (zwX cI cS cW q S).set 19 (q 19, .inl (cI, 200, .inl f)) = zwX cI cS cW q (zsA S 19 f) := rfl
theorem zX_a20 : (zwX cI cS cW q S)[20]? = some (q 20, .inl (cI, 200, .inl (S.2 20))) := rfl
theorem zX_r20 {i : Nat} {x : Int32} : (zwX cI cS cW q S).set 20 (q 20, .inl (cI, 200, .inl (upd (S.2 20) i x))) = zwX cI cS cW q (zsR S 20 i x) := rfl
theorem zX_c20 {f : Nat → Int32} : (zwX cI cS cW q S).set 20 (q 20, .inl (cI, 200, .inl f)) = zwX cI cS cW q (zsA S 20 f) := rfl
theorem zX_a21 : (zwX cI cS cW q S)[21]? = some (q 21, .inl (cI, 200, .inl (S.2 21))) := rfl
theorem zX_r21 {i : Nat} {x : Int32} : (zwX cI cS cW q S).set 21 (q 21, .inl (cI, 200, .inl (upd (S.2 21) i x))) = zwX cI cS cW q (zsR S 21 i x) := rfl
theorem zX_c21 {f : Nat → Int32} : (zwX cI cS cW q S).set 21 (q 21, .inl (cI, 200, .inl f)) = zwX cI cS cW q (zsA S 21 f) := rfl
theorem zX_a22 : (zwX cI cS cW q S)[22]? = some (q 22, .inl (cI, 200, .inl (S.2 22))) := rfl
theorem zX_r22 {i : Nat} {x : Int32} : (zwX cI cS cW q S).set 22 (q 22, .inl (cI, 200, .inl (upd (S.2 22) i x))) = zwX cI cS cW q (zsR S 22 i x) := rfl
theorem zX_c22 {f : Nat → Int32} : (zwX cI cS cW q S).set 22 (q 22, .inl (cI, 200, .inl f)) = zwX cI cS cW q (zsA S 22 f) := rfl
theorem zX_a23 : (zwX cI cS cW q S)[23]? = some (q 23, .inl (cI, 200, .inl (S.2 23))) := rfl
theorem zX_r23 {i : Nat} {x : Int32} : (zwX cI cS cW q S).set 23 (q 23, .inl (cI, 200, .inl (upd (S.2 23) i x))) = zwX cI cS cW q (zsR S 23 i x) := rfl
theorem zX_c23 {f : Nat → Int32} : (zwX cI cS cW q S).set 23 (q 23, .inl (cI, 200, .inl f)) = zwX cI cS cW q (zsA S 23 f) := rfl
theorem zX_a24 : (zwX cI cS cW q S)[24]? = some (q 24, .inl (cI, 200, .inl (S.2 24))) := rfl
theorem zX_r24 {i : Nat} {x : Int32} : (zwX cI cS cW q S).set 24 (q 24, .inl (cI, 200, .inl (upd (S.2 24) i x))) = zwX cI cS cW q (zsR S 24 i x) := rfl
theorem zX_c24 {f : Nat → Int32} : (zwX cI cS cW q S).set 24 (q 24, .inl (cI, 200, .inl f)) = zwX cI cS cW q (zsA S 24 f) := rfl
theorem zX_a25 : (zwX cI cS cW q S)[25]? = some (q 25, .inl (cI, 200, .inl (S.2 25))) := rfl
theorem zX_r25 {i : Nat} {x : Int32} : (zwX cI cS cW q S).set 25 (q 25, .inl (cI, 200, .inl (upd (S.2 25) i x))) = zwX cI cS cW q (zsR S 25 i x) := rfl
theorem zX_c25 {f : Nat → Int32} : (zwX cI cS cW q S).set 25 (q 25, .inl (cI, 200, .inl f)) = zwX cI cS cW q (zsA S 25 f) := rfl
theorem zX_a26 : (zwX cI cS cW q S)[26]? = some (q 26, .inl (cI, 200, .inl (S.2 26))) := rfl
theorem zX_r26 {i : Nat} {x : Int32} : (zwX cI cS cW q S).set 26 (q 26, .inl (cI, 200, .inl (upd (S.2 26) i x))) = zwX cI cS cW q (zsR S 26 i x) := rfl
theorem zX_c26 {f : Nat → Int32} : (zwX cI cS cW q S).set 26 (q 26, .inl (cI, 200, .inl f)) = zwX cI cS cW q (zsA S 26 f) := rfl
theorem zX_a27 : (zwX cI cS cW q S)[27]? = some (q 27, .inl (cI, 200, .inl (S.2 27))) := rfl
theorem zX_r27 {i : Nat} {x : Int32} : (zwX cI cS cW q S).set 27 (q 27, .inl (cI, 200, .inl (upd (S.2 27) i x))) = zwX cI cS cW q (zsR S 27 i x) := rfl
theorem zX_c27 {f : Nat → Int32} : (zwX cI cS cW q S).set 27 (q 27, .inl (cI, 200, .inl f)) = zwX cI cS cW q (zsA S 27 f) := rfl
theorem zX_a28 : (zwX cI cS cW q S)[28]? = some (q 28, .inl (cI, 200, .inl (S.2 28))) := rfl
theorem zX_r28 {i : Nat} {x : Int32} : (zwX cI cS cW q S).set 28 (q 28, .inl (cI, 200, .inl (upd (S.2 28) i x))) = zwX cI cS cW q (zsR S 28 i x) := rfl
theorem zX_c28 {f : Nat → Int32} : (zwX cI cS cW q S).set 28 (q 28, .inl (cI, 200, .inl f)) = zwX cI cS cW q (zsA S 28 f) := rfl
theorem zX_a29 : (zwX cI cS cW q S)[29]? = some (q 29, .inl (cI, 200, .inl (S.2 29))) := rfl
theorem zX_r29 {i : Nat} {x : Int32} : (zwX cI cS cW q S).set 29 (q 29, .inl (cI, 200, .inl (upd (S.2 29) i x))) = zwX cI cS cW q (zsR S 29 i x) := rfl
theorem zX_c29 {f : Nat → Int32} : (zwX cI cS cW q S).set 29 (q 29, .inl (cI, 200, .inl f)) = zwX cI cS cW q (zsA S 29 f) := rfl
theorem zX_a30 : (zwX cI cS cW q S)[30]? = some (q 30, .inl (cI, 200, .inl (S.2 30))) := rfl
theorem zX_r30 {i : Nat} {x : Int32} : (zwX cI cS cW q S).set 30 (q 30, .inl (cI, 200, .inl (upd (S.2 30) i x))) = zwX cI cS cW q (zsR S 30 i x) := rfl
theorem zX_c30 {f : Nat → Int32} : (zwX cI cS cW q S).set 30 (q 30, .inl (cI, 200, .inl f)) = zwX cI cS cW q (zsA S 30 f) := rfl
theorem zX_a31 : (zwX cI cS cW q S)[31]? = some (q 31, .inl (cI, 200, .inl (S.2 31))) := rfl
theorem zX_r31 {i : Nat} {x : Int32} : (zwX cI cS cW q S).set 31 (q 31, .inl (cI, 200, .inl (upd (S.2 31) i x))) = zwX cI cS cW q (zsR S 31 i x) := rfl
theorem zX_c31 {f : Nat → Int32} : (zwX cI cS cW q S).set 31 (q 31, .inl (cI, 200, .inl f)) = zwX cI cS cW q (zsA S 31 f) := rfl
theorem zX_a32 : (zwX cI cS cW q S)[32]? = some (q 32, .inl (cI, 200, .inl (S.2 32))) := rfl
theorem zX_r32 {i : Nat} {x : Int32} : (zwX cI cS cW q S).set 32 (q 32, .inl (cI, 200, .inl (upd (S.2 32) i x))) = zwX cI cS cW q (zsR S 32 i x) := rfl
theorem zX_c32 {f : Nat → Int32} : (zwX cI cS cW q S).set 32 (q 32, .inl (cI, 200, .inl f)) = zwX cI cS cW q (zsA S 32 f) := rfl
theorem zX_a33 : (zwX cI cS cW q S)[33]? = some (q 33, .inl (cI, 200, .inl (S.2 33))) := rfl
theorem zX_r33 {i : Nat} {x : Int32} : (zwX cI cS cW q S).set 33 (q 33, .inl (cI, 200, .inl (upd (S.2 33) i x))) = zwX cI cS cW q (zsR S 33 i x) := rfl
theorem zX_c33 {f : Nat → Int32} : (zwX cI cS cW q S).set 33 (q 33, .inl (cI, 200, .inl f)) = zwX cI cS cW q (zsA S 33 f) := rfl
theorem zX_a34 : (zwX cI cS cW q S)[34]? = some (q 34, .inl (cI, 200, .inl (S.2 34))) := rfl
theorem zX_r34 {i : Nat} {x : Int32} : (zwX cI cS cW q S).set 34 (q 34, .inl (cI, 200, .inl (upd (S.2 34) i x))) = zwX cI cS cW q (zsR S 34 i x) := rfl
theorem zX_c34 {f : Nat → Int32} : (zwX cI cS cW q S).set 34 (q 34, .inl (cI, 200, .inl f)) = zwX cI cS cW q (zsA S 34 f) := rfl
theorem zX_a35 : (zwX cI cS cW q S)[35]? = some (q 35, .inl (cI, 200, .inl (S.2 35))) := rfl
theorem zX_r35 {i : Nat} {x : Int32} : (zwX cI cS cW q S).set 35 (q 35, .inl (cI, 200, .inl (upd (S.2 35) i x))) = zwX cI cS cW q (zsR S 35 i x) := rfl
theorem zX_c35 {f : Nat → Int32} : (zwX cI cS cW q S).set 35 (q 35, .inl (cI, 200, .inl f)) = zwX cI cS cW q (zsA S 35 f) := rfl
theorem zX_a36 : (zwX cI cS cW q S)[36]? = some (q 36, .inl (cI, 200, .inl (S.2 36))) := rfl
theorem zX_r36 {i : Nat} {x : Int32} : (zwX cI cS cW q S).set 36 (q 36, .inl (cI, 200, .inl (upd (S.2 36) i x))) = zwX cI cS cW q (zsR S 36 i x) := rfl
theorem zX_c36 {f : Nat → Int32} : (zwX cI cS cW q S).set 36 (q 36, .inl (cI, 200, .inl f)) = zwX cI cS cW q (zsA S 36 f) := rfl
theorem zX_a37 : (zwX cI cS cW q S)[37]? = some (q 37, .inl (cI, 200, .inl (S.2 37))) := rfl
theorem zX_r37 {i : Nat} {x : Int32} : (zwX cI cS cW q S).set 37 (q 37, .inl (cI, 200, .inl (upd (S.2 37) i x))) = zwX cI cS cW q (zsR S 37 i x) := rfl
theorem zX_c37 {f : Nat → Int32} : (zwX cI cS cW q S).set 37 (q 37, .inl (cI, 200, .inl f)) = zwX cI cS cW q (zsA S 37 f) := rfl
theorem zX_a38 : (zwX cI cS cW q S)[38]? = some (q 38, .inl (cI, 64, .inl (S.2 38))) := rfl
theorem zX_r38 {i : Nat} {x : Int32} : (zwX cI cS cW q S).set 38 (q 38, .inl (cI, 64, .inl (upd (S.2 38) i x))) = zwX cI cS cW q (zsR S 38 i x) := rfl
theorem zX_c38 {f : Nat → Int32} : (zwX cI cS cW q S).set 38 (q 38, .inl (cI, 64, .inl f)) = zwX cI cS cW q (zsA S 38 f) := rfl
theorem zX_a39 : (zwX cI cS cW q S)[39]? = some (q 39, .inl (cI, 64, .inl (S.2 39))) := rfl
theorem zX_r39 {i : Nat} {x : Int32} : (zwX cI cS cW q S).set 39 (q 39, .inl (cI, 64, .inl (upd (S.2 39) i x))) = zwX cI cS cW q (zsR S 39 i x) := rfl
theorem zX_c39 {f : Nat → Int32} : (zwX cI cS cW q S).set 39 (q 39, .inl (cI, 64, .inl f)) = zwX cI cS cW q (zsA S 39 f) := rfl
theorem zX_a40 : (zwX cI cS cW q S)[40]? = some (q 40, .inl (cI, 64, .inl (S.2 40))) := rfl
theorem zX_r40 {i : Nat} {x : Int32} : (zwX cI cS cW q S).set 40 (q 40, .inl (cI, 64, .inl (upd (S.2 40) i x))) = zwX cI cS cW q (zsR S 40 i x) := rfl
theorem zX_c40 {f : Nat → Int32} : (zwX cI cS cW q S).set 40 (q 40, .inl (cI, 64, .inl f)) = zwX cI cS cW q (zsA S 40 f) := rfl
theorem zX_a41 : (zwX cI cS cW q S)[41]? = some (q 41, .inl (cI, 64, .inl (S.2 41))) := rfl
theorem zX_r41 {i : Nat} {x : Int32} : (zwX cI cS cW q S).set 41 (q 41, .inl (cI, 64, .inl (upd (S.2 41) i x))) = zwX cI cS cW q (zsR S 41 i x) := rfl
theorem zX_c41 {f : Nat → Int32} : (zwX cI cS cW q S).set 41 (q 41, .inl (cI, 64, .inl f)) = zwX cI cS cW q (zsA S 41 f) := rfl
theorem zX_i19 {v : Int32} : (zwX cI cS cW q S).set 0 (q 0, .inr (4, (zfX0 q S).set 2 (.int v))) = zwX cI cS cW q (zsI S 19 v) := rfl
theorem zX_i20 {v : Int32} : (zwX cI cS cW q S).set 0 (q 0, .inr (4, (zfX0 q S).set 3 (.int v))) = zwX cI cS cW q (zsI S 20 v) := rfl
theorem zX_i12 {v : Int32} : (zwX cI cS cW q S).set 0 (q 0, .inr (4, (zfX0 q S).set 6 (.int v))) = zwX cI cS cW q (zsI S 12 v) := rfl
theorem zX_i22 {v : Int32} : (zwX cI cS cW q S).set 1 (q 1, .inr (5, (zfX1 q S).set 2 (.int v))) = zwX cI cS cW q (zsI S 22 v) := rfl
theorem zX_i23 {v : Int32} : (zwX cI cS cW q S).set 1 (q 1, .inr (5, (zfX1 q S).set 3 (.int v))) = zwX cI cS cW q (zsI S 23 v) := rfl
theorem zX_i13 {v : Int32} : (zwX cI cS cW q S).set 1 (q 1, .inr (5, (zfX1 q S).set 6 (.int v))) = zwX cI cS cW q (zsI S 13 v) := rfl
theorem zX_i24 {v : Int32} : (zwX cI cS cW q S).set 1 (q 1, .inr (5, (zfX1 q S).set 7 (.int v))) = zwX cI cS cW q (zsI S 24 v) := rfl
theorem zX_i26 {v : Int32} : (zwX cI cS cW q S).set 2 (q 2, .inr (1, (zfX2 q S).set 2 (.int v))) = zwX cI cS cW q (zsI S 26 v) := rfl
theorem zX_i27 {v : Int32} : (zwX cI cS cW q S).set 2 (q 2, .inr (1, (zfX2 q S).set 3 (.int v))) = zwX cI cS cW q (zsI S 27 v) := rfl
theorem zX_i14 {v : Int32} : (zwX cI cS cW q S).set 2 (q 2, .inr (1, (zfX2 q S).set 6 (.int v))) = zwX cI cS cW q (zsI S 14 v) := rfl
theorem zX_i15 {v : Int32} : (zwX cI cS cW q S).set 3 (q 3, .inr (6, (zfX3 q S).set 3 (.int v))) = zwX cI cS cW q (zsI S 15 v) := rfl
theorem zX_i31 {v : Int32} : (zwX cI cS cW q S).set 3 (q 3, .inr (6, (zfX3 q S).set 6 (.int v))) = zwX cI cS cW q (zsI S 31 v) := rfl
theorem zX_i32 {v : Int32} : (zwX cI cS cW q S).set 3 (q 3, .inr (6, (zfX3 q S).set 7 (.int v))) = zwX cI cS cW q (zsI S 32 v) := rfl
theorem zX_i33 {v : Int32} : (zwX cI cS cW q S).set 3 (q 3, .inr (6, (zfX3 q S).set 8 (.int v))) = zwX cI cS cW q (zsI S 33 v) := rfl
theorem zX_i29 {v : Int32} : (zwX cI cS cW q S).set 4 (q 4, .inr (2, (zfX4 q S).set 2 (.int v))) = zwX cI cS cW q (zsI S 29 v) := rfl
theorem zX_i30 {v : Int32} : (zwX cI cS cW q S).set 4 (q 4, .inr (2, (zfX4 q S).set 3 (.int v))) = zwX cI cS cW q (zsI S 30 v) := rfl
theorem zX_i16 {v : Int32} : (zwX cI cS cW q S).set 4 (q 4, .inr (2, (zfX4 q S).set 6 (.int v))) = zwX cI cS cW q (zsI S 16 v) := rfl
theorem zX_i17 {v : Int32} : (zwX cI cS cW q S).set 5 (q 5, .inr (0, (zfX5 q S).set 3 (.int v))) = zwX cI cS cW q (zsI S 17 v) := rfl
theorem zX_i0 {v : Int32} : (zwX cI cS cW q S).set 6 (q 6, .inr (7, (zfX6 q S).set 6 (.int v))) = zwX cI cS cW q (zsI S 0 v) := rfl
theorem zX_i1 {v : Int32} : (zwX cI cS cW q S).set 6 (q 6, .inr (7, (zfX6 q S).set 7 (.int v))) = zwX cI cS cW q (zsI S 1 v) := rfl
theorem zX_i2 {v : Int32} : (zwX cI cS cW q S).set 6 (q 6, .inr (7, (zfX6 q S).set 8 (.int v))) = zwX cI cS cW q (zsI S 2 v) := rfl
theorem zX_i3 {v : Int32} : (zwX cI cS cW q S).set 6 (q 6, .inr (7, (zfX6 q S).set 9 (.int v))) = zwX cI cS cW q (zsI S 3 v) := rfl
theorem zX_i4 {v : Int32} : (zwX cI cS cW q S).set 6 (q 6, .inr (7, (zfX6 q S).set 10 (.int v))) = zwX cI cS cW q (zsI S 4 v) := rfl
theorem zX_i5 {v : Int32} : (zwX cI cS cW q S).set 6 (q 6, .inr (7, (zfX6 q S).set 12 (.int v))) = zwX cI cS cW q (zsI S 5 v) := rfl
theorem zX_i6 {v : Int32} : (zwX cI cS cW q S).set 7 (q 7, .inr (3, (zfX7 q S).set 2 (.int v))) = zwX cI cS cW q (zsI S 6 v) := rfl
theorem zX_i7 {v : Int32} : (zwX cI cS cW q S).set 7 (q 7, .inr (3, (zfX7 q S).set 3 (.int v))) = zwX cI cS cW q (zsI S 7 v) := rfl
theorem zX_i8 {v : Int32} : (zwX cI cS cW q S).set 7 (q 7, .inr (3, (zfX7 q S).set 4 (.int v))) = zwX cI cS cW q (zsI S 8 v) := rfl
theorem zX_i9 {v : Int32} : (zwX cI cS cW q S).set 7 (q 7, .inr (3, (zfX7 q S).set 5 (.int v))) = zwX cI cS cW q (zsI S 9 v) := rfl
theorem zX_i10 {v : Int32} : (zwX cI cS cW q S).set 7 (q 7, .inr (3, (zfX7 q S).set 6 (.int v))) = zwX cI cS cW q (zsI S 10 v) := rfl
theorem zX_d10 {j : Nat} (h : j < 6) : (zwX cI cS cW q S)[10 + j]? = some (q (10 + j), .inl (cI, 200, .inl (S.2 (10 + j)))) := by
  rcases z6 h with rfl | rfl | rfl | rfl | rfl | rfl <;> rfl
theorem zX_e10 {j i : Nat} {x : Int32} (h : j < 6) : (zwX cI cS cW q S).set (10 + j) (q (10 + j), .inl (cI, 200, .inl (upd (S.2 (10 + j)) i x))) = zwX cI cS cW q (zsR S (10 + j) i x) := by
  rcases z6 h with rfl | rfl | rfl | rfl | rfl | rfl <;> rfl
theorem zX_d22 {j : Nat} (h : j < 6) : (zwX cI cS cW q S)[22 + j]? = some (q (22 + j), .inl (cI, 200, .inl (S.2 (22 + j)))) := by
  rcases z6 h with rfl | rfl | rfl | rfl | rfl | rfl <;> rfl
theorem zX_e22 {j i : Nat} {x : Int32} (h : j < 6) : (zwX cI cS cW q S).set (22 + j) (q (22 + j), .inl (cI, 200, .inl (upd (S.2 (22 + j)) i x))) = zwX cI cS cW q (zsR S (22 + j) i x) := by
  rcases z6 h with rfl | rfl | rfl | rfl | rfl | rfl <;> rfl
end ZX
/-- System.arraycopy within the rows: the guard, and what comes of it -/
def zcg (sp dp n : Int32) : Bool := decide (¬ sp < 0 ∧ ¬ dp < 0 ∧ ¬ n < 0 ∧ sp.toNatClampNeg + n.toNatClampNeg ≤ 200 ∧ dp.toNatClampNeg + n.toNatClampNeg ≤ 200)
def zcp (S : zSt) (a b : Nat) (sp dp n : Int32) : zSt := zsA S b (va_cpy (S.2 a) (S.2 b) sp.toNatClampNeg dp.toNatClampNeg n.toNatClampNeg)
section ZXB
variable {p : Program} {l : Launch} {e : Env} {R : Room} {s : State} {m : MethodId} {args : Array Value} {below : List Frame} {meth : Method} {c : Code} {H : Heap} {locs : List Loc} {Q : State → Prop}
variable {cc : ByteArray} {pc nL : Nat} {ls : Array Slot} {rest : List Value} {D : va_G} {A : Nat → Prop} {a : Nat} {tys : List (ClassId × FieldType)} {nws : List Cond} {Ts : List Cond} {own : String} {ret : Option FieldType} {w : zSt → va_W} {S S9 : zSt} {cI cS cW : ClassId} {q : Nat → Nat}
theorem z_at {ci N : Nat} {Cn : String} {T : u_T} (hE : zE D tys nws A s) (hc : vwCl[ci]? = some (Cn, T, N)) : ClassAt s Cn (D.1 ci) := (hE.1.1 ci _ hc).2
theorem z_alen {q0 t0 : Nat} {cA : ClassId} {x : vp_A} {ty : FieldType} {v : Int32} (C : zCX p s m args meth c cc nL ret Ts own) (hE : zE D tys nws A s) (hH : zH D w A s S H locs) (ha : (w S)[q0]? = some (a, .inl (cA, x))) (ht : tys[t0]? = some (cA, ty)) (hv : Int32.ofNat x.1 = v) (hd : decode cc pc = .ok (.arraylength, 1))
    (kk : W p l e R s m args below meth c H locs 0 0 Q (F0 m (pc + 1) ls (.int v :: rest))) : W p l e R s m args below meth c H locs 0 0 Q (F0 m pc ls (.ref a :: rest)) := va_alen C.1 C.2.1 hE.1 hH.1 q0 t0 ha ht hv hd kk
theorem z_aldq {q0 t0 n : Nat} {cA : ClassId} {Cn : String} {f : Nat → Nat} {i : Int32} (C : zCX p s m args meth c cc nL ret Ts own) (hE : zE D tys nws A s) (hH : zH D w A s S H locs) (ha : (w S)[q0]? = some (a, .inl (cA, n, .inr (.inr (.inr (.inr (fun j => some (f j)))))))) (ht : tys[t0]? = some (cA, .object Cn)) (hi : zin i n = true) (hd : decode cc pc = .ok (.aaload, 1))
    (kk : W p l e R s m args below meth c H locs 0 0 Q (F0 m (pc + 1) ls (.ref (f i.toNatClampNeg) :: rest))) : W p l e R s m args below meth c H locs 0 0 Q (F0 m pc ls (.int i :: .ref a :: rest)) := va_aldq C.1 C.2.1 hE.1 hH.1 q0 t0 ha ht (zin_v hi) hd kk
theorem z_alda {q0 t0 n : Nat} {cA : ClassId} {ty : FieldType} {f : Nat → Nat} {i : Int32} (C : zCX p s m args meth c cc nL ret Ts own) (hE : zE D tys nws A s) (hH : zH D w A s S H locs) (ha : (w S)[q0]? = some (a, .inl (cA, n, .inr (.inr (.inr (.inr (fun j => some (f j)))))))) (ht : tys[t0]? = some (cA, .array ty)) (hi : zin i n = true) (hd : decode cc pc = .ok (.aaload, 1))
    (kk : W p l e R s m args below meth c H locs 0 0 Q (F0 m (pc + 1) ls (.ref (f i.toNatClampNeg) :: rest))) : W p l e R s m args below meth c H locs 0 0 Q (F0 m pc ls (.int i :: .ref a :: rest)) := by
  have hlt : i.toNatClampNeg < n := zin_lt hi
  have hin := zin_v hi
  exact W.aald (v := va_rf (some (f i.toNatClampNeg))) (ty := .array ty) C.1 C.2.1 (hH.1 q0 _ ha) ((hE.1.2 t0 _ ht).1 n (fun j => va_rf (some (f j)))) rfl (fun q => by cases q) (by show ¬ (i < 0 ∨ (arrV _ _ _).slots.size ≤ _); rw [arrV_size]; exact hin) (by show (arrV _ _ _).slots[_]? = _; rw [arrV_read _ _ hlt]) rfl rfl hd kk
theorem z_mmax {x y : Int32} {idx : Nat} (C : zCX p s m args meth c cc nL ret Ts own) (hls : ls.size = nL) (hlink : Cond.methodLink own idx Lib.Math.max.name ∈ Ts) (hstat : Cond.static Lib.Math.max.name ∈ Ts) (hini : Cond.initialized "java/lang/Math" ∈ Ts) (hcode : Cond.code Lib.Math.max.name Lib.Math.max.code 2 (some .int) ∈ Ts) (hframes : 1 ≤ R.frames) (hlocals : (rest.map fun v => v.category).sum + 13 ≤ R.locals) (hd : decode cc pc = .ok (.invokestatic idx, 3))
    (kk : W p l e R s m args below meth c H locs 0 0 Q (F0 m (pc + 3) ls (.int (zmax x y) :: rest))) : W p l e R s m args below meth c H locs 0 0 Q (F0 m pc ls (.int y :: .int x :: rest)) :=
  va_mmax C.1 C.2.1 (by rw [hls]; exact C.2.2.1) C.2.2.2.1 (C.2.2.2.2.1 _ hlink) (C.2.2.2.2.1 _ hstat) (C.2.2.2.2.1 _ hini) (C.2.2.2.2.1 _ hcode) hframes hlocals (Nat.zero_le _) (Nat.zero_le _) hd kk
theorem z_copyi {q0 q1 t0 : Nat} {a0 : Nat} {cA : ClassId} {f g : Nat → Int32} {sp dp n : Int32} {idx : Nat} (C : zCX p s m args meth c cc nL ret Ts own) (hE : zE D tys nws A s) (hH : zH D w A s S H locs) (hls : ls.size = nL) (hlink : Cond.methodLink own idx arraycopyName ∈ Ts) (hnat : Cond.native arraycopyName ∈ Ts) (hstat : Cond.static arraycopyName ∈ Ts) (hini : Cond.initialized "java/lang/System" ∈ Ts)
    (ha0 : (w S)[q0]? = some (a0, .inl (cA, 200, .inl f))) (ha1 : (w S)[q1]? = some (a, .inl (cA, 200, .inl g))) (ht : tys[t0]? = some (cA, .int)) (hg : zcg sp dp n = true) (hset : (w S).set q1 (a, .inl (cA, 200, .inl (va_cpy f g sp.toNatClampNeg dp.toNatClampNeg n.toNatClampNeg))) = w S9) (hframes : 1 ≤ R.frames) (hlocals : (rest.map fun v => v.category).sum + (nativeFrameWords "java/lang/System" "arraycopy" 5 + 11) ≤ R.locals) (hd : decode cc pc = .ok (.invokestatic idx, 3))
    (kk : ∀ (H1 : Heap) (locs1 : List Loc), zH D w A s S9 H1 locs1 → W p l e R s m args below meth c H1 locs1 0 0 Q (F0 m (pc + 3) ls rest)) : W p l e R s m args below meth c H locs 0 0 Q (F0 m pc ls (.int n :: .int dp :: .ref a :: .int sp :: .ref a0 :: rest)) := by
  obtain ⟨h1, h2, h3, h4, h5⟩ := of_decide_eq_true hg
  exact va_copyi C.1 C.2.1 (by rw [hls]; exact C.2.2.1) C.2.2.2.1 (C.2.2.2.2.1 _ hlink) (C.2.2.2.2.1 _ hnat) (C.2.2.2.2.1 _ hstat) (C.2.2.2.2.1 _ hini) hE.1 hH.1 hH.2.1 hH.2.2 q0 q1 t0 t0 ha0 ha1 ht ht rfl h1 h2 h3 h4 h5 (fun _ _ => rfl) hframes hlocals hd (fun H1 locs1 a1 a2 a3 => kk H1 locs1 ⟨by rw [← hset]; exact a1, by rw [← hset]; exact a2, a3⟩)
theorem z_getSteps {j idx : Nat} (C : zCX p s m args meth c cc nL ret Ts own) (hE : zE D tys nws A s) (hH : zH D (zwX cI cS cW q) A s S H locs) (i0 : ∀ x ∈ wsX60, x ∈ Ts) (i1 : ∀ x ∈ wsX80, x ∈ Ts) (i2 : ∀ x ∈ wsX20, x ∈ Ts) (i3 : ∀ x ∈ wsX90, x ∈ Ts) (i4 : ∀ x ∈ wsX30, x ∈ Ts) (i5 : ∀ x ∈ wsX00, x ∈ Ts) (hlink : Cond.fieldLink own idx "WhichShelf$Shelf" "steps" "[I" ∈ Ts) (hj : j < 6) (hd : decode cc pc = .ok (.getfield idx, 3))
    (kk : W p l e R s m args below meth c H locs 0 0 Q (F0 m (pc + 3) ls (.ref (q (10 + j)) :: rest))) : W p l e R s m args below meth c H locs 0 0 Q (F0 m pc ls (.ref (q j) :: rest)) := by
  rcases z6 hj with rfl | rfl | rfl | rfl | rfl | rfl
  · exact z_get C hE hH zX_o0 rfl i0 4 (by decide) hlink (fun _ h9 => h9) (v := .ref (q 10)) rfl hd kk
  · exact z_get C hE hH zX_o1 rfl i1 4 (by decide) hlink (fun _ h9 => h9) (v := .ref (q 11)) rfl hd kk
  · exact z_get C hE hH zX_o2 rfl i2 4 (by decide) hlink (fun _ h9 => h9) (v := .ref (q 12)) rfl hd kk
  · exact z_get C hE hH zX_o3 rfl i3 1 (by decide) hlink (fun _ h9 => h9) (v := .ref (q 13)) rfl hd kk
  · exact z_get C hE hH zX_o4 rfl i4 4 (by decide) hlink (fun _ h9 => h9) (v := .ref (q 14)) rfl hd kk
  · exact z_get C hE hH zX_o5 rfl i5 1 (by decide) hlink (fun _ h9 => h9) (v := .ref (q 15)) rfl hd kk
end ZXB
theorem zk10_0 : Cond.methodLink RX2 51 ⟨"WhichShelf$Hash", "insert", "(II)V"⟩ ∈ zU := zu_10 _ (List.mem_of_getElem? (i := 0) rfl)
theorem zk10_1 : Cond.sameMethod "WhichShelf$Hash" "WhichShelf$Lined" "insert" "(II)V" ∈ zU := zu_10 _ (List.mem_of_getElem? (i := 1) rfl)
theorem zk10_10 : Cond.methodLink RX2 45 ⟨"WhichShelf$Hash", "placeOf", "(I)I"⟩ ∈ zU := zu_10 _ (List.mem_of_getElem? (i := 10) rfl)
theorem zk10_11 : Cond.sameMethod "WhichShelf$Hash" "WhichShelf$Lined" "placeOf" "(I)I" ∈ zU := zu_10 _ (List.mem_of_getElem? (i := 11) rfl)
theorem zk10_12 : Cond.selects RX2 ⟨"WhichShelf$Hash", "placeOf", "(I)I"⟩ yX4_placeOf ∈ zU := zu_10 _ (List.mem_of_getElem? (i := 12) rfl)
theorem zk10_13 : Cond.methodLink RX2 33 yX2_strike ∈ zU := zu_10 _ (List.mem_of_getElem? (i := 13) rfl)
theorem zk10_14 : Cond.instanceMethod yX2_strike ∈ zU := zu_10 _ (List.mem_of_getElem? (i := 14) rfl)
theorem zk10_15 : Cond.selects RX2 yX2_strike yX2_strike ∈ zU := zu_10 _ (List.mem_of_getElem? (i := 15) rfl)
theorem zk10_16 : Cond.code yX2_strike cX2_strike 3 (some .int) ∈ zU := zu_10 _ (List.mem_of_getElem? (i := 16) rfl)
theorem zk10_17 : Cond.methodLink RX2 48 ⟨"WhichShelf$Hash", "remove", "(I)V"⟩ ∈ zU := zu_10 _ (List.mem_of_getElem? (i := 17) rfl)
theorem zk10_18 : Cond.sameMethod "WhichShelf$Hash" "WhichShelf$Lined" "remove" "(I)V" ∈ zU := zu_10 _ (List.mem_of_getElem? (i := 18) rfl)
theorem zk10_19 : Cond.selects RX2 ⟨"WhichShelf$Hash", "remove", "(I)V"⟩ yX4_remove ∈ zU := zu_10 _ (List.mem_of_getElem? (i := 19) rfl)
theorem zk10_2 : Cond.selects RX2 ⟨"WhichShelf$Hash", "insert", "(II)V"⟩ yX4_insert ∈ zU := zu_10 _ (List.mem_of_getElem? (i := 2) rfl)
theorem zk10_20 : Cond.instanceMethod yX4_remove ∈ zU := zu_10 _ (List.mem_of_getElem? (i := 20) rfl)
theorem zk10_21 : Cond.code yX4_remove cX4_remove 2 none ∈ zU := zu_10 _ (List.mem_of_getElem? (i := 21) rfl)
theorem zk10_22 : Cond.selects RX3 ⟨"WhichShelf$Shelf", "step", "(II)I"⟩ yX3_step ∈ zU := zu_10 _ (List.mem_of_getElem? (i := 22) rfl)
theorem zk10_23 : Cond.instanceMethod yX3_step ∈ zU := zu_10 _ (List.mem_of_getElem? (i := 23) rfl)
theorem zk10_3 : Cond.instanceMethod yX4_insert ∈ zU := zu_10 _ (List.mem_of_getElem? (i := 3) rfl)
theorem zk10_4 : Cond.code yX4_insert cX4_insert 3 none ∈ zU := zu_10 _ (List.mem_of_getElem? (i := 4) rfl)
theorem zk10_5 : Cond.methodLink RX4 25 arraycopyName ∈ zU := zu_10 _ (List.mem_of_getElem? (i := 5) rfl)
theorem zk10_6 : Cond.methodLink RX2 30 yX2_seek ∈ zU := zu_10 _ (List.mem_of_getElem? (i := 6) rfl)
theorem zk10_7 : Cond.instanceMethod yX2_seek ∈ zU := zu_10 _ (List.mem_of_getElem? (i := 7) rfl)
theorem zk10_8 : Cond.selects RX2 yX2_seek yX2_seek ∈ zU := zu_10 _ (List.mem_of_getElem? (i := 8) rfl)
theorem zk10_9 : Cond.code yX2_seek cX2_seek 5 (some .int) ∈ zU := zu_10 _ (List.mem_of_getElem? (i := 9) rfl)
theorem zk11_0 : Cond.code yX3_step cX3_step 3 (some .int) ∈ zU := zu_11 _ (List.mem_of_getElem? (i := 0) rfl)
theorem zk11_1 : Cond.fieldLink RX3 15 "WhichShelf$Heap" "size" "I" ∈ zU := zu_11 _ (List.mem_of_getElem? (i := 1) rfl)
theorem zk11_11 : Cond.instanceMethod yX4_growIfFull ∈ zU := zu_11 _ (List.mem_of_getElem? (i := 11) rfl)
theorem zk11_12 : Cond.code yX4_growIfFull cX4_growIfFull 1 (some .int) ∈ zU := zu_11 _ (List.mem_of_getElem? (i := 12) rfl)
theorem zk11_13 : Cond.selects RX3 ⟨"WhichShelf$Lined", "growIfFull", "()I"⟩ yX4_growIfFull ∈ zU := zu_11 _ (List.mem_of_getElem? (i := 13) rfl)
theorem zk11_14 : Cond.selects RX6 ⟨"WhichShelf$Lined", "growIfFull", "()I"⟩ yX4_growIfFull ∈ zU := zu_11 _ (List.mem_of_getElem? (i := 14) rfl)
theorem zk11_16 : Cond.methodLink RX4 35 ⟨"WhichShelf$Lined", "insert", "(II)V"⟩ ∈ zU := zu_11 _ (List.mem_of_getElem? (i := 16) rfl)
theorem zk11_17 : Cond.sameMethod "WhichShelf$Lined" "WhichShelf$Lined" "insert" "(II)V" ∈ zU := zu_11 _ (List.mem_of_getElem? (i := 17) rfl)
theorem zk11_19 : Cond.selects RX3 ⟨"WhichShelf$Lined", "insert", "(II)V"⟩ yX4_insert ∈ zU := zu_11 _ (List.mem_of_getElem? (i := 19) rfl)
theorem zk11_2 : Cond.sameField "WhichShelf$Heap" "WhichShelf$Lined" "size" "I" ∈ zU := zu_11 _ (List.mem_of_getElem? (i := 2) rfl)
theorem zk11_20 : Cond.selects RX6 ⟨"WhichShelf$Lined", "insert", "(II)V"⟩ yX4_insert ∈ zU := zu_11 _ (List.mem_of_getElem? (i := 20) rfl)
theorem zk11_22 : Cond.methodLink RX3 19 yX3_rise ∈ zU := zu_11 _ (List.mem_of_getElem? (i := 22) rfl)
theorem zk11_23 : Cond.instanceMethod yX3_rise ∈ zU := zu_11 _ (List.mem_of_getElem? (i := 23) rfl)
theorem zk11_3 : Cond.methodLink RX3 9 ⟨"WhichShelf$Heap", "append", "(I)I"⟩ ∈ zU := zu_11 _ (List.mem_of_getElem? (i := 3) rfl)
theorem zk11_4 : Cond.sameMethod "WhichShelf$Heap" "WhichShelf$Lined" "append" "(I)I" ∈ zU := zu_11 _ (List.mem_of_getElem? (i := 4) rfl)
theorem zk11_5 : Cond.selects RX3 ⟨"WhichShelf$Heap", "append", "(I)I"⟩ yX4_append ∈ zU := zu_11 _ (List.mem_of_getElem? (i := 5) rfl)
theorem zk11_6 : Cond.instanceMethod yX4_append ∈ zU := zu_11 _ (List.mem_of_getElem? (i := 6) rfl)
theorem zk11_7 : Cond.code yX4_append cX4_append 3 (some .int) ∈ zU := zu_11 _ (List.mem_of_getElem? (i := 7) rfl)
theorem zk11_8 : Cond.methodLink RX4 31 ⟨"WhichShelf$Lined", "growIfFull", "()I"⟩ ∈ zU := zu_11 _ (List.mem_of_getElem? (i := 8) rfl)
theorem zk11_9 : Cond.sameMethod "WhichShelf$Lined" "WhichShelf$Lined" "growIfFull" "()I" ∈ zU := zu_11 _ (List.mem_of_getElem? (i := 9) rfl)
theorem zk12_0 : Cond.selects RX3 yX3_rise yX3_rise ∈ zU := zu_12 _ (List.mem_of_getElem? (i := 0) rfl)
theorem zk12_1 : Cond.code yX3_rise cX3_rise 5 (some .int) ∈ zU := zu_12 _ (List.mem_of_getElem? (i := 1) rfl)
theorem zk12_10 : Cond.selects RX3 ⟨"WhichShelf$Heap", "placeOf", "(I)I"⟩ yX4_placeOf ∈ zU := zu_12 _ (List.mem_of_getElem? (i := 10) rfl)
theorem zk12_11 : Cond.methodLink RX3 25 ⟨"WhichShelf$Heap", "stepsTo", "(I)I"⟩ ∈ zU := zu_12 _ (List.mem_of_getElem? (i := 11) rfl)
theorem zk12_12 : Cond.sameMethod "WhichShelf$Heap" "WhichShelf$Lined" "stepsTo" "(I)I" ∈ zU := zu_12 _ (List.mem_of_getElem? (i := 12) rfl)
theorem zk12_13 : Cond.selects RX3 ⟨"WhichShelf$Heap", "stepsTo", "(I)I"⟩ yX4_stepsTo ∈ zU := zu_12 _ (List.mem_of_getElem? (i := 13) rfl)
theorem zk12_14 : Cond.instanceMethod yX4_stepsTo ∈ zU := zu_12 _ (List.mem_of_getElem? (i := 14) rfl)
theorem zk12_15 : Cond.code yX4_stepsTo cX4_stepsTo 2 (some .int) ∈ zU := zu_12 _ (List.mem_of_getElem? (i := 15) rfl)
theorem zk12_16 : Cond.methodLink RX3 28 yX3_strike ∈ zU := zu_12 _ (List.mem_of_getElem? (i := 16) rfl)
theorem zk12_17 : Cond.instanceMethod yX3_strike ∈ zU := zu_12 _ (List.mem_of_getElem? (i := 17) rfl)
theorem zk12_18 : Cond.selects RX3 yX3_strike yX3_strike ∈ zU := zu_12 _ (List.mem_of_getElem? (i := 18) rfl)
theorem zk12_19 : Cond.code yX3_strike cX3_strike 5 (some .int) ∈ zU := zu_12 _ (List.mem_of_getElem? (i := 19) rfl)
theorem zk12_2 : Cond.fieldLink RX3 31 "WhichShelf$Heap" "line" "[I" ∈ zU := zu_12 _ (List.mem_of_getElem? (i := 2) rfl)
theorem zk12_20 : Cond.methodLink RX3 35 yX3_sink ∈ zU := zu_12 _ (List.mem_of_getElem? (i := 20) rfl)
theorem zk12_21 : Cond.instanceMethod yX3_sink ∈ zU := zu_12 _ (List.mem_of_getElem? (i := 21) rfl)
theorem zk12_22 : Cond.selects RX3 yX3_sink yX3_sink ∈ zU := zu_12 _ (List.mem_of_getElem? (i := 22) rfl)
theorem zk12_23 : Cond.code yX3_sink cX3_sink 5 (some .int) ∈ zU := zu_12 _ (List.mem_of_getElem? (i := 23) rfl)
theorem zk12_3 : Cond.sameField "WhichShelf$Heap" "WhichShelf$Lined" "line" "[I" ∈ zU := zu_12 _ (List.mem_of_getElem? (i := 3) rfl)
theorem zk12_4 : Cond.methodLink RX3 38 yX3_swap ∈ zU := zu_12 _ (List.mem_of_getElem? (i := 4) rfl)
theorem zk12_5 : Cond.instanceMethod yX3_swap ∈ zU := zu_12 _ (List.mem_of_getElem? (i := 5) rfl)
theorem zk12_6 : Cond.selects RX3 yX3_swap yX3_swap ∈ zU := zu_12 _ (List.mem_of_getElem? (i := 6) rfl)
theorem zk12_7 : Cond.code yX3_swap cX3_swap 4 none ∈ zU := zu_12 _ (List.mem_of_getElem? (i := 7) rfl)
theorem zk12_8 : Cond.methodLink RX3 22 ⟨"WhichShelf$Heap", "placeOf", "(I)I"⟩ ∈ zU := zu_12 _ (List.mem_of_getElem? (i := 8) rfl)
theorem zk12_9 : Cond.sameMethod "WhichShelf$Heap" "WhichShelf$Lined" "placeOf" "(I)I" ∈ zU := zu_12 _ (List.mem_of_getElem? (i := 9) rfl)
theorem zk13_0 : Cond.methodLink RX3 42 yX3_lesserChild ∈ zU := zu_13 _ (List.mem_of_getElem? (i := 0) rfl)
theorem zk13_1 : Cond.instanceMethod yX3_lesserChild ∈ zU := zu_13 _ (List.mem_of_getElem? (i := 1) rfl)
theorem zk13_10 : Cond.methodLink RX6 18 ⟨"WhichShelf$Row", "stepsTo", "(I)I"⟩ ∈ zU := zu_13 _ (List.mem_of_getElem? (i := 10) rfl)
theorem zk13_11 : Cond.sameMethod "WhichShelf$Row" "WhichShelf$Lined" "stepsTo" "(I)I" ∈ zU := zu_13 _ (List.mem_of_getElem? (i := 11) rfl)
theorem zk13_12 : Cond.selects RX6 ⟨"WhichShelf$Row", "stepsTo", "(I)I"⟩ yX4_stepsTo ∈ zU := zu_13 _ (List.mem_of_getElem? (i := 12) rfl)
theorem zk13_13 : Cond.methodLink RX6 21 yX6_strike ∈ zU := zu_13 _ (List.mem_of_getElem? (i := 13) rfl)
theorem zk13_14 : Cond.instanceMethod yX6_strike ∈ zU := zu_13 _ (List.mem_of_getElem? (i := 14) rfl)
theorem zk13_15 : Cond.selects RX6 yX6_strike yX6_strike ∈ zU := zu_13 _ (List.mem_of_getElem? (i := 15) rfl)
theorem zk13_16 : Cond.code yX6_strike cX6_strike 4 (some .int) ∈ zU := zu_13 _ (List.mem_of_getElem? (i := 16) rfl)
theorem zk13_17 : Cond.methodLink RX6 28 ⟨"WhichShelf$Row", "remove", "(I)V"⟩ ∈ zU := zu_13 _ (List.mem_of_getElem? (i := 17) rfl)
theorem zk13_18 : Cond.sameMethod "WhichShelf$Row" "WhichShelf$Lined" "remove" "(I)V" ∈ zU := zu_13 _ (List.mem_of_getElem? (i := 18) rfl)
theorem zk13_19 : Cond.selects RX6 ⟨"WhichShelf$Row", "remove", "(I)V"⟩ yX4_remove ∈ zU := zu_13 _ (List.mem_of_getElem? (i := 19) rfl)
theorem zk13_2 : Cond.selects RX3 yX3_lesserChild yX3_lesserChild ∈ zU := zu_13 _ (List.mem_of_getElem? (i := 2) rfl)
theorem zk13_20 : Cond.selects RX8 ⟨"WhichShelf$Shelf", "step", "(II)I"⟩ yX8_step ∈ zU := zu_13 _ (List.mem_of_getElem? (i := 20) rfl)
theorem zk13_21 : Cond.instanceMethod yX8_step ∈ zU := zu_13 _ (List.mem_of_getElem? (i := 21) rfl)
theorem zk13_22 : Cond.code yX8_step cX8_step 3 (some .int) ∈ zU := zu_13 _ (List.mem_of_getElem? (i := 22) rfl)
theorem zk13_23 : Cond.fieldLink RX8 31 "WhichShelf$Sorted" "size" "I" ∈ zU := zu_13 _ (List.mem_of_getElem? (i := 23) rfl)
theorem zk13_3 : Cond.code yX3_lesserChild cX3_lesserChild 4 (some .int) ∈ zU := zu_13 _ (List.mem_of_getElem? (i := 3) rfl)
theorem zk13_4 : Cond.selects RX6 ⟨"WhichShelf$Shelf", "step", "(II)I"⟩ yX6_step ∈ zU := zu_13 _ (List.mem_of_getElem? (i := 4) rfl)
theorem zk13_5 : Cond.instanceMethod yX6_step ∈ zU := zu_13 _ (List.mem_of_getElem? (i := 5) rfl)
theorem zk13_6 : Cond.code yX6_step cX6_step 3 (some .int) ∈ zU := zu_13 _ (List.mem_of_getElem? (i := 6) rfl)
theorem zk13_7 : Cond.methodLink RX6 9 ⟨"WhichShelf$Row", "append", "(I)I"⟩ ∈ zU := zu_13 _ (List.mem_of_getElem? (i := 7) rfl)
theorem zk13_8 : Cond.sameMethod "WhichShelf$Row" "WhichShelf$Lined" "append" "(I)I" ∈ zU := zu_13 _ (List.mem_of_getElem? (i := 8) rfl)
theorem zk13_9 : Cond.selects RX6 ⟨"WhichShelf$Row", "append", "(I)I"⟩ yX4_append ∈ zU := zu_13 _ (List.mem_of_getElem? (i := 9) rfl)
theorem zk14_0 : Cond.sameField "WhichShelf$Sorted" "WhichShelf$Lined" "size" "I" ∈ zU := zu_14 _ (List.mem_of_getElem? (i := 0) rfl)
theorem zk14_1 : Cond.methodLink RX8 15 yX8_putInOrder ∈ zU := zu_14 _ (List.mem_of_getElem? (i := 1) rfl)
theorem zk14_10 : Cond.selects RX8 yX8_halve yX8_halve ∈ zU := zu_14 _ (List.mem_of_getElem? (i := 10) rfl)
theorem zk14_11 : Cond.code yX8_halve cX8_halve 5 (some .int) ∈ zU := zu_14 _ (List.mem_of_getElem? (i := 11) rfl)
theorem zk14_12 : Cond.fieldLink RX8 34 "WhichShelf$Sorted" "line" "[I" ∈ zU := zu_14 _ (List.mem_of_getElem? (i := 12) rfl)
theorem zk14_13 : Cond.sameField "WhichShelf$Sorted" "WhichShelf$Lined" "line" "[I" ∈ zU := zu_14 _ (List.mem_of_getElem? (i := 13) rfl)
theorem zk14_14 : Cond.methodLink RX8 42 ⟨"WhichShelf$Sorted", "insert", "(II)V"⟩ ∈ zU := zu_14 _ (List.mem_of_getElem? (i := 14) rfl)
theorem zk14_15 : Cond.sameMethod "WhichShelf$Sorted" "WhichShelf$Lined" "insert" "(II)V" ∈ zU := zu_14 _ (List.mem_of_getElem? (i := 15) rfl)
theorem zk14_16 : Cond.selects RX8 ⟨"WhichShelf$Sorted", "insert", "(II)V"⟩ yX4_insert ∈ zU := zu_14 _ (List.mem_of_getElem? (i := 16) rfl)
theorem zk14_17 : Cond.methodLink RX8 22 yX8_askedAt ∈ zU := zu_14 _ (List.mem_of_getElem? (i := 17) rfl)
theorem zk14_18 : Cond.instanceMethod yX8_askedAt ∈ zU := zu_14 _ (List.mem_of_getElem? (i := 18) rfl)
theorem zk14_19 : Cond.selects RX8 yX8_askedAt yX8_askedAt ∈ zU := zu_14 _ (List.mem_of_getElem? (i := 19) rfl)
theorem zk14_2 : Cond.instanceMethod yX8_putInOrder ∈ zU := zu_14 _ (List.mem_of_getElem? (i := 2) rfl)
theorem zk14_20 : Cond.code yX8_askedAt cX8_askedAt 2 (some .int) ∈ zU := zu_14 _ (List.mem_of_getElem? (i := 20) rfl)
theorem zk14_21 : Cond.methodLink RX8 25 yX8_strike ∈ zU := zu_14 _ (List.mem_of_getElem? (i := 21) rfl)
theorem zk14_22 : Cond.instanceMethod yX8_strike ∈ zU := zu_14 _ (List.mem_of_getElem? (i := 22) rfl)
theorem zk14_23 : Cond.selects RX8 yX8_strike yX8_strike ∈ zU := zu_14 _ (List.mem_of_getElem? (i := 23) rfl)
theorem zk14_3 : Cond.selects RX8 yX8_putInOrder yX8_putInOrder ∈ zU := zu_14 _ (List.mem_of_getElem? (i := 3) rfl)
theorem zk14_4 : Cond.code yX8_putInOrder cX8_putInOrder 5 (some .int) ∈ zU := zu_14 _ (List.mem_of_getElem? (i := 4) rfl)
theorem zk14_5 : Cond.methodLink RX8 38 ⟨"WhichShelf$Sorted", "growIfFull", "()I"⟩ ∈ zU := zu_14 _ (List.mem_of_getElem? (i := 5) rfl)
theorem zk14_6 : Cond.sameMethod "WhichShelf$Sorted" "WhichShelf$Lined" "growIfFull" "()I" ∈ zU := zu_14 _ (List.mem_of_getElem? (i := 6) rfl)
theorem zk14_7 : Cond.selects RX8 ⟨"WhichShelf$Sorted", "growIfFull", "()I"⟩ yX4_growIfFull ∈ zU := zu_14 _ (List.mem_of_getElem? (i := 7) rfl)
theorem zk14_8 : Cond.methodLink RX8 19 yX8_halve ∈ zU := zu_14 _ (List.mem_of_getElem? (i := 8) rfl)
theorem zk14_9 : Cond.instanceMethod yX8_halve ∈ zU := zu_14 _ (List.mem_of_getElem? (i := 9) rfl)
theorem zk15_0 : Cond.code yX8_strike cX8_strike 4 (some .int) ∈ zU := zu_15 _ (List.mem_of_getElem? (i := 0) rfl)
theorem zk15_1 : Cond.methodLink RX8 46 ⟨"WhichShelf$Sorted", "keyAt", "(I)I"⟩ ∈ zU := zu_15 _ (List.mem_of_getElem? (i := 1) rfl)
theorem zk15_10 : Cond.code yX8_seekBothEnds cX8_seekBothEnds 3 (some .int) ∈ zU := zu_15 _ (List.mem_of_getElem? (i := 10) rfl)
theorem zk15_11 : Cond.selects RX9 ⟨"WhichShelf$Shelf", "step", "(II)I"⟩ yX9_step ∈ zU := zu_15 _ (List.mem_of_getElem? (i := 11) rfl)
theorem zk15_12 : Cond.instanceMethod yX9_step ∈ zU := zu_15 _ (List.mem_of_getElem? (i := 12) rfl)
theorem zk15_13 : Cond.code yX9_step cX9_step 3 (some .int) ∈ zU := zu_15 _ (List.mem_of_getElem? (i := 13) rfl)
theorem zk15_14 : Cond.methodLink RX9 31 yX9_putNode ∈ zU := zu_15 _ (List.mem_of_getElem? (i := 14) rfl)
theorem zk15_15 : Cond.instanceMethod yX9_putNode ∈ zU := zu_15 _ (List.mem_of_getElem? (i := 15) rfl)
theorem zk15_16 : Cond.selects RX9 yX9_putNode yX9_putNode ∈ zU := zu_15 _ (List.mem_of_getElem? (i := 16) rfl)
theorem zk15_17 : Cond.code yX9_putNode cX9_putNode 3 (some .int) ∈ zU := zu_15 _ (List.mem_of_getElem? (i := 17) rfl)
theorem zk15_18 : Cond.fieldLink RX9 49 "WhichShelf$Tree" "many" "[I" ∈ zU := zu_15 _ (List.mem_of_getElem? (i := 18) rfl)
theorem zk15_19 : Cond.sameField "WhichShelf$Tree" "WhichShelf$Counted" "many" "[I" ∈ zU := zu_15 _ (List.mem_of_getElem? (i := 19) rfl)
theorem zk15_2 : Cond.sameMethod "WhichShelf$Sorted" "WhichShelf$Lined" "keyAt" "(I)I" ∈ zU := zu_15 _ (List.mem_of_getElem? (i := 2) rfl)
theorem zk15_20 : Cond.methodLink RX9 35 yX9_seek ∈ zU := zu_15 _ (List.mem_of_getElem? (i := 20) rfl)
theorem zk15_21 : Cond.instanceMethod yX9_seek ∈ zU := zu_15 _ (List.mem_of_getElem? (i := 21) rfl)
theorem zk15_22 : Cond.selects RX9 yX9_seek yX9_seek ∈ zU := zu_15 _ (List.mem_of_getElem? (i := 22) rfl)
theorem zk15_23 : Cond.code yX9_seek cX9_seek 4 (some .int) ∈ zU := zu_15 _ (List.mem_of_getElem? (i := 23) rfl)
theorem zk15_3 : Cond.selects RX8 ⟨"WhichShelf$Sorted", "keyAt", "(I)I"⟩ yX4_keyAt ∈ zU := zu_15 _ (List.mem_of_getElem? (i := 3) rfl)
theorem zk15_4 : Cond.methodLink RX8 49 ⟨"WhichShelf$Sorted", "remove", "(I)V"⟩ ∈ zU := zu_15 _ (List.mem_of_getElem? (i := 4) rfl)
theorem zk15_5 : Cond.sameMethod "WhichShelf$Sorted" "WhichShelf$Lined" "remove" "(I)V" ∈ zU := zu_15 _ (List.mem_of_getElem? (i := 5) rfl)
theorem zk15_6 : Cond.selects RX8 ⟨"WhichShelf$Sorted", "remove", "(I)V"⟩ yX4_remove ∈ zU := zu_15 _ (List.mem_of_getElem? (i := 6) rfl)
theorem zk15_7 : Cond.methodLink RX8 28 yX8_seekBothEnds ∈ zU := zu_15 _ (List.mem_of_getElem? (i := 7) rfl)
theorem zk15_8 : Cond.instanceMethod yX8_seekBothEnds ∈ zU := zu_15 _ (List.mem_of_getElem? (i := 8) rfl)
theorem zk15_9 : Cond.selects RX8 yX8_seekBothEnds yX8_seekBothEnds ∈ zU := zu_15 _ (List.mem_of_getElem? (i := 9) rfl)
theorem zk16_0 : Cond.methodLink RX9 52 yX9_hang ∈ zU := zu_16 _ (List.mem_of_getElem? (i := 0) rfl)
theorem zk16_1 : Cond.instanceMethod yX9_hang ∈ zU := zu_16 _ (List.mem_of_getElem? (i := 1) rfl)
theorem zk16_10 : Cond.selects RX9 yX9_takeOut yX9_takeOut ∈ zU := zu_16 _ (List.mem_of_getElem? (i := 10) rfl)
theorem zk16_11 : Cond.code yX9_takeOut cX9_takeOut 5 (some .int) ∈ zU := zu_16 _ (List.mem_of_getElem? (i := 11) rfl)
theorem zk16_12 : Cond.methodLink RX9 41 yX9_seekLeast ∈ zU := zu_16 _ (List.mem_of_getElem? (i := 12) rfl)
theorem zk16_13 : Cond.instanceMethod yX9_seekLeast ∈ zU := zu_16 _ (List.mem_of_getElem? (i := 13) rfl)
theorem zk16_14 : Cond.selects RX9 yX9_seekLeast yX9_seekLeast ∈ zU := zu_16 _ (List.mem_of_getElem? (i := 14) rfl)
theorem zk16_15 : Cond.code yX9_seekLeast cX9_seekLeast 3 (some .int) ∈ zU := zu_16 _ (List.mem_of_getElem? (i := 15) rfl)
theorem zk16_16 : Cond.methodLink RX7 26 ⟨"WhichShelf$Shelf", "room", "()I"⟩ ∈ zU := zu_16 _ (List.mem_of_getElem? (i := 16) rfl)
theorem zk16_17 : Cond.sameMethod "WhichShelf$Shelf" "WhichShelf$Shelf" "room" "()I" ∈ zU := zu_16 _ (List.mem_of_getElem? (i := 17) rfl)
theorem zk16_18 : Cond.selects RX0 ⟨"WhichShelf$Shelf", "room", "()I"⟩ yX0_room ∈ zU := zu_16 _ (List.mem_of_getElem? (i := 18) rfl)
theorem zk16_19 : Cond.instanceMethod yX0_room ∈ zU := zu_16 _ (List.mem_of_getElem? (i := 19) rfl)
theorem zk16_2 : Cond.selects RX9 yX9_hang yX9_hang ∈ zU := zu_16 _ (List.mem_of_getElem? (i := 2) rfl)
theorem zk16_20 : Cond.code yX0_room cX0_room 1 (some .int) ∈ zU := zu_16 _ (List.mem_of_getElem? (i := 20) rfl)
theorem zk16_21 : Cond.selects RX2 ⟨"WhichShelf$Shelf", "room", "()I"⟩ yX2_room ∈ zU := zu_16 _ (List.mem_of_getElem? (i := 21) rfl)
theorem zk16_22 : Cond.instanceMethod yX2_room ∈ zU := zu_16 _ (List.mem_of_getElem? (i := 22) rfl)
theorem zk16_23 : Cond.code yX2_room cX2_room 1 (some .int) ∈ zU := zu_16 _ (List.mem_of_getElem? (i := 23) rfl)
theorem zk16_3 : Cond.code yX9_hang cX9_hang 3 none ∈ zU := zu_16 _ (List.mem_of_getElem? (i := 3) rfl)
theorem zk16_4 : Cond.methodLink RX9 38 yX9_strike ∈ zU := zu_16 _ (List.mem_of_getElem? (i := 4) rfl)
theorem zk16_5 : Cond.instanceMethod yX9_strike ∈ zU := zu_16 _ (List.mem_of_getElem? (i := 5) rfl)
theorem zk16_6 : Cond.selects RX9 yX9_strike yX9_strike ∈ zU := zu_16 _ (List.mem_of_getElem? (i := 6) rfl)
theorem zk16_7 : Cond.code yX9_strike cX9_strike 3 (some .int) ∈ zU := zu_16 _ (List.mem_of_getElem? (i := 7) rfl)
theorem zk16_8 : Cond.methodLink RX9 56 yX9_takeOut ∈ zU := zu_16 _ (List.mem_of_getElem? (i := 8) rfl)
theorem zk16_9 : Cond.instanceMethod yX9_takeOut ∈ zU := zu_16 _ (List.mem_of_getElem? (i := 9) rfl)
theorem zk17_0 : Cond.selects RX3 ⟨"WhichShelf$Shelf", "room", "()I"⟩ yX4_room ∈ zU := zu_17 _ (List.mem_of_getElem? (i := 0) rfl)
theorem zk17_1 : Cond.instanceMethod yX4_room ∈ zU := zu_17 _ (List.mem_of_getElem? (i := 1) rfl)
theorem zk17_10 : Cond.selects RX6 ⟨"WhichShelf$Shelf", "take", "(II)V"⟩ yX7_take ∈ zU := zu_17 _ (List.mem_of_getElem? (i := 10) rfl)
theorem zk17_11 : Cond.selects RX8 ⟨"WhichShelf$Shelf", "take", "(II)V"⟩ yX7_take ∈ zU := zu_17 _ (List.mem_of_getElem? (i := 11) rfl)
theorem zk17_12 : Cond.selects RX9 ⟨"WhichShelf$Shelf", "take", "(II)V"⟩ yX7_take ∈ zU := zu_17 _ (List.mem_of_getElem? (i := 12) rfl)
theorem zk17_2 : Cond.code yX4_room cX4_room 1 (some .int) ∈ zU := zu_17 _ (List.mem_of_getElem? (i := 2) rfl)
theorem zk17_3 : Cond.selects RX6 ⟨"WhichShelf$Shelf", "room", "()I"⟩ yX4_room ∈ zU := zu_17 _ (List.mem_of_getElem? (i := 3) rfl)
theorem zk17_4 : Cond.selects RX8 ⟨"WhichShelf$Shelf", "room", "()I"⟩ yX4_room ∈ zU := zu_17 _ (List.mem_of_getElem? (i := 4) rfl)
theorem zk17_5 : Cond.selects RX9 ⟨"WhichShelf$Shelf", "room", "()I"⟩ yX9_room ∈ zU := zu_17 _ (List.mem_of_getElem? (i := 5) rfl)
theorem zk17_6 : Cond.instanceMethod yX9_room ∈ zU := zu_17 _ (List.mem_of_getElem? (i := 6) rfl)
theorem zk17_7 : Cond.code yX9_room cX9_room 1 (some .int) ∈ zU := zu_17 _ (List.mem_of_getElem? (i := 7) rfl)
theorem zk17_8 : Cond.selects RX2 ⟨"WhichShelf$Shelf", "take", "(II)V"⟩ yX7_take ∈ zU := zu_17 _ (List.mem_of_getElem? (i := 8) rfl)
theorem zk17_9 : Cond.selects RX3 ⟨"WhichShelf$Shelf", "take", "(II)V"⟩ yX7_take ∈ zU := zu_17 _ (List.mem_of_getElem? (i := 9) rfl)
theorem zk18_10 : Cond.constant RX10 161 (1103515245) ∈ zU := zu_18 _ (List.mem_of_getElem? (i := 10) rfl)
theorem zk18_20 : Cond.methodLink RX10 89 yX10_layAnew ∈ zU := zu_18 _ (List.mem_of_getElem? (i := 20) rfl)
theorem zk18_21 : Cond.instanceMethod yX10_layAnew ∈ zU := zu_18 _ (List.mem_of_getElem? (i := 21) rfl)
theorem zk18_22 : Cond.selects RX10 yX10_layAnew yX10_layAnew ∈ zU := zu_18 _ (List.mem_of_getElem? (i := 22) rfl)
theorem zk18_23 : Cond.code yX10_layAnew cX10_layAnew 3 none ∈ zU := zu_18 _ (List.mem_of_getElem? (i := 23) rfl)
theorem zk18_7 : Cond.methodLink RX10 85 yX10_drawnAfter ∈ zU := zu_18 _ (List.mem_of_getElem? (i := 7) rfl)
theorem zk18_8 : Cond.static yX10_drawnAfter ∈ zU := zu_18 _ (List.mem_of_getElem? (i := 8) rfl)
theorem zk18_9 : Cond.code yX10_drawnAfter cX10_drawnAfter 1 (some .int) ∈ zU := zu_18 _ (List.mem_of_getElem? (i := 9) rfl)
theorem zk19_0 : Cond.methodLink RX10 168 ⟨"WhichShelf$Shelf", "restart", "()V"⟩ ∈ zU := zu_19 _ (List.mem_of_getElem? (i := 0) rfl)
theorem zk19_1 : Cond.sameMethod "WhichShelf$Shelf" "WhichShelf$Shelf" "restart" "()V" ∈ zU := zu_19 _ (List.mem_of_getElem? (i := 1) rfl)
theorem zk19_10 : Cond.methodLink RX1 15 yJ7_fill_53178 ∈ zU := zu_19 _ (List.mem_of_getElem? (i := 10) rfl)
theorem zk19_11 : Cond.static yJ7_fill_53178 ∈ zU := zu_19 _ (List.mem_of_getElem? (i := 11) rfl)
theorem zk19_12 : Cond.initialized RJ7 ∈ zU := zu_19 _ (List.mem_of_getElem? (i := 12) rfl)
theorem zk19_13 : Cond.code yJ7_fill_53178 cJ7_fill_53178 4 none ∈ zU := zu_19 _ (List.mem_of_getElem? (i := 13) rfl)
theorem zk19_14 : Cond.selects RX2 ⟨"WhichShelf$Shelf", "clear", "()V"⟩ yX4_clear ∈ zU := zu_19 _ (List.mem_of_getElem? (i := 14) rfl)
theorem zk19_15 : Cond.instanceMethod yX4_clear ∈ zU := zu_19 _ (List.mem_of_getElem? (i := 15) rfl)
theorem zk19_16 : Cond.code yX4_clear cX4_clear 1 none ∈ zU := zu_19 _ (List.mem_of_getElem? (i := 16) rfl)
theorem zk19_17 : Cond.selects RX3 ⟨"WhichShelf$Shelf", "clear", "()V"⟩ yX4_clear ∈ zU := zu_19 _ (List.mem_of_getElem? (i := 17) rfl)
theorem zk19_18 : Cond.selects RX6 ⟨"WhichShelf$Shelf", "clear", "()V"⟩ yX4_clear ∈ zU := zu_19 _ (List.mem_of_getElem? (i := 18) rfl)
theorem zk19_19 : Cond.selects RX8 ⟨"WhichShelf$Shelf", "clear", "()V"⟩ yX4_clear ∈ zU := zu_19 _ (List.mem_of_getElem? (i := 19) rfl)
theorem zk19_2 : Cond.selects RX0 ⟨"WhichShelf$Shelf", "restart", "()V"⟩ yX7_restart ∈ zU := zu_19 _ (List.mem_of_getElem? (i := 2) rfl)
theorem zk19_20 : Cond.selects RX9 ⟨"WhichShelf$Shelf", "clear", "()V"⟩ yX9_clear ∈ zU := zu_19 _ (List.mem_of_getElem? (i := 20) rfl)
theorem zk19_21 : Cond.instanceMethod yX9_clear ∈ zU := zu_19 _ (List.mem_of_getElem? (i := 21) rfl)
theorem zk19_22 : Cond.code yX9_clear cX9_clear 1 none ∈ zU := zu_19 _ (List.mem_of_getElem? (i := 22) rfl)
theorem zk19_23 : Cond.methodLink RX9 28 yX1_clear ∈ zU := zu_19 _ (List.mem_of_getElem? (i := 23) rfl)
theorem zk19_3 : Cond.instanceMethod yX7_restart ∈ zU := zu_19 _ (List.mem_of_getElem? (i := 3) rfl)
theorem zk19_4 : Cond.code yX7_restart cX7_restart 1 none ∈ zU := zu_19 _ (List.mem_of_getElem? (i := 4) rfl)
theorem zk19_5 : Cond.methodLink RX7 30 ⟨"WhichShelf$Shelf", "clear", "()V"⟩ ∈ zU := zu_19 _ (List.mem_of_getElem? (i := 5) rfl)
theorem zk19_6 : Cond.sameMethod "WhichShelf$Shelf" "WhichShelf$Shelf" "clear" "()V" ∈ zU := zu_19 _ (List.mem_of_getElem? (i := 6) rfl)
theorem zk19_7 : Cond.selects RX0 ⟨"WhichShelf$Shelf", "clear", "()V"⟩ yX1_clear ∈ zU := zu_19 _ (List.mem_of_getElem? (i := 7) rfl)
theorem zk19_8 : Cond.instanceMethod yX1_clear ∈ zU := zu_19 _ (List.mem_of_getElem? (i := 8) rfl)
theorem zk19_9 : Cond.code yX1_clear cX1_clear 1 none ∈ zU := zu_19 _ (List.mem_of_getElem? (i := 9) rfl)
theorem zk1_15 : Cond.initialized RX6 ∈ zU := zu_1 _ (List.mem_of_getElem? (i := 15) rfl)
theorem zk1_16 : Cond.fieldLink RX10 10 "WhichShelf" "row" "LWhichShelf$Row;" ∈ zU := zu_1 _ (List.mem_of_getElem? (i := 16) rfl)
theorem zk1_2 : Cond.initialized RX10 ∈ zU := zu_1 _ (List.mem_of_getElem? (i := 2) rfl)
theorem zk1_20 : Cond.initialized RX8 ∈ zU := zu_1 _ (List.mem_of_getElem? (i := 20) rfl)
theorem zk1_23 : Cond.initialized RX2 ∈ zU := zu_1 _ (List.mem_of_getElem? (i := 23) rfl)
theorem zk20_0 : Cond.sameMethod "WhichShelf$Counted" "WhichShelf$Counted" "clear" "()V" ∈ zU := zu_20 _ (List.mem_of_getElem? (i := 0) rfl)
theorem zk20_1 : Cond.superclass RX9 RX1 ∈ zU := zu_20 _ (List.mem_of_getElem? (i := 1) rfl)
theorem zk20_2 : Cond.selects RX2 ⟨"WhichShelf$Shelf", "restart", "()V"⟩ yX7_restart ∈ zU := zu_20 _ (List.mem_of_getElem? (i := 2) rfl)
theorem zk20_3 : Cond.selects RX3 ⟨"WhichShelf$Shelf", "restart", "()V"⟩ yX7_restart ∈ zU := zu_20 _ (List.mem_of_getElem? (i := 3) rfl)
theorem zk20_4 : Cond.selects RX6 ⟨"WhichShelf$Shelf", "restart", "()V"⟩ yX7_restart ∈ zU := zu_20 _ (List.mem_of_getElem? (i := 4) rfl)
theorem zk20_5 : Cond.selects RX8 ⟨"WhichShelf$Shelf", "restart", "()V"⟩ yX7_restart ∈ zU := zu_20 _ (List.mem_of_getElem? (i := 5) rfl)
theorem zk20_6 : Cond.selects RX9 ⟨"WhichShelf$Shelf", "restart", "()V"⟩ yX7_restart ∈ zU := zu_20 _ (List.mem_of_getElem? (i := 6) rfl)
theorem zk21_10 : Cond.instanceMethod yX10_isCall ∈ zU := zu_21 _ (List.mem_of_getElem? (i := 10) rfl)
theorem zk21_11 : Cond.selects RX10 yX10_isCall yX10_isCall ∈ zU := zu_21 _ (List.mem_of_getElem? (i := 11) rfl)
theorem zk21_12 : Cond.code yX10_isCall cX10_isCall 2 (some .boolean) ∈ zU := zu_21 _ (List.mem_of_getElem? (i := 12) rfl)
theorem zk21_9 : Cond.methodLink RX10 93 yX10_isCall ∈ zU := zu_21 _ (List.mem_of_getElem? (i := 9) rfl)
theorem zk27_10 : Cond.methodLink RX10 103 yX10_isShelf ∈ zU := zu_27 _ (List.mem_of_getElem? (i := 10) rfl)
theorem zk27_11 : Cond.static yX10_isShelf ∈ zU := zu_27 _ (List.mem_of_getElem? (i := 11) rfl)
theorem zk27_12 : Cond.code yX10_isShelf cX10_isShelf 1 (some .boolean) ∈ zU := zu_27 _ (List.mem_of_getElem? (i := 12) rfl)
theorem zk27_9 : Cond.fieldLink RX10 106 "WhichShelf$Shelf" "steps" "[I" ∈ zU := zu_27 _ (List.mem_of_getElem? (i := 9) rfl)
theorem zk28_0 : Cond.methodLink RX10 112 ⟨"WhichShelf$Shelf", "keyAt", "(I)I"⟩ ∈ zU := zu_28 _ (List.mem_of_getElem? (i := 0) rfl)
theorem zk28_1 : Cond.sameMethod "WhichShelf$Shelf" "WhichShelf$Shelf" "keyAt" "(I)I" ∈ zU := zu_28 _ (List.mem_of_getElem? (i := 1) rfl)
theorem zk28_2 : Cond.selects RX0 ⟨"WhichShelf$Shelf", "keyAt", "(I)I"⟩ yX1_keyAt ∈ zU := zu_28 _ (List.mem_of_getElem? (i := 2) rfl)
theorem zk28_3 : Cond.instanceMethod yX1_keyAt ∈ zU := zu_28 _ (List.mem_of_getElem? (i := 3) rfl)
theorem zk28_4 : Cond.code yX1_keyAt cX1_keyAt 4 (some .int) ∈ zU := zu_28 _ (List.mem_of_getElem? (i := 4) rfl)
theorem zk28_5 : Cond.selects RX2 ⟨"WhichShelf$Shelf", "keyAt", "(I)I"⟩ yX4_keyAt ∈ zU := zu_28 _ (List.mem_of_getElem? (i := 5) rfl)
theorem zk28_6 : Cond.selects RX3 ⟨"WhichShelf$Shelf", "keyAt", "(I)I"⟩ yX4_keyAt ∈ zU := zu_28 _ (List.mem_of_getElem? (i := 6) rfl)
theorem zk28_7 : Cond.selects RX6 ⟨"WhichShelf$Shelf", "keyAt", "(I)I"⟩ yX4_keyAt ∈ zU := zu_28 _ (List.mem_of_getElem? (i := 7) rfl)
theorem zk28_8 : Cond.selects RX8 ⟨"WhichShelf$Shelf", "keyAt", "(I)I"⟩ yX4_keyAt ∈ zU := zu_28 _ (List.mem_of_getElem? (i := 8) rfl)
theorem zk28_9 : Cond.selects RX9 ⟨"WhichShelf$Shelf", "keyAt", "(I)I"⟩ yX1_keyAt ∈ zU := zu_28 _ (List.mem_of_getElem? (i := 9) rfl)
theorem zk29_10 : Cond.selects RX6 ⟨"WhichShelf$Shelf", "stepsSince", "(I)I"⟩ yX7_stepsSince ∈ zU := zu_29 _ (List.mem_of_getElem? (i := 10) rfl)
theorem zk29_11 : Cond.selects RX8 ⟨"WhichShelf$Shelf", "stepsSince", "(I)I"⟩ yX7_stepsSince ∈ zU := zu_29 _ (List.mem_of_getElem? (i := 11) rfl)
theorem zk29_12 : Cond.selects RX9 ⟨"WhichShelf$Shelf", "stepsSince", "(I)I"⟩ yX7_stepsSince ∈ zU := zu_29 _ (List.mem_of_getElem? (i := 12) rfl)
theorem zk29_13 : Cond.methodLink RX10 118 ⟨"WhichShelf$Shelf", "worstSteps", "()I"⟩ ∈ zU := zu_29 _ (List.mem_of_getElem? (i := 13) rfl)
theorem zk29_14 : Cond.sameMethod "WhichShelf$Shelf" "WhichShelf$Shelf" "worstSteps" "()I" ∈ zU := zu_29 _ (List.mem_of_getElem? (i := 14) rfl)
theorem zk29_15 : Cond.selects RX0 ⟨"WhichShelf$Shelf", "worstSteps", "()I"⟩ yX7_worstSteps ∈ zU := zu_29 _ (List.mem_of_getElem? (i := 15) rfl)
theorem zk29_16 : Cond.instanceMethod yX7_worstSteps ∈ zU := zu_29 _ (List.mem_of_getElem? (i := 16) rfl)
theorem zk29_17 : Cond.code yX7_worstSteps cX7_worstSteps 2 (some .int) ∈ zU := zu_29 _ (List.mem_of_getElem? (i := 17) rfl)
theorem zk29_18 : Cond.methodLink RX7 38 ⟨"WhichShelf$Shelf", "worstCall", "()I"⟩ ∈ zU := zu_29 _ (List.mem_of_getElem? (i := 18) rfl)
theorem zk29_19 : Cond.sameMethod "WhichShelf$Shelf" "WhichShelf$Shelf" "worstCall" "()I" ∈ zU := zu_29 _ (List.mem_of_getElem? (i := 19) rfl)
theorem zk29_2 : Cond.methodLink RX10 115 ⟨"WhichShelf$Shelf", "stepsSince", "(I)I"⟩ ∈ zU := zu_29 _ (List.mem_of_getElem? (i := 2) rfl)
theorem zk29_20 : Cond.selects RX0 ⟨"WhichShelf$Shelf", "worstCall", "()I"⟩ yX7_worstCall ∈ zU := zu_29 _ (List.mem_of_getElem? (i := 20) rfl)
theorem zk29_21 : Cond.instanceMethod yX7_worstCall ∈ zU := zu_29 _ (List.mem_of_getElem? (i := 21) rfl)
theorem zk29_22 : Cond.code yX7_worstCall cX7_worstCall 3 (some .int) ∈ zU := zu_29 _ (List.mem_of_getElem? (i := 22) rfl)
theorem zk29_23 : Cond.selects RX2 ⟨"WhichShelf$Shelf", "worstCall", "()I"⟩ yX7_worstCall ∈ zU := zu_29 _ (List.mem_of_getElem? (i := 23) rfl)
theorem zk29_3 : Cond.sameMethod "WhichShelf$Shelf" "WhichShelf$Shelf" "stepsSince" "(I)I" ∈ zU := zu_29 _ (List.mem_of_getElem? (i := 3) rfl)
theorem zk29_4 : Cond.selects RX0 ⟨"WhichShelf$Shelf", "stepsSince", "(I)I"⟩ yX7_stepsSince ∈ zU := zu_29 _ (List.mem_of_getElem? (i := 4) rfl)
theorem zk29_5 : Cond.instanceMethod yX7_stepsSince ∈ zU := zu_29 _ (List.mem_of_getElem? (i := 5) rfl)
theorem zk29_6 : Cond.code yX7_stepsSince cX7_stepsSince 4 (some .int) ∈ zU := zu_29 _ (List.mem_of_getElem? (i := 6) rfl)
theorem zk29_7 : Cond.methodLink RX7 33 Lib.Math.max.name ∈ zU := zu_29 _ (List.mem_of_getElem? (i := 7) rfl)
theorem zk29_8 : Cond.selects RX2 ⟨"WhichShelf$Shelf", "stepsSince", "(I)I"⟩ yX7_stepsSince ∈ zU := zu_29 _ (List.mem_of_getElem? (i := 8) rfl)
theorem zk29_9 : Cond.selects RX3 ⟨"WhichShelf$Shelf", "stepsSince", "(I)I"⟩ yX7_stepsSince ∈ zU := zu_29 _ (List.mem_of_getElem? (i := 9) rfl)
theorem zk2_11 : Cond.fieldLink RX10 37 "WhichShelf" "kinds" "[I" ∈ zU := zu_2 _ (List.mem_of_getElem? (i := 11) rfl)
theorem zk2_12 : Cond.fieldLink RX10 41 "WhichShelf" "keys" "[I" ∈ zU := zu_2 _ (List.mem_of_getElem? (i := 12) rfl)
theorem zk2_13 : Cond.fieldLink RX10 44 "WhichShelf" "answers" "[I" ∈ zU := zu_2 _ (List.mem_of_getElem? (i := 13) rfl)
theorem zk2_14 : Cond.fieldLink RX10 47 "WhichShelf" "sizes" "[I" ∈ zU := zu_2 _ (List.mem_of_getElem? (i := 14) rfl)
theorem zk2_15 : Cond.fieldLink RX10 50 "WhichShelf" "calls" "I" ∈ zU := zu_2 _ (List.mem_of_getElem? (i := 15) rfl)
theorem zk2_16 : Cond.fieldLink RX10 54 "WhichShelf" "walksGoUp" "Z" ∈ zU := zu_2 _ (List.mem_of_getElem? (i := 16) rfl)
theorem zk2_17 : Cond.fieldLink RX10 58 "WhichShelf" "walksGoAsCame" "Z" ∈ zU := zu_2 _ (List.mem_of_getElem? (i := 17) rfl)
theorem zk2_18 : Cond.fieldLink RX10 61 "WhichShelf" "fee" "I" ∈ zU := zu_2 _ (List.mem_of_getElem? (i := 18) rfl)
theorem zk2_19 : Cond.fieldLink RX10 64 "WhichShelf" "each" "I" ∈ zU := zu_2 _ (List.mem_of_getElem? (i := 19) rfl)
theorem zk2_2 : Cond.initialized RX9 ∈ zU := zu_2 _ (List.mem_of_getElem? (i := 2) rfl)
theorem zk2_22 : Cond.initialized RX5 ∈ zU := zu_2 _ (List.mem_of_getElem? (i := 22) rfl)
theorem zk2_23 : Cond.fieldLink RX10 70 "WhichShelf" "plan" "LWhichShelf$Plan;" ∈ zU := zu_2 _ (List.mem_of_getElem? (i := 23) rfl)
theorem zk2_5 : Cond.initialized RX3 ∈ zU := zu_2 _ (List.mem_of_getElem? (i := 5) rfl)
theorem zk2_8 : Cond.initialized RX0 ∈ zU := zu_2 _ (List.mem_of_getElem? (i := 8) rfl)
theorem zk2_9 : Cond.fieldLink RX10 33 "WhichShelf" "shelves" "[LWhichShelf$Shelf;" ∈ zU := zu_2 _ (List.mem_of_getElem? (i := 9) rfl)
theorem zk30_0 : Cond.selects RX3 ⟨"WhichShelf$Shelf", "worstCall", "()I"⟩ yX7_worstCall ∈ zU := zu_30 _ (List.mem_of_getElem? (i := 0) rfl)
theorem zk30_1 : Cond.selects RX6 ⟨"WhichShelf$Shelf", "worstCall", "()I"⟩ yX7_worstCall ∈ zU := zu_30 _ (List.mem_of_getElem? (i := 1) rfl)
theorem zk30_10 : Cond.methodLink RX10 125 ⟨"WhichShelf$Shelf", "greatestRoom", "()I"⟩ ∈ zU := zu_30 _ (List.mem_of_getElem? (i := 10) rfl)
theorem zk30_11 : Cond.sameMethod "WhichShelf$Shelf" "WhichShelf$Shelf" "greatestRoom" "()I" ∈ zU := zu_30 _ (List.mem_of_getElem? (i := 11) rfl)
theorem zk30_12 : Cond.selects RX0 ⟨"WhichShelf$Shelf", "greatestRoom", "()I"⟩ yX7_greatestRoom ∈ zU := zu_30 _ (List.mem_of_getElem? (i := 12) rfl)
theorem zk30_13 : Cond.instanceMethod yX7_greatestRoom ∈ zU := zu_30 _ (List.mem_of_getElem? (i := 13) rfl)
theorem zk30_14 : Cond.code yX7_greatestRoom cX7_greatestRoom 3 (some .int) ∈ zU := zu_30 _ (List.mem_of_getElem? (i := 14) rfl)
theorem zk30_15 : Cond.selects RX2 ⟨"WhichShelf$Shelf", "greatestRoom", "()I"⟩ yX7_greatestRoom ∈ zU := zu_30 _ (List.mem_of_getElem? (i := 15) rfl)
theorem zk30_16 : Cond.selects RX3 ⟨"WhichShelf$Shelf", "greatestRoom", "()I"⟩ yX7_greatestRoom ∈ zU := zu_30 _ (List.mem_of_getElem? (i := 16) rfl)
theorem zk30_17 : Cond.selects RX6 ⟨"WhichShelf$Shelf", "greatestRoom", "()I"⟩ yX7_greatestRoom ∈ zU := zu_30 _ (List.mem_of_getElem? (i := 17) rfl)
theorem zk30_18 : Cond.selects RX8 ⟨"WhichShelf$Shelf", "greatestRoom", "()I"⟩ yX7_greatestRoom ∈ zU := zu_30 _ (List.mem_of_getElem? (i := 18) rfl)
theorem zk30_19 : Cond.selects RX9 ⟨"WhichShelf$Shelf", "greatestRoom", "()I"⟩ yX7_greatestRoom ∈ zU := zu_30 _ (List.mem_of_getElem? (i := 19) rfl)
theorem zk30_2 : Cond.selects RX8 ⟨"WhichShelf$Shelf", "worstCall", "()I"⟩ yX7_worstCall ∈ zU := zu_30 _ (List.mem_of_getElem? (i := 2) rfl)
theorem zk30_20 : Cond.methodLink RX10 128 yX10_offered ∈ zU := zu_30 _ (List.mem_of_getElem? (i := 20) rfl)
theorem zk30_21 : Cond.instanceMethod yX10_offered ∈ zU := zu_30 _ (List.mem_of_getElem? (i := 21) rfl)
theorem zk30_22 : Cond.selects RX10 yX10_offered yX10_offered ∈ zU := zu_30 _ (List.mem_of_getElem? (i := 22) rfl)
theorem zk30_23 : Cond.code yX10_offered cX10_offered 1 (some .int) ∈ zU := zu_30 _ (List.mem_of_getElem? (i := 23) rfl)
theorem zk30_3 : Cond.selects RX9 ⟨"WhichShelf$Shelf", "worstCall", "()I"⟩ yX7_worstCall ∈ zU := zu_30 _ (List.mem_of_getElem? (i := 3) rfl)
theorem zk30_4 : Cond.selects RX2 ⟨"WhichShelf$Shelf", "worstSteps", "()I"⟩ yX7_worstSteps ∈ zU := zu_30 _ (List.mem_of_getElem? (i := 4) rfl)
theorem zk30_5 : Cond.selects RX3 ⟨"WhichShelf$Shelf", "worstSteps", "()I"⟩ yX7_worstSteps ∈ zU := zu_30 _ (List.mem_of_getElem? (i := 5) rfl)
theorem zk30_6 : Cond.selects RX6 ⟨"WhichShelf$Shelf", "worstSteps", "()I"⟩ yX7_worstSteps ∈ zU := zu_30 _ (List.mem_of_getElem? (i := 6) rfl)
theorem zk30_7 : Cond.selects RX8 ⟨"WhichShelf$Shelf", "worstSteps", "()I"⟩ yX7_worstSteps ∈ zU := zu_30 _ (List.mem_of_getElem? (i := 7) rfl)
theorem zk30_8 : Cond.selects RX9 ⟨"WhichShelf$Shelf", "worstSteps", "()I"⟩ yX7_worstSteps ∈ zU := zu_30 _ (List.mem_of_getElem? (i := 8) rfl)
theorem zk30_9 : Cond.methodLink RX10 122 ⟨"WhichShelf$Shelf", "worstCall", "()I"⟩ ∈ zU := zu_30 _ (List.mem_of_getElem? (i := 9) rfl)
theorem zk31_0 : Cond.methodLink RX10 157 yX10_asksFirst ∈ zU := zu_31 _ (List.mem_of_getElem? (i := 0) rfl)
theorem zk31_1 : Cond.instanceMethod yX10_asksFirst ∈ zU := zu_31 _ (List.mem_of_getElem? (i := 1) rfl)
theorem zk31_2 : Cond.selects RX10 yX10_asksFirst yX10_asksFirst ∈ zU := zu_31 _ (List.mem_of_getElem? (i := 2) rfl)
theorem zk31_3 : Cond.code yX10_asksFirst cX10_asksFirst 2 (some .boolean) ∈ zU := zu_31 _ (List.mem_of_getElem? (i := 3) rfl)
theorem zk31_4 : Cond.methodLink RX10 131 yX10_isIn ∈ zU := zu_31 _ (List.mem_of_getElem? (i := 4) rfl)
theorem zk31_5 : Cond.static yX10_isIn ∈ zU := zu_31 _ (List.mem_of_getElem? (i := 5) rfl)
theorem zk31_6 : Cond.code yX10_isIn cX10_isIn 2 (some .boolean) ∈ zU := zu_31 _ (List.mem_of_getElem? (i := 6) rfl)
theorem zk31_7 : Cond.methodLink RX10 135 ⟨"WhichShelf$Shelf", "room", "()I"⟩ ∈ zU := zu_31 _ (List.mem_of_getElem? (i := 7) rfl)
theorem zk32_10 : Cond.selects RX0 ⟨"WhichShelf$Shelf", "isWithin", "(II)Z"⟩ yX7_isWithin ∈ zU := zu_32 _ (List.mem_of_getElem? (i := 10) rfl)
theorem zk32_11 : Cond.instanceMethod yX7_isWithin ∈ zU := zu_32 _ (List.mem_of_getElem? (i := 11) rfl)
theorem zk32_12 : Cond.code yX7_isWithin cX7_isWithin 3 (some .boolean) ∈ zU := zu_32 _ (List.mem_of_getElem? (i := 12) rfl)
theorem zk32_13 : Cond.methodLink RX7 41 ⟨"WhichShelf$Shelf", "worstSteps", "()I"⟩ ∈ zU := zu_32 _ (List.mem_of_getElem? (i := 13) rfl)
theorem zk32_14 : Cond.methodLink RX7 44 ⟨"WhichShelf$Shelf", "greatestRoom", "()I"⟩ ∈ zU := zu_32 _ (List.mem_of_getElem? (i := 14) rfl)
theorem zk32_15 : Cond.selects RX2 ⟨"WhichShelf$Shelf", "isWithin", "(II)Z"⟩ yX7_isWithin ∈ zU := zu_32 _ (List.mem_of_getElem? (i := 15) rfl)
theorem zk32_16 : Cond.selects RX3 ⟨"WhichShelf$Shelf", "isWithin", "(II)Z"⟩ yX7_isWithin ∈ zU := zu_32 _ (List.mem_of_getElem? (i := 16) rfl)
theorem zk32_17 : Cond.selects RX6 ⟨"WhichShelf$Shelf", "isWithin", "(II)Z"⟩ yX7_isWithin ∈ zU := zu_32 _ (List.mem_of_getElem? (i := 17) rfl)
theorem zk32_18 : Cond.selects RX8 ⟨"WhichShelf$Shelf", "isWithin", "(II)Z"⟩ yX7_isWithin ∈ zU := zu_32 _ (List.mem_of_getElem? (i := 18) rfl)
theorem zk32_19 : Cond.selects RX9 ⟨"WhichShelf$Shelf", "isWithin", "(II)Z"⟩ yX7_isWithin ∈ zU := zu_32 _ (List.mem_of_getElem? (i := 19) rfl)
theorem zk32_20 : Cond.methodLink RX10 141 yX10_cheapestSince ∈ zU := zu_32 _ (List.mem_of_getElem? (i := 20) rfl)
theorem zk32_21 : Cond.instanceMethod yX10_cheapestSince ∈ zU := zu_32 _ (List.mem_of_getElem? (i := 21) rfl)
theorem zk32_22 : Cond.selects RX10 yX10_cheapestSince yX10_cheapestSince ∈ zU := zu_32 _ (List.mem_of_getElem? (i := 22) rfl)
theorem zk32_23 : Cond.code yX10_cheapestSince cX10_cheapestSince 7 (some .int) ∈ zU := zu_32 _ (List.mem_of_getElem? (i := 23) rfl)
theorem zk32_8 : Cond.methodLink RX10 138 ⟨"WhichShelf$Shelf", "isWithin", "(II)Z"⟩ ∈ zU := zu_32 _ (List.mem_of_getElem? (i := 8) rfl)
theorem zk32_9 : Cond.sameMethod "WhichShelf$Shelf" "WhichShelf$Shelf" "isWithin" "(II)Z" ∈ zU := zu_32 _ (List.mem_of_getElem? (i := 9) rfl)
theorem zk33_16 : Cond.methodLink RX10 145 yX10_makePlan ∈ zU := zu_33 _ (List.mem_of_getElem? (i := 16) rfl)
theorem zk33_17 : Cond.instanceMethod yX10_makePlan ∈ zU := zu_33 _ (List.mem_of_getElem? (i := 17) rfl)
theorem zk33_18 : Cond.selects RX10 yX10_makePlan yX10_makePlan ∈ zU := zu_33 _ (List.mem_of_getElem? (i := 18) rfl)
theorem zk33_19 : Cond.code yX10_makePlan cX10_makePlan 1 none ∈ zU := zu_33 _ (List.mem_of_getElem? (i := 19) rfl)
theorem zk33_20 : Cond.methodLink RX10 171 yX5_open ∈ zU := zu_33 _ (List.mem_of_getElem? (i := 20) rfl)
theorem zk33_21 : Cond.instanceMethod yX5_open ∈ zU := zu_33 _ (List.mem_of_getElem? (i := 21) rfl)
theorem zk33_22 : Cond.selects RX5 yX5_open yX5_open ∈ zU := zu_33 _ (List.mem_of_getElem? (i := 22) rfl)
theorem zk33_23 : Cond.code yX5_open cX5_open 5 none ∈ zU := zu_33 _ (List.mem_of_getElem? (i := 23) rfl)
theorem zk34_0 : Cond.methodLink RX10 175 yX5_weigh ∈ zU := zu_34 _ (List.mem_of_getElem? (i := 0) rfl)
theorem zk34_1 : Cond.instanceMethod yX5_weigh ∈ zU := zu_34 _ (List.mem_of_getElem? (i := 1) rfl)
theorem zk34_10 : Cond.instanceMethod yX5_weightOver ∈ zU := zu_34 _ (List.mem_of_getElem? (i := 10) rfl)
theorem zk34_11 : Cond.selects RX5 yX5_weightOver yX5_weightOver ∈ zU := zu_34 _ (List.mem_of_getElem? (i := 11) rfl)
theorem zk34_12 : Cond.code yX5_weightOver cX5_weightOver 6 (some .int) ∈ zU := zu_34 _ (List.mem_of_getElem? (i := 12) rfl)
theorem zk34_13 : Cond.methodLink RX10 179 yX5_choose ∈ zU := zu_34 _ (List.mem_of_getElem? (i := 13) rfl)
theorem zk34_14 : Cond.instanceMethod yX5_choose ∈ zU := zu_34 _ (List.mem_of_getElem? (i := 14) rfl)
theorem zk34_15 : Cond.selects RX5 yX5_choose yX5_choose ∈ zU := zu_34 _ (List.mem_of_getElem? (i := 15) rfl)
theorem zk34_16 : Cond.code yX5_choose cX5_choose 4 none ∈ zU := zu_34 _ (List.mem_of_getElem? (i := 16) rfl)
theorem zk34_17 : Cond.methodLink RX5 49 yX5_lightestAtFirst ∈ zU := zu_34 _ (List.mem_of_getElem? (i := 17) rfl)
theorem zk34_18 : Cond.instanceMethod yX5_lightestAtFirst ∈ zU := zu_34 _ (List.mem_of_getElem? (i := 18) rfl)
theorem zk34_19 : Cond.selects RX5 yX5_lightestAtFirst yX5_lightestAtFirst ∈ zU := zu_34 _ (List.mem_of_getElem? (i := 19) rfl)
theorem zk34_2 : Cond.selects RX5 yX5_weigh yX5_weigh ∈ zU := zu_34 _ (List.mem_of_getElem? (i := 2) rfl)
theorem zk34_20 : Cond.code yX5_lightestAtFirst cX5_lightestAtFirst 3 (some .int) ∈ zU := zu_34 _ (List.mem_of_getElem? (i := 20) rfl)
theorem zk34_21 : Cond.methodLink RX10 148 yX5_leastSum ∈ zU := zu_34 _ (List.mem_of_getElem? (i := 21) rfl)
theorem zk34_22 : Cond.instanceMethod yX5_leastSum ∈ zU := zu_34 _ (List.mem_of_getElem? (i := 22) rfl)
theorem zk34_23 : Cond.selects RX5 yX5_leastSum yX5_leastSum ∈ zU := zu_34 _ (List.mem_of_getElem? (i := 23) rfl)
theorem zk34_3 : Cond.code yX5_weigh cX5_weigh 6 none ∈ zU := zu_34 _ (List.mem_of_getElem? (i := 3) rfl)
theorem zk34_4 : Cond.fieldLink RX5 36 "WhichShelf$Shelf" "steps" "[I" ∈ zU := zu_34 _ (List.mem_of_getElem? (i := 4) rfl)
theorem zk34_5 : Cond.methodLink RX5 41 yX5_nextOf ∈ zU := zu_34 _ (List.mem_of_getElem? (i := 5) rfl)
theorem zk34_6 : Cond.instanceMethod yX5_nextOf ∈ zU := zu_34 _ (List.mem_of_getElem? (i := 6) rfl)
theorem zk34_7 : Cond.selects RX5 yX5_nextOf yX5_nextOf ∈ zU := zu_34 _ (List.mem_of_getElem? (i := 7) rfl)
theorem zk34_8 : Cond.code yX5_nextOf cX5_nextOf 8 (some .int) ∈ zU := zu_34 _ (List.mem_of_getElem? (i := 8) rfl)
theorem zk34_9 : Cond.methodLink RX5 45 yX5_weightOver ∈ zU := zu_34 _ (List.mem_of_getElem? (i := 9) rfl)
theorem zk35_0 : Cond.code yX5_leastSum cX5_leastSum 1 (some .int) ∈ zU := zu_35 _ (List.mem_of_getElem? (i := 0) rfl)
theorem zk36_11 : Cond.methodLink RX10 154 yX5_moves ∈ zU := zu_36 _ (List.mem_of_getElem? (i := 11) rfl)
theorem zk36_12 : Cond.instanceMethod yX5_moves ∈ zU := zu_36 _ (List.mem_of_getElem? (i := 12) rfl)
theorem zk36_13 : Cond.selects RX5 yX5_moves yX5_moves ∈ zU := zu_36 _ (List.mem_of_getElem? (i := 13) rfl)
theorem zk36_14 : Cond.code yX5_moves cX5_moves 1 (some .int) ∈ zU := zu_36 _ (List.mem_of_getElem? (i := 14) rfl)
theorem zk36_2 : Cond.fieldLink RX10 151 "WhichShelf$Plan" "chosen" "[I" ∈ zU := zu_36 _ (List.mem_of_getElem? (i := 2) rfl)
theorem zk3_0 : Cond.fieldLink RX10 74 "WhichShelf" "planned" "Z" ∈ zU := zu_3 _ (List.mem_of_getElem? (i := 0) rfl)
theorem zk3_10 : Cond.fieldLink RX4 19 "WhichShelf$Lined" "firstWidth" "I" ∈ zU := zu_3 _ (List.mem_of_getElem? (i := 10) rfl)
theorem zk3_11 : Cond.fieldLink RX4 22 "WhichShelf$Lined" "width" "I" ∈ zU := zu_3 _ (List.mem_of_getElem? (i := 11) rfl)
theorem zk3_13 : Cond.initialized RX7 ∈ zU := zu_3 _ (List.mem_of_getElem? (i := 13) rfl)
theorem zk3_16 : Cond.fieldLink RX7 9 "WhichShelf$Shelf" "steps" "[I" ∈ zU := zu_3 _ (List.mem_of_getElem? (i := 16) rfl)
theorem zk3_17 : Cond.fieldLink RX7 15 "WhichShelf$Shelf" "rooms" "[I" ∈ zU := zu_3 _ (List.mem_of_getElem? (i := 17) rfl)
theorem zk3_18 : Cond.fieldLink RX7 18 "WhichShelf$Shelf" "taken" "I" ∈ zU := zu_3 _ (List.mem_of_getElem? (i := 18) rfl)
theorem zk3_22 : Cond.fieldLink RX8 9 "WhichShelf$Sorted" "halvings" "I" ∈ zU := zu_3 _ (List.mem_of_getElem? (i := 22) rfl)
theorem zk3_6 : Cond.initialized RX4 ∈ zU := zu_3 _ (List.mem_of_getElem? (i := 6) rfl)
theorem zk3_8 : Cond.fieldLink RX4 9 "WhichShelf$Lined" "line" "[I" ∈ zU := zu_3 _ (List.mem_of_getElem? (i := 8) rfl)
theorem zk3_9 : Cond.fieldLink RX4 15 "WhichShelf$Lined" "size" "I" ∈ zU := zu_3 _ (List.mem_of_getElem? (i := 9) rfl)
theorem zk4_10 : Cond.fieldLink RX9 22 "WhichShelf$Tree" "nodes" "I" ∈ zU := zu_4 _ (List.mem_of_getElem? (i := 10) rfl)
theorem zk4_11 : Cond.fieldLink RX9 25 "WhichShelf$Tree" "above" "I" ∈ zU := zu_4 _ (List.mem_of_getElem? (i := 11) rfl)
theorem zk4_13 : Cond.initialized RX1 ∈ zU := zu_4 _ (List.mem_of_getElem? (i := 13) rfl)
theorem zk4_15 : Cond.fieldLink RX1 9 "WhichShelf$Counted" "many" "[I" ∈ zU := zu_4 _ (List.mem_of_getElem? (i := 15) rfl)
theorem zk4_3 : Cond.fieldLink RX2 9 "WhichShelf$Hash" "old" "[I" ∈ zU := zu_4 _ (List.mem_of_getElem? (i := 3) rfl)
theorem zk4_7 : Cond.fieldLink RX9 9 "WhichShelf$Tree" "left" "[I" ∈ zU := zu_4 _ (List.mem_of_getElem? (i := 7) rfl)
theorem zk4_8 : Cond.fieldLink RX9 15 "WhichShelf$Tree" "right" "[I" ∈ zU := zu_4 _ (List.mem_of_getElem? (i := 8) rfl)
theorem zk4_9 : Cond.fieldLink RX9 18 "WhichShelf$Tree" "root" "I" ∈ zU := zu_4 _ (List.mem_of_getElem? (i := 9) rfl)
theorem zk5_1 : Cond.fieldLink RX5 9 "WhichShelf$Plan" "chosen" "[I" ∈ zU := zu_5 _ (List.mem_of_getElem? (i := 1) rfl)
theorem zk5_3 : Cond.fieldLink RX5 17 "WhichShelf$Plan" "weights" "[[I" ∈ zU := zu_5 _ (List.mem_of_getElem? (i := 3) rfl)
theorem zk5_4 : Cond.fieldLink RX5 20 "WhichShelf$Plan" "some" "I" ∈ zU := zu_5 _ (List.mem_of_getElem? (i := 4) rfl)
theorem zk5_5 : Cond.fieldLink RX5 24 "WhichShelf$Plan" "calls" "I" ∈ zU := zu_5 _ (List.mem_of_getElem? (i := 5) rfl)
theorem zk5_6 : Cond.fieldLink RX5 27 "WhichShelf$Plan" "fee" "I" ∈ zU := zu_5 _ (List.mem_of_getElem? (i := 6) rfl)
theorem zk5_7 : Cond.fieldLink RX5 30 "WhichShelf$Plan" "each" "I" ∈ zU := zu_5 _ (List.mem_of_getElem? (i := 7) rfl)
theorem zk5_8 : Cond.fieldLink RX5 33 "WhichShelf$Plan" "weight" "I" ∈ zU := zu_5 _ (List.mem_of_getElem? (i := 8) rfl)
theorem zk6_13 : Cond.methodLink RX10 77 yX10_isKey ∈ zU := zu_6 _ (List.mem_of_getElem? (i := 13) rfl)
theorem zk6_14 : Cond.static yX10_isKey ∈ zU := zu_6 _ (List.mem_of_getElem? (i := 14) rfl)
theorem zk6_15 : Cond.code yX10_isKey cX10_isKey 1 (some .boolean) ∈ zU := zu_6 _ (List.mem_of_getElem? (i := 15) rfl)
theorem zk6_16 : Cond.methodLink RX10 81 yX10_lay ∈ zU := zu_6 _ (List.mem_of_getElem? (i := 16) rfl)
theorem zk6_17 : Cond.instanceMethod yX10_lay ∈ zU := zu_6 _ (List.mem_of_getElem? (i := 17) rfl)
theorem zk6_18 : Cond.selects RX10 yX10_lay yX10_lay ∈ zU := zu_6 _ (List.mem_of_getElem? (i := 18) rfl)
theorem zk6_19 : Cond.code yX10_lay cX10_lay 7 none ∈ zU := zu_6 _ (List.mem_of_getElem? (i := 19) rfl)
theorem zk6_20 : Cond.fieldLink RX10 109 "WhichShelf$Row" "size" "I" ∈ zU := zu_6 _ (List.mem_of_getElem? (i := 20) rfl)
theorem zk6_21 : Cond.sameField "WhichShelf$Row" "WhichShelf$Lined" "size" "I" ∈ zU := zu_6 _ (List.mem_of_getElem? (i := 21) rfl)
theorem zk6_22 : Cond.methodLink RX10 162 yX6_answerTo ∈ zU := zu_6 _ (List.mem_of_getElem? (i := 22) rfl)
theorem zk6_23 : Cond.instanceMethod yX6_answerTo ∈ zU := zu_6 _ (List.mem_of_getElem? (i := 23) rfl)
theorem zk7_0 : Cond.selects RX6 yX6_answerTo yX6_answerTo ∈ zU := zu_7 _ (List.mem_of_getElem? (i := 0) rfl)
theorem zk7_1 : Cond.code yX6_answerTo cX6_answerTo 3 (some .int) ∈ zU := zu_7 _ (List.mem_of_getElem? (i := 1) rfl)
theorem zk7_10 : Cond.selects RX6 yX6_leastFrom yX6_leastFrom ∈ zU := zu_7 _ (List.mem_of_getElem? (i := 10) rfl)
theorem zk7_11 : Cond.code yX6_leastFrom cX6_leastFrom 4 (some .int) ∈ zU := zu_7 _ (List.mem_of_getElem? (i := 11) rfl)
theorem zk7_12 : Cond.fieldLink RX6 40 "WhichShelf$Row" "line" "[I" ∈ zU := zu_7 _ (List.mem_of_getElem? (i := 12) rfl)
theorem zk7_13 : Cond.sameField "WhichShelf$Row" "WhichShelf$Lined" "line" "[I" ∈ zU := zu_7 _ (List.mem_of_getElem? (i := 13) rfl)
theorem zk7_14 : Cond.methodLink RX6 34 ⟨"WhichShelf$Row", "keyAt", "(I)I"⟩ ∈ zU := zu_7 _ (List.mem_of_getElem? (i := 14) rfl)
theorem zk7_15 : Cond.sameMethod "WhichShelf$Row" "WhichShelf$Lined" "keyAt" "(I)I" ∈ zU := zu_7 _ (List.mem_of_getElem? (i := 15) rfl)
theorem zk7_16 : Cond.selects RX6 ⟨"WhichShelf$Row", "keyAt", "(I)I"⟩ yX4_keyAt ∈ zU := zu_7 _ (List.mem_of_getElem? (i := 16) rfl)
theorem zk7_17 : Cond.instanceMethod yX4_keyAt ∈ zU := zu_7 _ (List.mem_of_getElem? (i := 17) rfl)
theorem zk7_18 : Cond.code yX4_keyAt cX4_keyAt 2 (some .int) ∈ zU := zu_7 _ (List.mem_of_getElem? (i := 18) rfl)
theorem zk7_19 : Cond.methodLink RX6 37 yX6_howMany ∈ zU := zu_7 _ (List.mem_of_getElem? (i := 19) rfl)
theorem zk7_2 : Cond.fieldLink RX6 24 "WhichShelf$Row" "size" "I" ∈ zU := zu_7 _ (List.mem_of_getElem? (i := 2) rfl)
theorem zk7_20 : Cond.instanceMethod yX6_howMany ∈ zU := zu_7 _ (List.mem_of_getElem? (i := 20) rfl)
theorem zk7_21 : Cond.selects RX6 yX6_howMany yX6_howMany ∈ zU := zu_7 _ (List.mem_of_getElem? (i := 21) rfl)
theorem zk7_22 : Cond.code yX6_howMany cX6_howMany 4 (some .int) ∈ zU := zu_7 _ (List.mem_of_getElem? (i := 22) rfl)
theorem zk7_23 : Cond.methodLink RX10 165 ⟨"WhichShelf$Shelf", "take", "(II)V"⟩ ∈ zU := zu_7 _ (List.mem_of_getElem? (i := 23) rfl)
theorem zk7_3 : Cond.methodLink RX6 15 ⟨"WhichShelf$Row", "placeOf", "(I)I"⟩ ∈ zU := zu_7 _ (List.mem_of_getElem? (i := 3) rfl)
theorem zk7_4 : Cond.sameMethod "WhichShelf$Row" "WhichShelf$Lined" "placeOf" "(I)I" ∈ zU := zu_7 _ (List.mem_of_getElem? (i := 4) rfl)
theorem zk7_5 : Cond.selects RX6 ⟨"WhichShelf$Row", "placeOf", "(I)I"⟩ yX4_placeOf ∈ zU := zu_7 _ (List.mem_of_getElem? (i := 5) rfl)
theorem zk7_6 : Cond.instanceMethod yX4_placeOf ∈ zU := zu_7 _ (List.mem_of_getElem? (i := 6) rfl)
theorem zk7_7 : Cond.code yX4_placeOf cX4_placeOf 3 (some .int) ∈ zU := zu_7 _ (List.mem_of_getElem? (i := 7) rfl)
theorem zk7_8 : Cond.methodLink RX6 31 yX6_leastFrom ∈ zU := zu_7 _ (List.mem_of_getElem? (i := 8) rfl)
theorem zk7_9 : Cond.instanceMethod yX6_leastFrom ∈ zU := zu_7 _ (List.mem_of_getElem? (i := 9) rfl)
theorem zk8_0 : Cond.sameMethod "WhichShelf$Shelf" "WhichShelf$Shelf" "take" "(II)V" ∈ zU := zu_8 _ (List.mem_of_getElem? (i := 0) rfl)
theorem zk8_1 : Cond.selects RX0 ⟨"WhichShelf$Shelf", "take", "(II)V"⟩ yX7_take ∈ zU := zu_8 _ (List.mem_of_getElem? (i := 1) rfl)
theorem zk8_10 : Cond.sameField "WhichShelf$Bits" "WhichShelf$Counted" "many" "[I" ∈ zU := zu_8 _ (List.mem_of_getElem? (i := 10) rfl)
theorem zk8_11 : Cond.methodLink RX0 15 Lib.Math.max.name ∈ zU := zu_8 _ (List.mem_of_getElem? (i := 11) rfl)
theorem zk8_12 : Cond.static Lib.Math.max.name ∈ zU := zu_8 _ (List.mem_of_getElem? (i := 12) rfl)
theorem zk8_13 : Cond.initialized "java/lang/Math" ∈ zU := zu_8 _ (List.mem_of_getElem? (i := 13) rfl)
theorem zk8_14 : Cond.code Lib.Math.max.name Lib.Math.max.code 2 (some .int) ∈ zU := zu_8 _ (List.mem_of_getElem? (i := 14) rfl)
theorem zk8_15 : Cond.methodLink RX0 21 yX0_lookFrom ∈ zU := zu_8 _ (List.mem_of_getElem? (i := 15) rfl)
theorem zk8_16 : Cond.instanceMethod yX0_lookFrom ∈ zU := zu_8 _ (List.mem_of_getElem? (i := 16) rfl)
theorem zk8_17 : Cond.selects RX0 yX0_lookFrom yX0_lookFrom ∈ zU := zu_8 _ (List.mem_of_getElem? (i := 17) rfl)
theorem zk8_18 : Cond.code yX0_lookFrom cX0_lookFrom 3 (some .int) ∈ zU := zu_8 _ (List.mem_of_getElem? (i := 18) rfl)
theorem zk8_19 : Cond.selects RX2 ⟨"WhichShelf$Shelf", "step", "(II)I"⟩ yX2_step ∈ zU := zu_8 _ (List.mem_of_getElem? (i := 19) rfl)
theorem zk8_2 : Cond.instanceMethod yX7_take ∈ zU := zu_8 _ (List.mem_of_getElem? (i := 2) rfl)
theorem zk8_20 : Cond.instanceMethod yX2_step ∈ zU := zu_8 _ (List.mem_of_getElem? (i := 20) rfl)
theorem zk8_21 : Cond.code yX2_step cX2_step 3 (some .int) ∈ zU := zu_8 _ (List.mem_of_getElem? (i := 21) rfl)
theorem zk8_22 : Cond.fieldLink RX2 15 "WhichShelf$Hash" "width" "I" ∈ zU := zu_8 _ (List.mem_of_getElem? (i := 22) rfl)
theorem zk8_23 : Cond.sameField "WhichShelf$Hash" "WhichShelf$Lined" "width" "I" ∈ zU := zu_8 _ (List.mem_of_getElem? (i := 23) rfl)
theorem zk8_3 : Cond.code yX7_take cX7_take 3 none ∈ zU := zu_8 _ (List.mem_of_getElem? (i := 3) rfl)
theorem zk8_4 : Cond.methodLink RX7 22 ⟨"WhichShelf$Shelf", "step", "(II)I"⟩ ∈ zU := zu_8 _ (List.mem_of_getElem? (i := 4) rfl)
theorem zk8_5 : Cond.sameMethod "WhichShelf$Shelf" "WhichShelf$Shelf" "step" "(II)I" ∈ zU := zu_8 _ (List.mem_of_getElem? (i := 5) rfl)
theorem zk8_6 : Cond.selects RX0 ⟨"WhichShelf$Shelf", "step", "(II)I"⟩ yX0_step ∈ zU := zu_8 _ (List.mem_of_getElem? (i := 6) rfl)
theorem zk8_7 : Cond.instanceMethod yX0_step ∈ zU := zu_8 _ (List.mem_of_getElem? (i := 7) rfl)
theorem zk8_8 : Cond.code yX0_step cX0_step 3 (some .int) ∈ zU := zu_8 _ (List.mem_of_getElem? (i := 8) rfl)
theorem zk8_9 : Cond.fieldLink RX0 9 "WhichShelf$Bits" "many" "[I" ∈ zU := zu_8 _ (List.mem_of_getElem? (i := 9) rfl)
theorem zk9_0 : Cond.fieldLink RX2 19 "WhichShelf$Hash" "size" "I" ∈ zU := zu_9 _ (List.mem_of_getElem? (i := 0) rfl)
theorem zk9_1 : Cond.sameField "WhichShelf$Hash" "WhichShelf$Lined" "size" "I" ∈ zU := zu_9 _ (List.mem_of_getElem? (i := 1) rfl)
theorem zk9_10 : Cond.static arraycopyName ∈ zU := zu_9 _ (List.mem_of_getElem? (i := 10) rfl)
theorem zk9_11 : Cond.initialized "java/lang/System" ∈ zU := zu_9 _ (List.mem_of_getElem? (i := 11) rfl)
theorem zk9_12 : Cond.methodLink RX2 26 yX2_putAtHead ∈ zU := zu_9 _ (List.mem_of_getElem? (i := 12) rfl)
theorem zk9_13 : Cond.instanceMethod yX2_putAtHead ∈ zU := zu_9 _ (List.mem_of_getElem? (i := 13) rfl)
theorem zk9_14 : Cond.selects RX2 yX2_putAtHead yX2_putAtHead ∈ zU := zu_9 _ (List.mem_of_getElem? (i := 14) rfl)
theorem zk9_15 : Cond.code yX2_putAtHead cX2_putAtHead 2 (some .int) ∈ zU := zu_9 _ (List.mem_of_getElem? (i := 15) rfl)
theorem zk9_16 : Cond.methodLink RX2 36 yX2_chainOf ∈ zU := zu_9 _ (List.mem_of_getElem? (i := 16) rfl)
theorem zk9_17 : Cond.instanceMethod yX2_chainOf ∈ zU := zu_9 _ (List.mem_of_getElem? (i := 17) rfl)
theorem zk9_18 : Cond.selects RX2 yX2_chainOf yX2_chainOf ∈ zU := zu_9 _ (List.mem_of_getElem? (i := 18) rfl)
theorem zk9_19 : Cond.code yX2_chainOf cX2_chainOf 2 (some .int) ∈ zU := zu_9 _ (List.mem_of_getElem? (i := 19) rfl)
theorem zk9_2 : Cond.methodLink RX2 22 yX2_spreadIfFull ∈ zU := zu_9 _ (List.mem_of_getElem? (i := 2) rfl)
theorem zk9_20 : Cond.methodLink RX2 39 yX2_headOfChain ∈ zU := zu_9 _ (List.mem_of_getElem? (i := 20) rfl)
theorem zk9_21 : Cond.instanceMethod yX2_headOfChain ∈ zU := zu_9 _ (List.mem_of_getElem? (i := 21) rfl)
theorem zk9_22 : Cond.selects RX2 yX2_headOfChain yX2_headOfChain ∈ zU := zu_9 _ (List.mem_of_getElem? (i := 22) rfl)
theorem zk9_23 : Cond.code yX2_headOfChain cX2_headOfChain 3 (some .int) ∈ zU := zu_9 _ (List.mem_of_getElem? (i := 23) rfl)
theorem zk9_3 : Cond.instanceMethod yX2_spreadIfFull ∈ zU := zu_9 _ (List.mem_of_getElem? (i := 3) rfl)
theorem zk9_4 : Cond.selects RX2 yX2_spreadIfFull yX2_spreadIfFull ∈ zU := zu_9 _ (List.mem_of_getElem? (i := 4) rfl)
theorem zk9_5 : Cond.code yX2_spreadIfFull cX2_spreadIfFull 3 (some .int) ∈ zU := zu_9 _ (List.mem_of_getElem? (i := 5) rfl)
theorem zk9_6 : Cond.fieldLink RX2 42 "WhichShelf$Hash" "line" "[I" ∈ zU := zu_9 _ (List.mem_of_getElem? (i := 6) rfl)
theorem zk9_7 : Cond.sameField "WhichShelf$Hash" "WhichShelf$Lined" "line" "[I" ∈ zU := zu_9 _ (List.mem_of_getElem? (i := 7) rfl)
theorem zk9_8 : Cond.methodLink RX2 55 arraycopyName ∈ zU := zu_9 _ (List.mem_of_getElem? (i := 8) rfl)
theorem zk9_9 : Cond.native arraycopyName ∈ zU := zu_9 _ (List.mem_of_getElem? (i := 9) rfl)
def vsJ7_fill_53178 : List Cond := .code yJ7_fill_53178 cJ7_fill_53178 4 none :: zU
def vsX0_lookFrom : List Cond := .code yX0_lookFrom cX0_lookFrom 3 (some .int) :: zU
def vsX0_room : List Cond := .code yX0_room cX0_room 1 (some .int) :: zU
def vsX0_step : List Cond := .code yX0_step cX0_step 3 (some .int) :: zU
def vsX10_asksFirst : List Cond := .code yX10_asksFirst cX10_asksFirst 2 (some .boolean) :: zU
def vsX10_best : List Cond := .code yX10_best cX10_best 5 (some .int) :: zU
def vsX10_call : List Cond := .code yX10_call cX10_call 3 (some .int) :: zU
def vsX10_cheapestSince : List Cond := .code yX10_cheapestSince cX10_cheapestSince 7 (some .int) :: zU
def vsX10_cost : List Cond := .code yX10_cost cX10_cost 3 (some .int) :: zU
def vsX10_count : List Cond := .code yX10_count cX10_count 2 (some .int) :: zU
def vsX10_draw : List Cond := .code yX10_draw cX10_draw 8 (some .int) :: zU
def vsX10_drawnAfter : List Cond := .code yX10_drawnAfter cX10_drawnAfter 1 (some .int) :: zU
def vsX10_drift : List Cond := .code yX10_drift cX10_drift 8 (some .int) :: zU
def vsX10_drop : List Cond := .code yX10_drop cX10_drop 6 (some .int) :: zU
def vsX10_isCall : List Cond := .code yX10_isCall cX10_isCall 2 (some .boolean) :: zU
def vsX10_isIn : List Cond := .code yX10_isIn cX10_isIn 2 (some .boolean) :: zU
def vsX10_isKey : List Cond := .code yX10_isKey cX10_isKey 1 (some .boolean) :: zU
def vsX10_isShelf : List Cond := .code yX10_isShelf cX10_isShelf 1 (some .boolean) :: zU
def vsX10_key : List Cond := .code yX10_key cX10_key 3 (some .int) :: zU
def vsX10_law : List Cond := .code yX10_law cX10_law 3 (some .boolean) :: zU
def vsX10_lay : List Cond := .code yX10_lay cX10_lay 7 none :: zU
def vsX10_layAnew : List Cond := .code yX10_layAnew cX10_layAnew 3 none :: zU
def vsX10_makePlan : List Cond := .code yX10_makePlan cX10_makePlan 1 none :: zU
def vsX10_offered : List Cond := .code yX10_offered cX10_offered 1 (some .int) :: zU
def vsX10_set : List Cond := .code yX10_set cX10_set 4 (some .int) :: zU
def vsX10_stage : List Cond := .code yX10_stage cX10_stage 2 (some .int) :: zU
def vsX10_stages : List Cond := .code yX10_stages cX10_stages 1 (some .int) :: zU
def vsX10_sum : List Cond := .code yX10_sum cX10_sum 4 (some .int) :: zU
def vsX10_told : List Cond := .code yX10_told cX10_told 3 (some .int) :: zU
def vsX1_clear : List Cond := .code yX1_clear cX1_clear 1 none :: zU
def vsX1_keyAt : List Cond := .code yX1_keyAt cX1_keyAt 4 (some .int) :: zU
def vsX2_chainOf : List Cond := .code yX2_chainOf cX2_chainOf 2 (some .int) :: zU
def vsX2_headOfChain : List Cond := .code yX2_headOfChain cX2_headOfChain 3 (some .int) :: zU
def vsX2_putAtHead : List Cond := .code yX2_putAtHead cX2_putAtHead 2 (some .int) :: zU
def vsX2_room : List Cond := .code yX2_room cX2_room 1 (some .int) :: zU
def vsX2_seek : List Cond := .code yX2_seek cX2_seek 5 (some .int) :: zU
def vsX2_spreadIfFull : List Cond := .code yX2_spreadIfFull cX2_spreadIfFull 3 (some .int) :: zU
def vsX2_step : List Cond := .code yX2_step cX2_step 3 (some .int) :: zU
def vsX2_strike : List Cond := .code yX2_strike cX2_strike 3 (some .int) :: zU
def vsX3_lesserChild : List Cond := .code yX3_lesserChild cX3_lesserChild 4 (some .int) :: zU
def vsX3_rise : List Cond := .code yX3_rise cX3_rise 5 (some .int) :: zU
def vsX3_sink : List Cond := .code yX3_sink cX3_sink 5 (some .int) :: zU
def vsX3_step : List Cond := .code yX3_step cX3_step 3 (some .int) :: zU
def vsX3_strike : List Cond := .code yX3_strike cX3_strike 5 (some .int) :: zU
def vsX3_swap : List Cond := .code yX3_swap cX3_swap 4 none :: zU
def vsX4_append : List Cond := .code yX4_append cX4_append 3 (some .int) :: zU
def vsX4_clear : List Cond := .code yX4_clear cX4_clear 1 none :: zU
def vsX4_growIfFull : List Cond := .code yX4_growIfFull cX4_growIfFull 1 (some .int) :: zU
def vsX4_insert : List Cond := .code yX4_insert cX4_insert 3 none :: zU
def vsX4_keyAt : List Cond := .code yX4_keyAt cX4_keyAt 2 (some .int) :: zU
def vsX4_placeOf : List Cond := .code yX4_placeOf cX4_placeOf 3 (some .int) :: zU
def vsX4_remove : List Cond := .code yX4_remove cX4_remove 2 none :: zU
def vsX4_room : List Cond := .code yX4_room cX4_room 1 (some .int) :: zU
def vsX4_stepsTo : List Cond := .code yX4_stepsTo cX4_stepsTo 2 (some .int) :: zU
def vsX5_choose : List Cond := .code yX5_choose cX5_choose 4 none :: zU
def vsX5_leastSum : List Cond := .code yX5_leastSum cX5_leastSum 1 (some .int) :: zU
def vsX5_lightestAtFirst : List Cond := .code yX5_lightestAtFirst cX5_lightestAtFirst 3 (some .int) :: zU
def vsX5_moves : List Cond := .code yX5_moves cX5_moves 1 (some .int) :: zU
def vsX5_nextOf : List Cond := .code yX5_nextOf cX5_nextOf 8 (some .int) :: zU
def vsX5_open : List Cond := .code yX5_open cX5_open 5 none :: zU
def vsX5_weigh : List Cond := .code yX5_weigh cX5_weigh 6 none :: zU
def vsX5_weightOver : List Cond := .code yX5_weightOver cX5_weightOver 6 (some .int) :: zU
def vsX6_answerTo : List Cond := .code yX6_answerTo cX6_answerTo 3 (some .int) :: zU
def vsX6_howMany : List Cond := .code yX6_howMany cX6_howMany 4 (some .int) :: zU
def vsX6_leastFrom : List Cond := .code yX6_leastFrom cX6_leastFrom 4 (some .int) :: zU
def vsX6_step : List Cond := .code yX6_step cX6_step 3 (some .int) :: zU
def vsX6_strike : List Cond := .code yX6_strike cX6_strike 4 (some .int) :: zU
def vsX7_greatestRoom : List Cond := .code yX7_greatestRoom cX7_greatestRoom 3 (some .int) :: zU
def vsX7_isWithin : List Cond := .code yX7_isWithin cX7_isWithin 3 (some .boolean) :: zU
def vsX7_restart : List Cond := .code yX7_restart cX7_restart 1 none :: zU
def vsX7_stepsSince : List Cond := .code yX7_stepsSince cX7_stepsSince 4 (some .int) :: zU
def vsX7_take : List Cond := .code yX7_take cX7_take 3 none :: zU
def vsX7_worstCall : List Cond := .code yX7_worstCall cX7_worstCall 3 (some .int) :: zU
def vsX7_worstSteps : List Cond := .code yX7_worstSteps cX7_worstSteps 2 (some .int) :: zU
def vsX8_askedAt : List Cond := .code yX8_askedAt cX8_askedAt 2 (some .int) :: zU
def vsX8_halve : List Cond := .code yX8_halve cX8_halve 5 (some .int) :: zU
def vsX8_putInOrder : List Cond := .code yX8_putInOrder cX8_putInOrder 5 (some .int) :: zU
def vsX8_seekBothEnds : List Cond := .code yX8_seekBothEnds cX8_seekBothEnds 3 (some .int) :: zU
def vsX8_step : List Cond := .code yX8_step cX8_step 3 (some .int) :: zU
def vsX8_strike : List Cond := .code yX8_strike cX8_strike 4 (some .int) :: zU
def vsX9_clear : List Cond := .code yX9_clear cX9_clear 1 none :: zU
def vsX9_hang : List Cond := .code yX9_hang cX9_hang 3 none :: zU
def vsX9_putNode : List Cond := .code yX9_putNode cX9_putNode 3 (some .int) :: zU
def vsX9_room : List Cond := .code yX9_room cX9_room 1 (some .int) :: zU
def vsX9_seek : List Cond := .code yX9_seek cX9_seek 4 (some .int) :: zU
def vsX9_seekLeast : List Cond := .code yX9_seekLeast cX9_seekLeast 3 (some .int) :: zU
def vsX9_step : List Cond := .code yX9_step cX9_step 3 (some .int) :: zU
def vsX9_strike : List Cond := .code yX9_strike cX9_strike 3 (some .int) :: zU
def vsX9_takeOut : List Cond := .code yX9_takeOut cX9_takeOut 5 (some .int) :: zU
theorem yd_X10_isKey : yX10_isKey.cls ≠ "java/lang/invoke/MethodHandle" ∧ yX10_isKey.cls ≠ "java/lang/invoke/VarHandle" ∧ (parseMethodDescriptor yX10_isKey.desc).map (fun d => d.parameters.length) = some 1 := by decide +kernel
theorem ydu_X4_placeOf : "WhichShelf$Lined" ≠ "java/lang/invoke/MethodHandle" ∧ "WhichShelf$Lined" ≠ "java/lang/invoke/VarHandle" ∧ (parseMethodDescriptor "(I)I").map (fun d => d.parameters.length) = some 1 := by decide +kernel
theorem yd_X6_leastFrom : yX6_leastFrom.cls = RX6 ∧ yX6_leastFrom.cls ≠ "java/lang/invoke/MethodHandle" ∧ yX6_leastFrom.cls ≠ "java/lang/invoke/VarHandle" ∧ (parseMethodDescriptor yX6_leastFrom.desc).map (fun d => d.parameters.length) = some 1 := by decide +kernel
theorem ydu_X4_keyAt : "WhichShelf$Lined" ≠ "java/lang/invoke/MethodHandle" ∧ "WhichShelf$Lined" ≠ "java/lang/invoke/VarHandle" ∧ (parseMethodDescriptor "(I)I").map (fun d => d.parameters.length) = some 1 := by decide +kernel
theorem yd_X6_howMany : yX6_howMany.cls = RX6 ∧ yX6_howMany.cls ≠ "java/lang/invoke/MethodHandle" ∧ yX6_howMany.cls ≠ "java/lang/invoke/VarHandle" ∧ (parseMethodDescriptor yX6_howMany.desc).map (fun d => d.parameters.length) = some 1 := by decide +kernel
theorem yd_X6_answerTo : yX6_answerTo.cls = RX6 ∧ yX6_answerTo.cls ≠ "java/lang/invoke/MethodHandle" ∧ yX6_answerTo.cls ≠ "java/lang/invoke/VarHandle" ∧ (parseMethodDescriptor yX6_answerTo.desc).map (fun d => d.parameters.length) = some 2 := by decide +kernel
theorem ydu_X4_growIfFull : "WhichShelf$Lined" ≠ "java/lang/invoke/MethodHandle" ∧ "WhichShelf$Lined" ≠ "java/lang/invoke/VarHandle" ∧ (parseMethodDescriptor "()I").map (fun d => d.parameters.length) = some 0 := by decide +kernel
theorem ydu_X4_insert : "WhichShelf$Lined" ≠ "java/lang/invoke/MethodHandle" ∧ "WhichShelf$Lined" ≠ "java/lang/invoke/VarHandle" ∧ (parseMethodDescriptor "(II)V").map (fun d => d.parameters.length) = some 2 := by decide +kernel
theorem ydu_X4_append : "WhichShelf$Lined" ≠ "java/lang/invoke/MethodHandle" ∧ "WhichShelf$Lined" ≠ "java/lang/invoke/VarHandle" ∧ (parseMethodDescriptor "(I)I").map (fun d => d.parameters.length) = some 1 := by decide +kernel
theorem ydu_X4_stepsTo : "WhichShelf$Lined" ≠ "java/lang/invoke/MethodHandle" ∧ "WhichShelf$Lined" ≠ "java/lang/invoke/VarHandle" ∧ (parseMethodDescriptor "(I)I").map (fun d => d.parameters.length) = some 1 := by decide +kernel
theorem ydu_X4_remove : "WhichShelf$Lined" ≠ "java/lang/invoke/MethodHandle" ∧ "WhichShelf$Lined" ≠ "java/lang/invoke/VarHandle" ∧ (parseMethodDescriptor "(I)V").map (fun d => d.parameters.length) = some 1 := by decide +kernel
theorem yd_X6_strike : yX6_strike.cls = RX6 ∧ yX6_strike.cls ≠ "java/lang/invoke/MethodHandle" ∧ yX6_strike.cls ≠ "java/lang/invoke/VarHandle" ∧ (parseMethodDescriptor yX6_strike.desc).map (fun d => d.parameters.length) = some 1 := by decide +kernel
theorem ydu_X7_step : "WhichShelf$Shelf" ≠ "java/lang/invoke/MethodHandle" ∧ "WhichShelf$Shelf" ≠ "java/lang/invoke/VarHandle" ∧ (parseMethodDescriptor "(II)I").map (fun d => d.parameters.length) = some 2 := by decide +kernel
theorem ydu_X7_room : "WhichShelf$Shelf" ≠ "java/lang/invoke/MethodHandle" ∧ "WhichShelf$Shelf" ≠ "java/lang/invoke/VarHandle" ∧ (parseMethodDescriptor "()I").map (fun d => d.parameters.length) = some 0 := by decide +kernel
theorem yd_X8_halve : yX8_halve.cls = RX8 ∧ yX8_halve.cls ≠ "java/lang/invoke/MethodHandle" ∧ yX8_halve.cls ≠ "java/lang/invoke/VarHandle" ∧ (parseMethodDescriptor yX8_halve.desc).map (fun d => d.parameters.length) = some 1 := by decide +kernel
theorem yd_X8_putInOrder : yX8_putInOrder.cls = RX8 ∧ yX8_putInOrder.cls ≠ "java/lang/invoke/MethodHandle" ∧ yX8_putInOrder.cls ≠ "java/lang/invoke/VarHandle" ∧ (parseMethodDescriptor yX8_putInOrder.desc).map (fun d => d.parameters.length) = some 1 := by decide +kernel
theorem yd_X8_askedAt : yX8_askedAt.cls = RX8 ∧ yX8_askedAt.cls ≠ "java/lang/invoke/MethodHandle" ∧ yX8_askedAt.cls ≠ "java/lang/invoke/VarHandle" ∧ (parseMethodDescriptor yX8_askedAt.desc).map (fun d => d.parameters.length) = some 1 := by decide +kernel
theorem yd_X8_strike : yX8_strike.cls = RX8 ∧ yX8_strike.cls ≠ "java/lang/invoke/MethodHandle" ∧ yX8_strike.cls ≠ "java/lang/invoke/VarHandle" ∧ (parseMethodDescriptor yX8_strike.desc).map (fun d => d.parameters.length) = some 1 := by decide +kernel
theorem yd_X8_seekBothEnds : yX8_seekBothEnds.cls = RX8 ∧ yX8_seekBothEnds.cls ≠ "java/lang/invoke/MethodHandle" ∧ yX8_seekBothEnds.cls ≠ "java/lang/invoke/VarHandle" ∧ (parseMethodDescriptor yX8_seekBothEnds.desc).map (fun d => d.parameters.length) = some 1 := by decide +kernel
theorem yd_X2_chainOf : yX2_chainOf.cls = RX2 ∧ yX2_chainOf.cls ≠ "java/lang/invoke/MethodHandle" ∧ yX2_chainOf.cls ≠ "java/lang/invoke/VarHandle" ∧ (parseMethodDescriptor yX2_chainOf.desc).map (fun d => d.parameters.length) = some 1 := by decide +kernel
theorem yd_X2_headOfChain : yX2_headOfChain.cls = RX2 ∧ yX2_headOfChain.cls ≠ "java/lang/invoke/MethodHandle" ∧ yX2_headOfChain.cls ≠ "java/lang/invoke/VarHandle" ∧ (parseMethodDescriptor yX2_headOfChain.desc).map (fun d => d.parameters.length) = some 1 := by decide +kernel
theorem yd_X2_putAtHead : yX2_putAtHead.cls = RX2 ∧ yX2_putAtHead.cls ≠ "java/lang/invoke/MethodHandle" ∧ yX2_putAtHead.cls ≠ "java/lang/invoke/VarHandle" ∧ (parseMethodDescriptor yX2_putAtHead.desc).map (fun d => d.parameters.length) = some 1 := by decide +kernel
theorem yd_X2_spreadIfFull : yX2_spreadIfFull.cls = RX2 ∧ yX2_spreadIfFull.cls ≠ "java/lang/invoke/MethodHandle" ∧ yX2_spreadIfFull.cls ≠ "java/lang/invoke/VarHandle" ∧ (parseMethodDescriptor yX2_spreadIfFull.desc).map (fun d => d.parameters.length) = some 0 := by decide +kernel
theorem yd_X2_seek : yX2_seek.cls = RX2 ∧ yX2_seek.cls ≠ "java/lang/invoke/MethodHandle" ∧ yX2_seek.cls ≠ "java/lang/invoke/VarHandle" ∧ (parseMethodDescriptor yX2_seek.desc).map (fun d => d.parameters.length) = some 1 := by decide +kernel
theorem yd_X2_strike : yX2_strike.cls = RX2 ∧ yX2_strike.cls ≠ "java/lang/invoke/MethodHandle" ∧ yX2_strike.cls ≠ "java/lang/invoke/VarHandle" ∧ (parseMethodDescriptor yX2_strike.desc).map (fun d => d.parameters.length) = some 1 := by decide +kernel
theorem yd_X9_seek : yX9_seek.cls = RX9 ∧ yX9_seek.cls ≠ "java/lang/invoke/MethodHandle" ∧ yX9_seek.cls ≠ "java/lang/invoke/VarHandle" ∧ (parseMethodDescriptor yX9_seek.desc).map (fun d => d.parameters.length) = some 1 := by decide +kernel
theorem yd_X9_hang : yX9_hang.cls = RX9 ∧ yX9_hang.cls ≠ "java/lang/invoke/MethodHandle" ∧ yX9_hang.cls ≠ "java/lang/invoke/VarHandle" ∧ (parseMethodDescriptor yX9_hang.desc).map (fun d => d.parameters.length) = some 2 := by decide +kernel
theorem yd_X9_putNode : yX9_putNode.cls = RX9 ∧ yX9_putNode.cls ≠ "java/lang/invoke/MethodHandle" ∧ yX9_putNode.cls ≠ "java/lang/invoke/VarHandle" ∧ (parseMethodDescriptor yX9_putNode.desc).map (fun d => d.parameters.length) = some 1 := by decide +kernel
theorem yd_X9_takeOut : yX9_takeOut.cls = RX9 ∧ yX9_takeOut.cls ≠ "java/lang/invoke/MethodHandle" ∧ yX9_takeOut.cls ≠ "java/lang/invoke/VarHandle" ∧ (parseMethodDescriptor yX9_takeOut.desc).map (fun d => d.parameters.length) = some 1 := by decide +kernel
theorem yd_X9_strike : yX9_strike.cls = RX9 ∧ yX9_strike.cls ≠ "java/lang/invoke/MethodHandle" ∧ yX9_strike.cls ≠ "java/lang/invoke/VarHandle" ∧ (parseMethodDescriptor yX9_strike.desc).map (fun d => d.parameters.length) = some 1 := by decide +kernel
theorem yd_X9_seekLeast : yX9_seekLeast.cls = RX9 ∧ yX9_seekLeast.cls ≠ "java/lang/invoke/MethodHandle" ∧ yX9_seekLeast.cls ≠ "java/lang/invoke/VarHandle" ∧ (parseMethodDescriptor yX9_seekLeast.desc).map (fun d => d.parameters.length) = some 0 := by decide +kernel
theorem yd_X3_swap : yX3_swap.cls = RX3 ∧ yX3_swap.cls ≠ "java/lang/invoke/MethodHandle" ∧ yX3_swap.cls ≠ "java/lang/invoke/VarHandle" ∧ (parseMethodDescriptor yX3_swap.desc).map (fun d => d.parameters.length) = some 2 := by decide +kernel
theorem yd_X3_rise : yX3_rise.cls = RX3 ∧ yX3_rise.cls ≠ "java/lang/invoke/MethodHandle" ∧ yX3_rise.cls ≠ "java/lang/invoke/VarHandle" ∧ (parseMethodDescriptor yX3_rise.desc).map (fun d => d.parameters.length) = some 1 := by decide +kernel
theorem yd_X3_lesserChild : yX3_lesserChild.cls = RX3 ∧ yX3_lesserChild.cls ≠ "java/lang/invoke/MethodHandle" ∧ yX3_lesserChild.cls ≠ "java/lang/invoke/VarHandle" ∧ (parseMethodDescriptor yX3_lesserChild.desc).map (fun d => d.parameters.length) = some 1 := by decide +kernel
theorem yd_X3_sink : yX3_sink.cls = RX3 ∧ yX3_sink.cls ≠ "java/lang/invoke/MethodHandle" ∧ yX3_sink.cls ≠ "java/lang/invoke/VarHandle" ∧ (parseMethodDescriptor yX3_sink.desc).map (fun d => d.parameters.length) = some 1 := by decide +kernel
theorem yd_X3_strike : yX3_strike.cls = RX3 ∧ yX3_strike.cls ≠ "java/lang/invoke/MethodHandle" ∧ yX3_strike.cls ≠ "java/lang/invoke/VarHandle" ∧ (parseMethodDescriptor yX3_strike.desc).map (fun d => d.parameters.length) = some 1 := by decide +kernel
theorem yd_X0_lookFrom : yX0_lookFrom.cls = RX0 ∧ yX0_lookFrom.cls ≠ "java/lang/invoke/MethodHandle" ∧ yX0_lookFrom.cls ≠ "java/lang/invoke/VarHandle" ∧ (parseMethodDescriptor yX0_lookFrom.desc).map (fun d => d.parameters.length) = some 1 := by decide +kernel
theorem ydu_X7_take : "WhichShelf$Shelf" ≠ "java/lang/invoke/MethodHandle" ∧ "WhichShelf$Shelf" ≠ "java/lang/invoke/VarHandle" ∧ (parseMethodDescriptor "(II)V").map (fun d => d.parameters.length) = some 2 := by decide +kernel
theorem yd_X10_lay : yX10_lay.cls = RX10 ∧ yX10_lay.cls ≠ "java/lang/invoke/MethodHandle" ∧ yX10_lay.cls ≠ "java/lang/invoke/VarHandle" ∧ (parseMethodDescriptor yX10_lay.desc).map (fun d => d.parameters.length) = some 2 := by decide +kernel
theorem yd_X10_drawnAfter : yX10_drawnAfter.cls ≠ "java/lang/invoke/MethodHandle" ∧ yX10_drawnAfter.cls ≠ "java/lang/invoke/VarHandle" ∧ (parseMethodDescriptor yX10_drawnAfter.desc).map (fun d => d.parameters.length) = some 1 := by decide +kernel
theorem ydu_X7_clear : "WhichShelf$Shelf" ≠ "java/lang/invoke/MethodHandle" ∧ "WhichShelf$Shelf" ≠ "java/lang/invoke/VarHandle" ∧ (parseMethodDescriptor "()V").map (fun d => d.parameters.length) = some 0 := by decide +kernel
theorem yd_J7_fill_53178 : yJ7_fill_53178.cls ≠ "java/lang/invoke/MethodHandle" ∧ yJ7_fill_53178.cls ≠ "java/lang/invoke/VarHandle" ∧ (parseMethodDescriptor yJ7_fill_53178.desc).map (fun d => d.parameters.length) = some 2 := by decide +kernel
theorem ydn_X1_clear : yX1_clear.name ≠ "<init>" ∧ (parseMethodDescriptor yX1_clear.desc).map (fun d => d.parameters.length) = some 0 := by decide +kernel
theorem ydu_X7_restart : "WhichShelf$Shelf" ≠ "java/lang/invoke/MethodHandle" ∧ "WhichShelf$Shelf" ≠ "java/lang/invoke/VarHandle" ∧ (parseMethodDescriptor "()V").map (fun d => d.parameters.length) = some 0 := by decide +kernel
theorem yd_X10_layAnew : yX10_layAnew.cls = RX10 ∧ yX10_layAnew.cls ≠ "java/lang/invoke/MethodHandle" ∧ yX10_layAnew.cls ≠ "java/lang/invoke/VarHandle" ∧ (parseMethodDescriptor yX10_layAnew.desc).map (fun d => d.parameters.length) = some 1 := by decide +kernel
theorem yd_X10_isCall : yX10_isCall.cls = RX10 ∧ yX10_isCall.cls ≠ "java/lang/invoke/MethodHandle" ∧ yX10_isCall.cls ≠ "java/lang/invoke/VarHandle" ∧ (parseMethodDescriptor yX10_isCall.desc).map (fun d => d.parameters.length) = some 1 := by decide +kernel
theorem yd_X10_isShelf : yX10_isShelf.cls ≠ "java/lang/invoke/MethodHandle" ∧ yX10_isShelf.cls ≠ "java/lang/invoke/VarHandle" ∧ (parseMethodDescriptor yX10_isShelf.desc).map (fun d => d.parameters.length) = some 1 := by decide +kernel
theorem ydu_X7_keyAt : "WhichShelf$Shelf" ≠ "java/lang/invoke/MethodHandle" ∧ "WhichShelf$Shelf" ≠ "java/lang/invoke/VarHandle" ∧ (parseMethodDescriptor "(I)I").map (fun d => d.parameters.length) = some 1 := by decide +kernel
theorem ydu_X7_stepsSince : "WhichShelf$Shelf" ≠ "java/lang/invoke/MethodHandle" ∧ "WhichShelf$Shelf" ≠ "java/lang/invoke/VarHandle" ∧ (parseMethodDescriptor "(I)I").map (fun d => d.parameters.length) = some 1 := by decide +kernel
theorem ydu_X7_worstCall : "WhichShelf$Shelf" ≠ "java/lang/invoke/MethodHandle" ∧ "WhichShelf$Shelf" ≠ "java/lang/invoke/VarHandle" ∧ (parseMethodDescriptor "()I").map (fun d => d.parameters.length) = some 0 := by decide +kernel
theorem ydu_X7_worstSteps : "WhichShelf$Shelf" ≠ "java/lang/invoke/MethodHandle" ∧ "WhichShelf$Shelf" ≠ "java/lang/invoke/VarHandle" ∧ (parseMethodDescriptor "()I").map (fun d => d.parameters.length) = some 0 := by decide +kernel
theorem ydu_X7_greatestRoom : "WhichShelf$Shelf" ≠ "java/lang/invoke/MethodHandle" ∧ "WhichShelf$Shelf" ≠ "java/lang/invoke/VarHandle" ∧ (parseMethodDescriptor "()I").map (fun d => d.parameters.length) = some 0 := by decide +kernel
theorem yd_X10_asksFirst : yX10_asksFirst.cls = RX10 ∧ yX10_asksFirst.cls ≠ "java/lang/invoke/MethodHandle" ∧ yX10_asksFirst.cls ≠ "java/lang/invoke/VarHandle" ∧ (parseMethodDescriptor yX10_asksFirst.desc).map (fun d => d.parameters.length) = some 0 := by decide +kernel
theorem yd_X10_offered : yX10_offered.cls = RX10 ∧ yX10_offered.cls ≠ "java/lang/invoke/MethodHandle" ∧ yX10_offered.cls ≠ "java/lang/invoke/VarHandle" ∧ (parseMethodDescriptor yX10_offered.desc).map (fun d => d.parameters.length) = some 0 := by decide +kernel
theorem yd_X10_isIn : yX10_isIn.cls ≠ "java/lang/invoke/MethodHandle" ∧ yX10_isIn.cls ≠ "java/lang/invoke/VarHandle" ∧ (parseMethodDescriptor yX10_isIn.desc).map (fun d => d.parameters.length) = some 2 := by decide +kernel
theorem yd_X10_cheapestSince : yX10_cheapestSince.cls = RX10 ∧ yX10_cheapestSince.cls ≠ "java/lang/invoke/MethodHandle" ∧ yX10_cheapestSince.cls ≠ "java/lang/invoke/VarHandle" ∧ (parseMethodDescriptor yX10_cheapestSince.desc).map (fun d => d.parameters.length) = some 2 := by decide +kernel
theorem ydu_X7_isWithin : "WhichShelf$Shelf" ≠ "java/lang/invoke/MethodHandle" ∧ "WhichShelf$Shelf" ≠ "java/lang/invoke/VarHandle" ∧ (parseMethodDescriptor "(II)Z").map (fun d => d.parameters.length) = some 2 := by decide +kernel
theorem yd_X5_open : yX5_open.cls = RX5 ∧ yX5_open.cls ≠ "java/lang/invoke/MethodHandle" ∧ yX5_open.cls ≠ "java/lang/invoke/VarHandle" ∧ (parseMethodDescriptor yX5_open.desc).map (fun d => d.parameters.length) = some 4 := by decide +kernel
theorem yd_X5_weightOver : yX5_weightOver.cls = RX5 ∧ yX5_weightOver.cls ≠ "java/lang/invoke/MethodHandle" ∧ yX5_weightOver.cls ≠ "java/lang/invoke/VarHandle" ∧ (parseMethodDescriptor yX5_weightOver.desc).map (fun d => d.parameters.length) = some 4 := by decide +kernel
theorem yd_X5_nextOf : yX5_nextOf.cls = RX5 ∧ yX5_nextOf.cls ≠ "java/lang/invoke/MethodHandle" ∧ yX5_nextOf.cls ≠ "java/lang/invoke/VarHandle" ∧ (parseMethodDescriptor yX5_nextOf.desc).map (fun d => d.parameters.length) = some 3 := by decide +kernel
theorem yd_X5_weigh : yX5_weigh.cls = RX5 ∧ yX5_weigh.cls ≠ "java/lang/invoke/MethodHandle" ∧ yX5_weigh.cls ≠ "java/lang/invoke/VarHandle" ∧ (parseMethodDescriptor yX5_weigh.desc).map (fun d => d.parameters.length) = some 2 := by decide +kernel
theorem yd_X5_lightestAtFirst : yX5_lightestAtFirst.cls = RX5 ∧ yX5_lightestAtFirst.cls ≠ "java/lang/invoke/MethodHandle" ∧ yX5_lightestAtFirst.cls ≠ "java/lang/invoke/VarHandle" ∧ (parseMethodDescriptor yX5_lightestAtFirst.desc).map (fun d => d.parameters.length) = some 0 := by decide +kernel
theorem yd_X5_choose : yX5_choose.cls = RX5 ∧ yX5_choose.cls ≠ "java/lang/invoke/MethodHandle" ∧ yX5_choose.cls ≠ "java/lang/invoke/VarHandle" ∧ (parseMethodDescriptor yX5_choose.desc).map (fun d => d.parameters.length) = some 1 := by decide +kernel
theorem yd_X10_makePlan : yX10_makePlan.cls = RX10 ∧ yX10_makePlan.cls ≠ "java/lang/invoke/MethodHandle" ∧ yX10_makePlan.cls ≠ "java/lang/invoke/VarHandle" ∧ (parseMethodDescriptor yX10_makePlan.desc).map (fun d => d.parameters.length) = some 0 := by decide +kernel
theorem yd_X5_leastSum : yX5_leastSum.cls = RX5 ∧ yX5_leastSum.cls ≠ "java/lang/invoke/MethodHandle" ∧ yX5_leastSum.cls ≠ "java/lang/invoke/VarHandle" ∧ (parseMethodDescriptor yX5_leastSum.desc).map (fun d => d.parameters.length) = some 0 := by decide +kernel
theorem yd_X5_moves : yX5_moves.cls = RX5 ∧ yX5_moves.cls ≠ "java/lang/invoke/MethodHandle" ∧ yX5_moves.cls ≠ "java/lang/invoke/VarHandle" ∧ (parseMethodDescriptor yX5_moves.desc).map (fun d => d.parameters.length) = some 0 := by decide +kernel

/-! the class, method by method, as pure functions (by program, out of the bytecode) -/
def fX_X10_isKey (x0 : Int32) (S : zSt) : Option (Int32) := if x0 < 0 then (some 0) else (if 64 ≤ x0 then (some 0) else (some 1))
def fX_X4_placeOf_Row_2 : Nat → Int32 → Int32 → zSt → Option (Int32)
  | 0, _, _, _ => none
  | n + 1, x1, x2, S => if (S.1 20) ≤ x2 then (some (-1)) else (zgd (zin x2 200) (if (S.2 33 x2.toNatClampNeg) = x1 then (some x2) else ((fX_X4_placeOf_Row_2  n) x1 (x2 + 1) S)))
def fX_X4_placeOf_Row (x1 : Int32) (S : zSt) : Option (Int32) := fX_X4_placeOf_Row_2  1000 x1 0 S
def fX_X6_leastFrom_37 (K4 : (Int32 → Int32 → Int32 → zSt → Option (Int32))) (x1 x3 : Int32) (S : zSt) : Option (Int32) := zgd (zin x3 200) (K4 x1 (S.2 33 x3.toNatClampNeg) (x3 + 1) S)
def fX_X6_leastFrom_4 : Nat → Int32 → Int32 → Int32 → zSt → Option (Int32)
  | 0, _, _, _, _ => none
  | n + 1, x1, x2, x3, S => if (S.1 20) ≤ x3 then (some x2) else (zgd (zin x3 200) (if (S.2 33 x3.toNatClampNeg) < x1 then ((fX_X6_leastFrom_4  n) x1 x2 (x3 + 1) S) else (if x2 = (-1) then (fX_X6_leastFrom_37 (fX_X6_leastFrom_4  n) x1 x3 S) else (zgd (zin x3 200) (if x2 ≤ (S.2 33 x3.toNatClampNeg) then ((fX_X6_leastFrom_4  n) x1 x2 (x3 + 1) S) else (fX_X6_leastFrom_37 (fX_X6_leastFrom_4  n) x1 x3 S))))))
def fX_X6_leastFrom (x1 : Int32) (S : zSt) : Option (Int32) := fX_X6_leastFrom_4  1000 x1 (-1) 0 S
def fX_X4_keyAt_Row (x1 : Int32) (S : zSt) : Option (Int32) := if x1 < 0 then (some (-1)) else (if (S.1 20) ≤ x1 then (some (-1)) else (zgd (zin x1 200) (some (S.2 33 x1.toNatClampNeg))))
def fX_X6_howMany_4 : Nat → Int32 → Int32 → Int32 → zSt → Option (Int32)
  | 0, _, _, _, _ => none
  | n + 1, x1, x2, x3, S => if (S.1 20) ≤ x3 then (some x2) else (zgd (zin x3 200) (if (S.2 33 x3.toNatClampNeg) = x1 then ((fX_X6_howMany_4  n) x1 (x2 + 1) (x3 + 1) S) else ((fX_X6_howMany_4  n) x1 x2 (x3 + 1) S)))
def fX_X6_howMany (x1 : Int32) (S : zSt) : Option (Int32) := fX_X6_howMany_4  1000 x1 0 0 S
def fX_X6_answerTo (x1 x2 : Int32) (S : zSt) : Option (Int32) := if x1 = 0 then (some ((S.1 20) + 1)) else (if x1 = 1 then ((fX_X4_placeOf_Row  x2 S).bind (fun u2 => if u2 = (-1) then (some 0) else (some 1))) else (if x1 = 2 then ((fX_X4_placeOf_Row  x2 S).bind (fun u5 => if u5 = (-1) then (some 0) else (some 1))) else (if x1 = 3 then (some (S.1 20)) else (if x1 = 4 then ((fX_X6_leastFrom  0 S).bind (fun u8 => some u8)) else (if x1 = 5 then ((fX_X6_leastFrom  x2 S).bind (fun u10 => some u10)) else (if x1 = 6 then ((fX_X4_keyAt_Row  0 S).bind (fun u12 => some u12)) else (if x1 = 7 then ((fX_X6_howMany  x2 S).bind (fun u14 => some u14)) else (some (S.1 20)))))))))
def fX_X4_growIfFull_Row (S : zSt) : Option (Int32 × zSt) := if (S.1 20) = (S.1 19) then (some ((S.1 20), (zsI S 19 ((S.1 19) * 2)))) else (some (0, S))
def fX_X4_insert_Row (x1 x2 : Int32) (S : zSt) : Option (zSt) := if x1 < 0 then (some S) else (if (S.1 20) < x1 then (some S) else (if 200 ≤ (S.1 20) then (some S) else (zgd (zcg x1 (x1 + 1) ((S.1 20) - x1)) (zgd (zin x1 200) (some (zsI (zsR (zcp S 33 33 x1 (x1 + 1) ((S.1 20) - x1)) 33 x1.toNatClampNeg x2) 20 ((S.1 20) + 1)))))))
def fX_X4_append_Row (x1 : Int32) (S : zSt) : Option (Int32 × zSt) := (fX_X4_growIfFull_Row   S).bind (fun u1 => (fX_X4_insert_Row  (u1.2.1 20) x1 u1.2).bind (fun u3 => some ((u1.1 + 1), u3)))
def fX_X4_stepsTo_Row (x1 : Int32) (S : zSt) : Option (Int32) := if x1 = (-1) then (some (S.1 20)) else (some (x1 + 1))
def fX_X4_remove_Row (x1 : Int32) (S : zSt) : Option (zSt) := if x1 < 0 then (some S) else (if (S.1 20) ≤ x1 then (some S) else (zgd (zcg (x1 + 1) x1 (((S.1 20) - x1) - 1)) (some (zsI (zcp S 33 33 (x1 + 1) x1 (((S.1 20) - x1) - 1)) 20 ((S.1 20) - 1)))))
def fX_X6_strike (x1 : Int32) (S : zSt) : Option (Int32 × zSt) := (fX_X4_placeOf_Row  x1 S).bind (fun u1 => (fX_X4_stepsTo_Row  u1 S).bind (fun u3 => if u1 = (-1) then (some (u3, S)) else ((fX_X4_remove_Row  u1 S).bind (fun u6 => some (((u3 + (u6.1 20)) - u1), u6)))))
def fX_X6_step (x1 x2 : Int32) (S : zSt) : Option (Int32 × zSt) := if x1 = 0 then ((fX_X4_append_Row  x2 S).bind (fun u2 => some (u2.1, u2.2))) else (if x1 = 1 then ((fX_X4_placeOf_Row  x2 S).bind (fun u4 => (fX_X4_stepsTo_Row  u4 S).bind (fun u6 => some (u6, S)))) else (if x1 = 2 then ((fX_X6_strike  x2 S).bind (fun u8 => some (u8.1, u8.2))) else (if x1 = 3 then (some ((S.1 20), S)) else (if x1 = 4 then (some ((S.1 20), S)) else (if x1 = 5 then (some ((S.1 20), S)) else (if x1 = 6 then (some (1, S)) else (some ((S.1 20), S))))))))
def fX_X4_room_Row (S : zSt) : Option (Int32) := some (S.1 19)
def fX_X7_take_Row (x1 x2 : Int32) (S : zSt) : Option (zSt) := if 200 ≤ (S.1 12) then (some S) else ((fX_X6_step  x1 x2 S).bind (fun u2 => zgd (zin (S.1 12) 200) ((fX_X4_room_Row   (zsR u2.2 10 (S.1 12).toNatClampNeg u2.1)).bind (fun u5 => zgd (zin (u2.2.1 12) 200) (some (zsI (zsR (zsR u2.2 10 (S.1 12).toNatClampNeg u2.1) 16 (u2.2.1 12).toNatClampNeg u5) 12 ((u2.2.1 12) + 1)))))))
def fX_X4_growIfFull_Sorted (S : zSt) : Option (Int32 × zSt) := if (S.1 23) = (S.1 22) then (some ((S.1 23), (zsI S 22 ((S.1 22) * 2)))) else (some (0, S))
def fX_X8_halve_56 (K12 : (Int32 → Int32 → Int32 → zSt → Option (Int32 × zSt))) (x1 x2 x3 : Int32) (S : zSt) : Option (Int32 × zSt) := K12 x1 x2 x3 S
def fX_X8_halve_12 : Nat → Int32 → Int32 → Int32 → zSt → Option (Int32 × zSt)
  | 0, _, _, _, _ => none
  | n + 1, x1, x2, x3, S => if x3 ≤ x2 then (some (x2, S)) else (zgd (zin ((x2 + x3) / 2) 200) (if x1 ≤ (S.2 34 ((x2 + x3) / 2).toNatClampNeg) then (fX_X8_halve_56 (fX_X8_halve_12  n) x1 x2 ((x2 + x3) / 2) (zsI S 24 ((S.1 24) + 1))) else (fX_X8_halve_56 (fX_X8_halve_12  n) x1 (((x2 + x3) / 2) + 1) x3 (zsI S 24 ((S.1 24) + 1)))))
def fX_X8_halve (x1 : Int32) (S : zSt) : Option (Int32 × zSt) := fX_X8_halve_12  1000 x1 0 (S.1 23) (zsI S 24 0)
def fX_X4_insert_Sorted (x1 x2 : Int32) (S : zSt) : Option (zSt) := if x1 < 0 then (some S) else (if (S.1 23) < x1 then (some S) else (if 200 ≤ (S.1 23) then (some S) else (zgd (zcg x1 (x1 + 1) ((S.1 23) - x1)) (zgd (zin x1 200) (some (zsI (zsR (zcp S 34 34 x1 (x1 + 1) ((S.1 23) - x1)) 34 x1.toNatClampNeg x2) 23 ((S.1 23) + 1)))))))
def fX_X8_putInOrder (x1 : Int32) (S : zSt) : Option (Int32 × zSt) := (fX_X4_growIfFull_Sorted   S).bind (fun u1 => (fX_X8_halve  x1 u1.2).bind (fun u3 => (fX_X4_insert_Sorted  u3.1 x1 u3.2).bind (fun u5 => some ((((u1.1 + (u5.1 24)) + ((u3.2.1 23) - u3.1)) + 1), u5))))
def fX_X8_askedAt_17 (t0 t1 : Int32) (S : zSt) : Option (Int32) := some (t0 + t1)
def fX_X8_askedAt (x1 : Int32) (S : zSt) : Option (Int32) := if (S.1 23) ≤ x1 then (fX_X8_askedAt_17  (S.1 24) 0 S) else (fX_X8_askedAt_17  (S.1 24) 1 S)
def fX_X4_keyAt_Sorted (x1 : Int32) (S : zSt) : Option (Int32) := if x1 < 0 then (some (-1)) else (if (S.1 23) ≤ x1 then (some (-1)) else (zgd (zin x1 200) (some (S.2 34 x1.toNatClampNeg))))
def fX_X4_remove_Sorted (x1 : Int32) (S : zSt) : Option (zSt) := if x1 < 0 then (some S) else (if (S.1 23) ≤ x1 then (some S) else (zgd (zcg (x1 + 1) x1 (((S.1 23) - x1) - 1)) (some (zsI (zcp S 34 34 (x1 + 1) x1 (((S.1 23) - x1) - 1)) 23 ((S.1 23) - 1)))))
def fX_X8_strike (x1 : Int32) (S : zSt) : Option (Int32 × zSt) := (fX_X8_halve  x1 S).bind (fun u1 => (fX_X8_askedAt  u1.1 u1.2).bind (fun u3 => (fX_X4_keyAt_Sorted  u1.1 u1.2).bind (fun u5 => if u5 = x1 then ((fX_X4_remove_Sorted  u1.1 u1.2).bind (fun u8 => some (((u3 + (u8.1 23)) - u1.1), u8))) else (some (u3, u1.2)))))
def fX_X8_seekBothEnds (x1 : Int32) (S : zSt) : Option (Int32 × zSt) := (fX_X8_halve  x1 S).bind (fun u1 => (fX_X8_halve  (x1 + 1) u1.2).bind (fun u3 => some (((u1.2.1 24) + (u3.2.1 24)), u3.2)))
def fX_X8_step (x1 x2 : Int32) (S : zSt) : Option (Int32 × zSt) := if x1 = 0 then ((fX_X8_putInOrder  x2 S).bind (fun u2 => some (u2.1, u2.2))) else (if x1 = 1 then ((fX_X8_halve  x2 S).bind (fun u4 => (fX_X8_askedAt  u4.1 u4.2).bind (fun u6 => some (u6, u4.2)))) else (if x1 = 2 then ((fX_X8_strike  x2 S).bind (fun u8 => some (u8.1, u8.2))) else (if x1 = 3 then (some ((S.1 23), S)) else (if x1 = 4 then (some (1, S)) else (if x1 = 5 then ((fX_X8_halve  x2 S).bind (fun u10 => (fX_X8_askedAt  u10.1 u10.2).bind (fun u12 => some (u12, u10.2)))) else (if x1 = 6 then (some (0, S)) else (if x1 = 7 then ((fX_X8_seekBothEnds  x2 S).bind (fun u14 => some (u14.1, u14.2))) else (some ((S.1 23), S)))))))))
def fX_X4_room_Sorted (S : zSt) : Option (Int32) := some (S.1 22)
def fX_X7_take_Sorted (x1 x2 : Int32) (S : zSt) : Option (zSt) := if 200 ≤ (S.1 13) then (some S) else ((fX_X8_step  x1 x2 S).bind (fun u2 => zgd (zin (S.1 13) 200) ((fX_X4_room_Sorted   (zsR u2.2 11 (S.1 13).toNatClampNeg u2.1)).bind (fun u5 => zgd (zin (u2.2.1 13) 200) (some (zsI (zsR (zsR u2.2 11 (S.1 13).toNatClampNeg u2.1) 17 (u2.2.1 13).toNatClampNeg u5) 13 ((u2.2.1 13) + 1)))))))
def fX_X2_chainOf (x1 : Int32) (S : zSt) : Option (Int32) := some (x1 &&& ((S.1 26) - 1))
def fX_X2_headOfChain_2 : Nat → Int32 → Int32 → zSt → Option (Int32)
  | 0, _, _, _ => none
  | n + 1, x1, x2, S => if (S.1 27) ≤ x2 then (some x2) else (zgd (zin x2 200) ((fX_X2_chainOf  (S.2 35 x2.toNatClampNeg) S).bind (fun u3 => if x1 ≤ u3 then (some x2) else ((fX_X2_headOfChain_2  n) x1 (x2 + 1) S))))
def fX_X2_headOfChain (x1 : Int32) (S : zSt) : Option (Int32) := fX_X2_headOfChain_2  1000 x1 0 S
def fX_X4_insert_Hash (x1 x2 : Int32) (S : zSt) : Option (zSt) := if x1 < 0 then (some S) else (if (S.1 27) < x1 then (some S) else (if 200 ≤ (S.1 27) then (some S) else (zgd (zcg x1 (x1 + 1) ((S.1 27) - x1)) (zgd (zin x1 200) (some (zsI (zsR (zcp S 35 35 x1 (x1 + 1) ((S.1 27) - x1)) 35 x1.toNatClampNeg x2) 27 ((S.1 27) + 1)))))))
def fX_X2_putAtHead (x1 : Int32) (S : zSt) : Option (Int32 × zSt) := (fX_X2_chainOf  x1 S).bind (fun u1 => (fX_X2_headOfChain  u1 S).bind (fun u3 => (fX_X4_insert_Hash  u3 x1 S).bind (fun u5 => some (1, u5))))
def fX_X2_spreadIfFull_51 : Nat → Int32 → Int32 → zSt → Option (Int32 × zSt)
  | 0, _, _, _ => none
  | n + 1, x1, x2, S => if x1 ≤ x2 then (some (x1, S)) else (zgd (zin x2 200) ((fX_X2_putAtHead  (S.2 37 x2.toNatClampNeg) S).bind (fun u3 => (fX_X2_spreadIfFull_51  n) x1 (x2 + 1) u3.2)))
def fX_X2_spreadIfFull (S : zSt) : Option (Int32 × zSt) := if (S.1 27) = (2 * (S.1 26)) then (zgd (zcg 0 0 (S.1 27)) (fX_X2_spreadIfFull_51  1000 (S.1 27) 0 (zsI (zsI (zcp S 35 37 0 0 (S.1 27)) 26 ((S.1 26) * 2)) 27 0))) else (some (0, S))
def fX_X4_placeOf_Hash_2 : Nat → Int32 → Int32 → zSt → Option (Int32)
  | 0, _, _, _ => none
  | n + 1, x1, x2, S => if (S.1 27) ≤ x2 then (some (-1)) else (zgd (zin x2 200) (if (S.2 35 x2.toNatClampNeg) = x1 then (some x2) else ((fX_X4_placeOf_Hash_2  n) x1 (x2 + 1) S)))
def fX_X4_placeOf_Hash (x1 : Int32) (S : zSt) : Option (Int32) := fX_X4_placeOf_Hash_2  1000 x1 0 S
def fX_X2_seek_30 (x2 t0 : Int32) (S : zSt) : Option (Int32) := (fX_X2_headOfChain  x2 S).bind (fun u1 => some ((1 + t0) - u1))
def fX_X2_seek (x1 : Int32) (S : zSt) : Option (Int32) := (fX_X2_chainOf  x1 S).bind (fun u1 => (fX_X4_placeOf_Hash  x1 S).bind (fun u3 => if u3 = (-1) then ((fX_X2_headOfChain  (u1 + 1) S).bind (fun u6 => fX_X2_seek_30  u1 u6 S)) else (fX_X2_seek_30  u1 (u3 + 1) S)))
def fX_X4_remove_Hash (x1 : Int32) (S : zSt) : Option (zSt) := if x1 < 0 then (some S) else (if (S.1 27) ≤ x1 then (some S) else (zgd (zcg (x1 + 1) x1 (((S.1 27) - x1) - 1)) (some (zsI (zcp S 35 35 (x1 + 1) x1 (((S.1 27) - x1) - 1)) 27 ((S.1 27) - 1)))))
def fX_X2_strike (x1 : Int32) (S : zSt) : Option (Int32 × zSt) := (fX_X2_seek  x1 S).bind (fun u1 => (fX_X4_placeOf_Hash  x1 S).bind (fun u3 => (fX_X4_remove_Hash  u3 S).bind (fun u5 => some (u1, u5))))
def fX_X2_step (x1 x2 : Int32) (S : zSt) : Option (Int32 × zSt) := if x1 = 0 then ((fX_X2_spreadIfFull   S).bind (fun u2 => (fX_X2_putAtHead  x2 u2.2).bind (fun u4 => some ((u2.1 + u4.1), u4.2)))) else (if x1 = 1 then ((fX_X2_seek  x2 S).bind (fun u6 => some (u6, S))) else (if x1 = 2 then ((fX_X2_strike  x2 S).bind (fun u8 => some (u8.1, u8.2))) else (if x1 = 3 then (some (((S.1 26) + (S.1 27)), S)) else (if x1 = 4 then (some (((S.1 26) + (S.1 27)), S)) else (if x1 = 5 then (some (((S.1 26) + (S.1 27)), S)) else (if x1 = 6 then (some (0, S)) else (if x1 = 7 then ((fX_X2_chainOf  x2 S).bind (fun u10 => (fX_X2_headOfChain  (u10 + 1) S).bind (fun u12 => (fX_X2_chainOf  x2 S).bind (fun u14 => (fX_X2_headOfChain  u14 S).bind (fun u16 => some (((1 + u12) - u16), S)))))) else (some (((S.1 26) + (S.1 27)), S)))))))))
def fX_X2_room (S : zSt) : Option (Int32) := some ((S.1 26) + (2 * (S.1 27)))
def fX_X7_take_Hash (x1 x2 : Int32) (S : zSt) : Option (zSt) := if 200 ≤ (S.1 14) then (some S) else ((fX_X2_step  x1 x2 S).bind (fun u2 => zgd (zin (S.1 14) 200) ((fX_X2_room   (zsR u2.2 12 (S.1 14).toNatClampNeg u2.1)).bind (fun u5 => zgd (zin (u2.2.1 14) 200) (some (zsI (zsR (zsR u2.2 12 (S.1 14).toNatClampNeg u2.1) 18 (u2.2.1 14).toNatClampNeg u5) 14 ((u2.2.1 14) + 1)))))))
def fX_X9_seek_62 (x1 x2 x3 : Int32) (S : zSt) : Option (Int32 × zSt) := if x2 = x1 then (some ((x3 + 1), S)) else (some (x3, S))
def fX_X9_seek_58 (K12 : (Int32 → Int32 → Int32 → zSt → Option (Int32 × zSt))) (x1 x3 t0 : Int32) (S : zSt) : Option (Int32 × zSt) := K12 x1 t0 x3 S
def fX_X9_seek_12 : Nat → Int32 → Int32 → Int32 → zSt → Option (Int32 × zSt)
  | 0, _, _, _, _ => none
  | n + 1, x1, x2, x3, S => (fX_X10_isKey  x2 S).bind (fun u1 => if u1 = 0 then (fX_X9_seek_62  x1 x2 x3 S) else (if x2 = x1 then (fX_X9_seek_62  x1 x2 x3 S) else (if 64 ≤ x3 then (fX_X9_seek_62  x1 x2 x3 S) else (if x2 ≤ x1 then (zgd (zin x2 64) (fX_X9_seek_58 (fX_X9_seek_12  n) x1 (x3 + 1) (S.2 41 x2.toNatClampNeg) (zsI S 33 x2))) else (zgd (zin x2 64) (fX_X9_seek_58 (fX_X9_seek_12  n) x1 (x3 + 1) (S.2 40 x2.toNatClampNeg) (zsI S 33 x2)))))))
def fX_X9_seek (x1 : Int32) (S : zSt) : Option (Int32 × zSt) := fX_X9_seek_12  1000 x1 (S.1 31) 0 (zsI S 33 (-1))
def fX_X9_hang (x1 x2 : Int32) (S : zSt) : Option (zSt) := if (S.1 33) = (-1) then (some (zsI S 31 x1)) else (if (S.1 33) ≤ x2 then (zgd (zin (S.1 33) 64) (some (zsR S 41 (S.1 33).toNatClampNeg x1))) else (zgd (zin (S.1 33) 64) (some (zsR S 40 (S.1 33).toNatClampNeg x1))))
def fX_X9_putNode (x1 : Int32) (S : zSt) : Option (Int32 × zSt) := (fX_X9_seek  x1 S).bind (fun u1 => zgd (zin x1 64) (zgd (zin x1 64) (zgd (zin x1 64) (if ((zsR u1.2 38 x1.toNatClampNeg ((u1.2.2 38 x1.toNatClampNeg) + 1)).2 38 x1.toNatClampNeg) ≤ 1 then (zgd (zin x1 64) (zgd (zin x1 64) ((fX_X9_hang  x1 x1 (zsR (zsR (zsR u1.2 38 x1.toNatClampNeg ((u1.2.2 38 x1.toNatClampNeg) + 1)) 40 x1.toNatClampNeg (-1)) 41 x1.toNatClampNeg (-1))).bind (fun u9 => some ((u1.1 + 1), (zsI u9 32 ((u9.1 32) + 1))))))) else (some (u1.1, (zsR u1.2 38 x1.toNatClampNeg ((u1.2.2 38 x1.toNatClampNeg) + 1))))))))
def fX_X9_takeOut_56 (x1 t1 : Int32) (S : zSt) : Option (Int32 × zSt) := (fX_X9_hang  t1 x1 S).bind (fun u1 => some (0, u1))
def fX_X9_takeOut_30 (x1 : Int32) (S : zSt) : Option (Int32 × zSt) := zgd (zin x1 64) (if (S.2 40 x1.toNatClampNeg) = (-1) then (zgd (zin x1 64) (fX_X9_takeOut_56  x1 (S.2 41 x1.toNatClampNeg) S)) else (zgd (zin x1 64) (fX_X9_takeOut_56  x1 (S.2 40 x1.toNatClampNeg) S)))
def fX_X9_takeOut_135 (x1 x3 x4 : Int32) (S : zSt) : Option (Int32 × zSt) := zgd (zin x1 64) (zgd (zin x3 64) ((fX_X9_hang  x3 x1 (zsR S 40 x3.toNatClampNeg (S.2 40 x1.toNatClampNeg))).bind (fun u3 => some (x4, u3))))
def fX_X9_takeOut_106 (x1 x2 x3 x4 : Int32) (S : zSt) : Option (Int32 × zSt) := if x2 = x1 then (fX_X9_takeOut_135  x1 x3 x4 S) else (zgd (zin x3 64) (zgd (zin x2 64) (zgd (zin x1 64) (zgd (zin x3 64) (fX_X9_takeOut_135  x1 x3 x4 (zsR (zsR S 40 x2.toNatClampNeg (S.2 41 x3.toNatClampNeg)) 41 x3.toNatClampNeg (S.2 41 x1.toNatClampNeg)))))))
def fX_X9_takeOut_74 : Nat → Int32 → Int32 → Int32 → Int32 → zSt → Option (Int32 × zSt)
  | 0, _, _, _, _, _ => none
  | n + 1, x1, x2, x3, x4, S => if 64 ≤ x4 then (fX_X9_takeOut_106  x1 x2 x3 x4 S) else (zgd (zin x3 64) (if (S.2 40 x3.toNatClampNeg) = (-1) then (fX_X9_takeOut_106  x1 x2 x3 x4 S) else (zgd (zin x3 64) ((fX_X9_takeOut_74  n) x1 x3 (S.2 40 x3.toNatClampNeg) (x4 + 1) S))))
def fX_X9_takeOut (x1 : Int32) (S : zSt) : Option (Int32 × zSt) := zgd (zin x1 64) (if (S.2 40 x1.toNatClampNeg) = (-1) then (fX_X9_takeOut_30  x1 (zsI S 32 ((S.1 32) - 1))) else (zgd (zin x1 64) (if (S.2 41 x1.toNatClampNeg) = (-1) then (fX_X9_takeOut_30  x1 (zsI S 32 ((S.1 32) - 1))) else (zgd (zin x1 64) (fX_X9_takeOut_74  1000 x1 x1 (S.2 41 x1.toNatClampNeg) 1 (zsI S 32 ((S.1 32) - 1)))))))
def fX_X9_strike (x1 : Int32) (S : zSt) : Option (Int32 × zSt) := (fX_X9_seek  x1 S).bind (fun u1 => zgd (zin x1 64) (if (u1.2.2 38 x1.toNatClampNeg) = 0 then (some (u1.1, u1.2)) else (zgd (zin x1 64) (zgd (zin x1 64) (zgd (zin x1 64) (if ((zsR u1.2 38 x1.toNatClampNeg ((u1.2.2 38 x1.toNatClampNeg) - 1)).2 38 x1.toNatClampNeg) ≤ 0 then ((fX_X9_takeOut  x1 (zsR u1.2 38 x1.toNatClampNeg ((u1.2.2 38 x1.toNatClampNeg) - 1))).bind (fun u9 => some ((u1.1 + u9.1), u9.2))) else (some (u1.1, (zsR u1.2 38 x1.toNatClampNeg ((u1.2.2 38 x1.toNatClampNeg) - 1))))))))))
def fX_X9_seekLeast_7 : Nat → Int32 → Int32 → zSt → Option (Int32)
  | 0, _, _, _ => none
  | n + 1, x1, x2, S => (fX_X10_isKey  x1 S).bind (fun u1 => if u1 = 0 then (some x2) else (if 64 ≤ x2 then (some x2) else (zgd (zin x1 64) ((fX_X9_seekLeast_7  n) (S.2 40 x1.toNatClampNeg) (x2 + 1) S))))
def fX_X9_seekLeast (S : zSt) : Option (Int32) := fX_X9_seekLeast_7  1000 (S.1 31) 0 S
def fX_X9_step (x1 x2 : Int32) (S : zSt) : Option (Int32 × zSt) := if x1 = 0 then ((fX_X9_putNode  x2 S).bind (fun u2 => some (u2.1, u2.2))) else (if x1 = 1 then ((fX_X9_seek  x2 S).bind (fun u4 => some (u4.1, u4.2))) else (if x1 = 2 then ((fX_X9_strike  x2 S).bind (fun u6 => some (u6.1, u6.2))) else (if x1 = 3 then (some ((S.1 32), S)) else (if x1 = 4 then ((fX_X9_seekLeast   S).bind (fun u8 => some (u8, S))) else (if x1 = 5 then ((fX_X9_seek  x2 S).bind (fun u10 => some (u10.1, u10.2))) else (if x1 = 6 then (some (0, S)) else (if x1 = 7 then ((fX_X9_seek  x2 S).bind (fun u12 => some (u12.1, u12.2))) else (some ((S.1 32), S)))))))))
def fX_X9_room (S : zSt) : Option (Int32) := some (4 * (S.1 32))
def fX_X7_take_Tree (x1 x2 : Int32) (S : zSt) : Option (zSt) := if 200 ≤ (S.1 15) then (some S) else ((fX_X9_step  x1 x2 S).bind (fun u2 => zgd (zin (S.1 15) 200) ((fX_X9_room   (zsR u2.2 13 (S.1 15).toNatClampNeg u2.1)).bind (fun u5 => zgd (zin (u2.2.1 15) 200) (some (zsI (zsR (zsR u2.2 13 (S.1 15).toNatClampNeg u2.1) 19 (u2.2.1 15).toNatClampNeg u5) 15 ((u2.2.1 15) + 1)))))))
def fX_X4_growIfFull_Heap (S : zSt) : Option (Int32 × zSt) := if (S.1 30) = (S.1 29) then (some ((S.1 30), (zsI S 29 ((S.1 29) * 2)))) else (some (0, S))
def fX_X4_insert_Heap (x1 x2 : Int32) (S : zSt) : Option (zSt) := if x1 < 0 then (some S) else (if (S.1 30) < x1 then (some S) else (if 200 ≤ (S.1 30) then (some S) else (zgd (zcg x1 (x1 + 1) ((S.1 30) - x1)) (zgd (zin x1 200) (some (zsI (zsR (zcp S 36 36 x1 (x1 + 1) ((S.1 30) - x1)) 36 x1.toNatClampNeg x2) 30 ((S.1 30) + 1)))))))
def fX_X4_append_Heap (x1 : Int32) (S : zSt) : Option (Int32 × zSt) := (fX_X4_growIfFull_Heap   S).bind (fun u1 => (fX_X4_insert_Heap  (u1.2.1 30) x1 u1.2).bind (fun u3 => some ((u1.1 + 1), u3)))
def fX_X3_swap (x1 x2 : Int32) (S : zSt) : Option (zSt) := zgd (zin x1 200) (zgd (zin x2 200) (zgd (zin x1 200) (zgd (zin x2 200) (some (zsR (zsR S 36 x1.toNatClampNeg (S.2 36 x2.toNatClampNeg)) 36 x2.toNatClampNeg (S.2 36 x1.toNatClampNeg))))))
def fX_X3_rise_4 : Nat → Int32 → Int32 → zSt → Option (Int32 × zSt)
  | 0, _, _, _ => none
  | n + 1, x2, x3, S => if x2 ≤ 0 then (some (x3, S)) else (zgd (zin ((x2 - 1) / 2) 200) (zgd (zin x2 200) (if (S.2 36 ((x2 - 1) / 2).toNatClampNeg) ≤ (S.2 36 x2.toNatClampNeg) then (some (x3, S)) else ((fX_X3_swap  x2 ((x2 - 1) / 2) S).bind (fun u5 => (fX_X3_rise_4  n) ((x2 - 1) / 2) (x3 + 1) u5)))))
def fX_X3_rise (x1 : Int32) (S : zSt) : Option (Int32 × zSt) := fX_X3_rise_4  1000 x1 0 S
def fX_X4_placeOf_Heap_2 : Nat → Int32 → Int32 → zSt → Option (Int32)
  | 0, _, _, _ => none
  | n + 1, x1, x2, S => if (S.1 30) ≤ x2 then (some (-1)) else (zgd (zin x2 200) (if (S.2 36 x2.toNatClampNeg) = x1 then (some x2) else ((fX_X4_placeOf_Heap_2  n) x1 (x2 + 1) S)))
def fX_X4_placeOf_Heap (x1 : Int32) (S : zSt) : Option (Int32) := fX_X4_placeOf_Heap_2  1000 x1 0 S
def fX_X4_stepsTo_Heap (x1 : Int32) (S : zSt) : Option (Int32) := if x1 = (-1) then (some (S.1 30)) else (some (x1 + 1))
def fX_X3_lesserChild (x1 : Int32) (S : zSt) : Option (Int32) := if ((2 * x1) + 1) < (S.1 30) then (if (S.1 30) ≤ (((2 * x1) + 1) + 1) then (some ((2 * x1) + 1)) else (zgd (zin (((2 * x1) + 1) + 1) 200) (zgd (zin ((2 * x1) + 1) 200) (if (S.2 36 ((2 * x1) + 1).toNatClampNeg) ≤ (S.2 36 (((2 * x1) + 1) + 1).toNatClampNeg) then (some ((2 * x1) + 1)) else (some (((2 * x1) + 1) + 1)))))) else (some (-1))
def fX_X3_sink_11 : Nat → Int32 → Int32 → Int32 → zSt → Option (Int32 × zSt)
  | 0, _, _, _, _ => none
  | n + 1, x2, x3, x4, S => if (S.1 30) ≤ x4 then (some (x4, S)) else (if x3 = (-1) then (some (x4, S)) else (zgd (zin x3 200) (zgd (zin x2 200) (if (S.2 36 x2.toNatClampNeg) ≤ (S.2 36 x3.toNatClampNeg) then (some (x4, S)) else ((fX_X3_swap  x2 x3 S).bind (fun u6 => (fX_X3_lesserChild  x3 u6).bind (fun u8 => (fX_X3_sink_11  n) x3 u8 (x4 + 1) u6)))))))
def fX_X3_sink (x1 : Int32) (S : zSt) : Option (Int32 × zSt) := (fX_X3_lesserChild  x1 S).bind (fun u1 => fX_X3_sink_11  1000 x1 u1 0 S)
def fX_X3_strike_77 (t0 t1 : Int32) (S : zSt) : Option (Int32 × zSt) := some ((t0 + t1), S)
def fX_X3_strike (x1 : Int32) (S : zSt) : Option (Int32 × zSt) := (fX_X4_placeOf_Heap  x1 S).bind (fun u1 => (fX_X4_stepsTo_Heap  u1 S).bind (fun u3 => if u1 = (-1) then (some (u3, S)) else (if u1 = ((S.1 30) - 1) then (some (u3, (zsI S 30 ((S.1 30) - 1)))) else (zgd (zin ((S.1 30) - 1) 200) (zgd (zin u1 200) ((fX_X3_rise  u1 (zsR (zsI S 30 ((S.1 30) - 1)) 36 u1.toNatClampNeg (S.2 36 ((S.1 30) - 1).toNatClampNeg))).bind (fun u9 => if u9.1 ≤ 0 then ((fX_X3_sink  u1 u9.2).bind (fun u12 => fX_X3_strike_77  u3 u12.1 u12.2)) else (fX_X3_strike_77  u3 u9.1 u9.2))))))))
def fX_X3_step (x1 x2 : Int32) (S : zSt) : Option (Int32 × zSt) := if x1 = 0 then ((fX_X4_append_Heap  x2 S).bind (fun u2 => (fX_X3_rise  ((u2.2.1 30) - 1) u2.2).bind (fun u4 => some ((u2.1 + u4.1), u4.2)))) else (if x1 = 1 then ((fX_X4_placeOf_Heap  x2 S).bind (fun u6 => (fX_X4_stepsTo_Heap  u6 S).bind (fun u8 => some (u8, S)))) else (if x1 = 2 then ((fX_X3_strike  x2 S).bind (fun u10 => some (u10.1, u10.2))) else (if x1 = 3 then (some ((S.1 30), S)) else (if x1 = 4 then (some (1, S)) else (if x1 = 5 then (some ((S.1 30), S)) else (if x1 = 6 then (some (0, S)) else (some ((S.1 30), S))))))))
def fX_X4_room_Heap (S : zSt) : Option (Int32) := some (S.1 29)
def fX_X7_take_Heap (x1 x2 : Int32) (S : zSt) : Option (zSt) := if 200 ≤ (S.1 16) then (some S) else ((fX_X3_step  x1 x2 S).bind (fun u2 => zgd (zin (S.1 16) 200) ((fX_X4_room_Heap   (zsR u2.2 14 (S.1 16).toNatClampNeg u2.1)).bind (fun u5 => zgd (zin (u2.2.1 16) 200) (some (zsI (zsR (zsR u2.2 14 (S.1 16).toNatClampNeg u2.1) 20 (u2.2.1 16).toNatClampNeg u5) 16 ((u2.2.1 16) + 1)))))))
def fX_X0_lookFrom_23 (x1 x2 : Int32) (S : zSt) : Option (Int32) := some ((x2 - x1) + 1)
def fX_X0_lookFrom_2 : Nat → Int32 → Int32 → zSt → Option (Int32)
  | 0, _, _, _ => none
  | n + 1, x1, x2, S => if 63 ≤ x2 then (fX_X0_lookFrom_23  x1 x2 S) else (zgd (zin x2 64) (if (S.2 39 x2.toNatClampNeg) = 0 then ((fX_X0_lookFrom_2  n) x1 (x2 + 1) S) else (fX_X0_lookFrom_23  x1 x2 S)))
def fX_X0_lookFrom (x1 : Int32) (S : zSt) : Option (Int32) := fX_X0_lookFrom_2  1000 x1 x1 S
def fX_X0_step (x1 x2 : Int32) (S : zSt) : Option (Int32 × zSt) := if x1 = 0 then (zgd (zin x2 64) (zgd (zin x2 64) (some (1, (zsR S 39 x2.toNatClampNeg ((S.2 39 x2.toNatClampNeg) + 1)))))) else (if x1 = 1 then (some (1, S)) else (if x1 = 2 then (zgd (zin x2 64) (zgd (zin x2 64) (some (1, (zsR S 39 x2.toNatClampNeg (zmax ((S.2 39 x2.toNatClampNeg) - 1) 0)))))) else (if x1 = 3 then (some (64, S)) else (if x1 = 4 then ((fX_X0_lookFrom  0 S).bind (fun u6 => some (u6, S))) else (if x1 = 5 then ((fX_X0_lookFrom  x2 S).bind (fun u8 => some (u8, S))) else (if x1 = 6 then (some (0, S)) else (some (1, S))))))))
def fX_X0_room (S : zSt) : Option (Int32) := some 64
def fX_X7_take_Bits (x1 x2 : Int32) (S : zSt) : Option (zSt) := if 200 ≤ (S.1 17) then (some S) else ((fX_X0_step  x1 x2 S).bind (fun u2 => zgd (zin (S.1 17) 200) ((fX_X0_room   (zsR u2.2 15 (S.1 17).toNatClampNeg u2.1)).bind (fun u5 => zgd (zin (u2.2.1 17) 200) (some (zsI (zsR (zsR u2.2 15 (S.1 17).toNatClampNeg u2.1) 21 (u2.2.1 17).toNatClampNeg u5) 17 ((u2.2.1 17) + 1)))))))
def fX_X10_lay_81 (K61 : (Int32 → Int32 → Int32 → Int32 → zSt → Option (zSt))) (x1 x2 x4 x5 : Int32) (S : zSt) : Option (zSt) := K61 x1 x2 x4 (x5 + 1) S
def fX_d_take (j : Nat) (a0 a1 : Int32) (S : zSt) : Option (zSt) := if j = 0 then fX_X7_take_Row a0 a1 S else if j = 1 then fX_X7_take_Sorted a0 a1 S else if j = 2 then fX_X7_take_Hash a0 a1 S else if j = 3 then fX_X7_take_Tree a0 a1 S else if j = 4 then fX_X7_take_Heap a0 a1 S else fX_X7_take_Bits a0 a1 S
theorem fX_d_take_0 {a0 a1 : Int32} {S : zSt} : fX_d_take 0 a0 a1 S = fX_X7_take_Row a0 a1 S := by
  unfold fX_d_take
  rw [if_pos rfl]
theorem fX_d_take_1 {a0 a1 : Int32} {S : zSt} : fX_d_take 1 a0 a1 S = fX_X7_take_Sorted a0 a1 S := by
  unfold fX_d_take
  rw [if_neg (by decide), if_pos rfl]
theorem fX_d_take_2 {a0 a1 : Int32} {S : zSt} : fX_d_take 2 a0 a1 S = fX_X7_take_Hash a0 a1 S := by
  unfold fX_d_take
  rw [if_neg (by decide), if_neg (by decide), if_pos rfl]
theorem fX_d_take_3 {a0 a1 : Int32} {S : zSt} : fX_d_take 3 a0 a1 S = fX_X7_take_Tree a0 a1 S := by
  unfold fX_d_take
  rw [if_neg (by decide), if_neg (by decide), if_neg (by decide), if_pos rfl]
theorem fX_d_take_4 {a0 a1 : Int32} {S : zSt} : fX_d_take 4 a0 a1 S = fX_X7_take_Heap a0 a1 S := by
  unfold fX_d_take
  rw [if_neg (by decide), if_neg (by decide), if_neg (by decide), if_neg (by decide), if_pos rfl]
theorem fX_d_take_5 {a0 a1 : Int32} {S : zSt} : fX_d_take 5 a0 a1 S = fX_X7_take_Bits a0 a1 S := by
  unfold fX_d_take
  rw [if_neg (by decide), if_neg (by decide), if_neg (by decide), if_neg (by decide), if_neg (by decide)]
def fX_X10_lay_72 (K61 : (Int32 → Int32 → Int32 → Int32 → zSt → Option (zSt))) (k0 : Nat) (x1 x2 x4 x5 : Int32) (S : zSt) : Option (zSt) := (fX_d_take k0  x1 x2 S).bind (fun u1 => fX_X10_lay_81 K61 x1 x2 x4 x5 u1)
def fX_X10_lay_61 : Nat → Int32 → Int32 → Int32 → Int32 → zSt → Option (zSt)
  | 0, _, _, _, _, _ => none
  | n + 1, x1, x2, x4, x5, S => if x4 ≤ x5 then (zgd (zin (S.1 0) 200) (some (zsI (zsI (zsR S 31 (S.1 0).toNatClampNeg (S.1 20)) 0 ((S.1 0) + 1)) 5 0))) else (zgd (zin x5 6) (fX_X10_lay_72 (fX_X10_lay_61  n) x5.toNatClampNeg x1 x2 x4 x5 S))
def fX_X10_lay (x1 x2 : Int32) (S : zSt) : Option (zSt) := if (S.1 0) < 200 then (zgd (zin (S.1 0) 200) (zgd (zin (S.1 0) 200) ((fX_X6_answerTo  x1 x2 (zsR (zsR S 28 (S.1 0).toNatClampNeg x1) 29 (S.1 0).toNatClampNeg x2)).bind (fun u4 => zgd (zin (S.1 0) 200) (fX_X10_lay_61  1000 x1 x2 6 0 (zsR (zsR (zsR S 28 (S.1 0).toNatClampNeg x1) 29 (S.1 0).toNatClampNeg x2) 30 (S.1 0).toNatClampNeg u4)))))) else (some S)
def fX_X10_call (x1 x2 : Int32) (S : zSt) : Option (Int32 × zSt) := if x1 < 0 then (some ((-1), S)) else (if 8 ≤ x1 then (some ((-1), S)) else ((fX_X10_isKey  x2 S).bind (fun u3 => if u3 = 0 then (some ((-1), S)) else (if (S.1 0) < 200 then ((fX_X10_lay  x1 x2 S).bind (fun u7 => some (((u7.1 0) - 1), u7))) else (some ((-1), S))))))
def fX_X10_drawnAfter (x0 : Int32) (S : zSt) : Option (Int32) := some ((x0 * 1103515245) + 12345)
def fX_X10_draw_102 (K54 : (Int32 → Int32 → Int32 → Int32 → Int32 → zSt → Option (Int32 × zSt))) (x2 x3 x4 x5 x6 t1 : Int32) (S : zSt) : Option (Int32 × zSt) := zgd (znz x3) ((fX_X10_lay  t1 (zrem (zush x5 16) x3) S).bind (fun u2 => K54 x2 x3 x4 x5 (x6 + 1) u2))
def fX_X10_draw_54 : Nat → Int32 → Int32 → Int32 → Int32 → Int32 → zSt → Option (Int32 × zSt)
  | 0, _, _, _, _, _, _ => none
  | n + 1, x2, x3, x4, x5, x6, S => if x2 ≤ x6 then (some ((S.1 0), S)) else ((fX_X10_drawnAfter  x5 S).bind (fun u2 => (fX_X10_drawnAfter  u2 S).bind (fun u4 => if ((x4 >>> ((zrem (zush u2 16) 8) &&& 31)) &&& 1) = 1 then (fX_X10_draw_102 (fX_X10_draw_54  n) x2 x3 x4 u4 x6 (zrem (zush u2 16) 8) S) else (fX_X10_draw_102 (fX_X10_draw_54  n) x2 x3 x4 u4 x6 0 S))))
def fX_X10_draw (x1 x2 x3 x4 : Int32) (S : zSt) : Option (Int32 × zSt) := if x2 < 0 then (some ((-1), S)) else (if 100 < x2 then (some ((-1), S)) else (if x3 < 1 then (some ((-1), S)) else (if 64 < x3 then (some ((-1), S)) else (if x4 < 0 then (some ((-1), S)) else (if 255 < x4 then (some ((-1), S)) else (if x2 ≤ (200 - (S.1 0)) then (fX_X10_draw_54  1000 x2 x3 x4 x1 0 S) else (some ((-1), S))))))))
def fX_X4_clear_Row (S : zSt) : Option (zSt) := some (zsI (zsI S 19 (S.1 18)) 20 0)
def fX_X7_restart_Row (S : zSt) : Option (zSt) := (fX_X4_clear_Row   (zsI S 12 0)).bind (fun u1 => some u1)
def fX_X4_clear_Sorted (S : zSt) : Option (zSt) := some (zsI (zsI S 22 (S.1 21)) 23 0)
def fX_X7_restart_Sorted (S : zSt) : Option (zSt) := (fX_X4_clear_Sorted   (zsI S 13 0)).bind (fun u1 => some u1)
def fX_X4_clear_Hash (S : zSt) : Option (zSt) := some (zsI (zsI S 26 (S.1 25)) 27 0)
def fX_X7_restart_Hash (S : zSt) : Option (zSt) := (fX_X4_clear_Hash   (zsI S 14 0)).bind (fun u1 => some u1)
def fX_J7_fill_53178_38_5 : Nat → Int32 → Int32 → Int32 → zSt → Option (zSt)
  | 0, _, _, _, _ => none
  | n + 1, x1, x2, x3, S => if x3 ≤ x2 then (some S) else (zgd (zin x2 64) ((fX_J7_fill_53178_38_5  n) x1 (x2 + 1) x3 (zsR S 38 x2.toNatClampNeg x1)))
def fX_J7_fill_53178_38 (x1 : Int32) (S : zSt) : Option (zSt) := fX_J7_fill_53178_38_5  1000 x1 0 64 S
def fX_X1_clear_Tree (S : zSt) : Option (zSt) := (fX_J7_fill_53178_38  0 S).bind (fun u1 => some u1)
def fX_X9_clear (S : zSt) : Option (zSt) := (fX_X1_clear_Tree   S).bind (fun u1 => some (zsI (zsI u1 31 (-1)) 32 0))
def fX_X7_restart_Tree (S : zSt) : Option (zSt) := (fX_X9_clear   (zsI S 15 0)).bind (fun u1 => some u1)
def fX_X4_clear_Heap (S : zSt) : Option (zSt) := some (zsI (zsI S 29 (S.1 28)) 30 0)
def fX_X7_restart_Heap (S : zSt) : Option (zSt) := (fX_X4_clear_Heap   (zsI S 16 0)).bind (fun u1 => some u1)
def fX_J7_fill_53178_39_5 : Nat → Int32 → Int32 → Int32 → zSt → Option (zSt)
  | 0, _, _, _, _ => none
  | n + 1, x1, x2, x3, S => if x3 ≤ x2 then (some S) else (zgd (zin x2 64) ((fX_J7_fill_53178_39_5  n) x1 (x2 + 1) x3 (zsR S 39 x2.toNatClampNeg x1)))
def fX_J7_fill_53178_39 (x1 : Int32) (S : zSt) : Option (zSt) := fX_J7_fill_53178_39_5  1000 x1 0 64 S
def fX_X1_clear_Bits (S : zSt) : Option (zSt) := (fX_J7_fill_53178_39  0 S).bind (fun u1 => some u1)
def fX_X7_restart_Bits (S : zSt) : Option (zSt) := (fX_X1_clear_Bits   (zsI S 17 0)).bind (fun u1 => some u1)
def fX_X10_layAnew_d_30 (K6 : (Nat → Int32 → zSt → Option (zSt))) (j1 : Nat) (x2 : Int32) (S : zSt) : Option (zSt) := K6 j1 (x2 + 1) S
def fX_X10_layAnew_d_6 : Nat → Nat → Int32 → zSt → Option (zSt)
  | 0, _, _, _ => none
  | n + 1, j1, x2, S => if (S.1 0) ≤ x2 then (some S) else (zgd (zin x2 200) (zgd (zin x2 200) ((fX_d_take j1  (S.2 28 x2.toNatClampNeg) (S.2 29 x2.toNatClampNeg) S).bind (fun u4 => fX_X10_layAnew_d_30 (fX_X10_layAnew_d_6  n) j1 x2 u4))))
def fX_X10_layAnew_d_4 (j1 : Nat) (S : zSt) : Option (zSt) := fX_X10_layAnew_d_6  1000 j1 0 S
def fX_d_restart (j : Nat) (S : zSt) : Option (zSt) := if j = 0 then fX_X7_restart_Row  S else if j = 1 then fX_X7_restart_Sorted  S else if j = 2 then fX_X7_restart_Hash  S else if j = 3 then fX_X7_restart_Tree  S else if j = 4 then fX_X7_restart_Heap  S else fX_X7_restart_Bits  S
theorem fX_d_restart_0 {S : zSt} : fX_d_restart 0  S = fX_X7_restart_Row  S := by
  unfold fX_d_restart
  rw [if_pos rfl]
theorem fX_d_restart_1 {S : zSt} : fX_d_restart 1  S = fX_X7_restart_Sorted  S := by
  unfold fX_d_restart
  rw [if_neg (by decide), if_pos rfl]
theorem fX_d_restart_2 {S : zSt} : fX_d_restart 2  S = fX_X7_restart_Hash  S := by
  unfold fX_d_restart
  rw [if_neg (by decide), if_neg (by decide), if_pos rfl]
theorem fX_d_restart_3 {S : zSt} : fX_d_restart 3  S = fX_X7_restart_Tree  S := by
  unfold fX_d_restart
  rw [if_neg (by decide), if_neg (by decide), if_neg (by decide), if_pos rfl]
theorem fX_d_restart_4 {S : zSt} : fX_d_restart 4  S = fX_X7_restart_Heap  S := by
  unfold fX_d_restart
  rw [if_neg (by decide), if_neg (by decide), if_neg (by decide), if_neg (by decide), if_pos rfl]
theorem fX_d_restart_5 {S : zSt} : fX_d_restart 5  S = fX_X7_restart_Bits  S := by
  unfold fX_d_restart
  rw [if_neg (by decide), if_neg (by decide), if_neg (by decide), if_neg (by decide), if_neg (by decide)]
def fX_X10_layAnew_d (j1 : Nat) (S : zSt) : Option (zSt) := (fX_d_restart j1   S).bind (fun u1 => fX_X10_layAnew_d_4  j1 u1)
def fX_X10_drop_54 (K44 : (Int32 → Int32 → zSt → Option (Int32 × zSt))) (k0 : Nat) (x3 x4 : Int32) (S : zSt) : Option (Int32 × zSt) := (fX_X10_layAnew_d k0  S).bind (fun u1 => K44 x3 (x4 + 1) u1)
def fX_X10_drop_44 : Nat → Int32 → Int32 → zSt → Option (Int32 × zSt)
  | 0, _, _, _ => none
  | n + 1, x3, x4, S => if x3 ≤ x4 then (some ((S.1 0), S)) else (zgd (zin x4 6) (fX_X10_drop_54 (fX_X10_drop_44  n) x4.toNatClampNeg x3 x4 S))
def fX_X10_drop (x1 : Int32) (S : zSt) : Option (Int32 × zSt) := if x1 < 0 then (some ((-1), S)) else (if x1 ≤ (S.1 0) then (if x1 ≤ 0 then (some ((S.1 0), S)) else (fX_X10_drop_44  1000 6 0 (zsI (zsI S 0 ((S.1 0) - x1)) 5 0))) else (some ((-1), S)))
def fX_X10_law_30 (S : zSt) : Option (Int32 × zSt) := some (1, (zsI S 5 0))
def fX_X10_law_12 (x1 x2 : Int32) (S : zSt) : Option (Int32 × zSt) := if x1 = 1 then (zgd (zbo x2) (fX_X10_law_30  (zsI S 1 x2))) else (zgd (zbo x2) (fX_X10_law_30  (zsI S 2 x2)))
def fX_X10_law (x1 x2 : Int32) (S : zSt) : Option (Int32 × zSt) := if x1 = 1 then (fX_X10_law_12  x1 x2 S) else (if x1 = 2 then (fX_X10_law_12  x1 x2 S) else (some (0, S)))
def fX_X10_set_55 (x3 : Int32) (S : zSt) : Option (Int32 × zSt) := some (x3, (zsI S 5 0))
def fX_X10_set_37 (x1 x2 t0 : Int32) (S : zSt) : Option (Int32 × zSt) := if x1 = 0 then (fX_X10_set_55  t0 (zsI S 3 x2)) else (fX_X10_set_55  t0 (zsI S 4 x2))
def fX_X10_set (x1 x2 : Int32) (S : zSt) : Option (Int32 × zSt) := if x1 < 0 then (some ((-1), S)) else (if 1 < x1 then (some ((-1), S)) else (if x2 < 0 then (some ((-1), S)) else (if x2 ≤ 1000 then (if x1 = 0 then (fX_X10_set_37  x1 x2 (S.1 3) S) else (fX_X10_set_37  x1 x2 (S.1 4) S)) else (some ((-1), S)))))
def fX_X10_isCall (x1 : Int32) (S : zSt) : Option (Int32) := if x1 < 0 then (some 0) else (if (S.1 0) ≤ x1 then (some 0) else (some 1))
def fX_X10_told (x1 x2 : Int32) (S : zSt) : Option (Int32) := (fX_X10_isCall  x1 S).bind (fun u1 => if u1 = 0 then (some (-1)) else (if x2 = 0 then (zgd (zin x1 200) (some (S.2 28 x1.toNatClampNeg))) else (if x2 = 1 then (zgd (zin x1 200) (some (S.2 29 x1.toNatClampNeg))) else (if x2 = 2 then (zgd (zin x1 200) (some (S.2 31 x1.toNatClampNeg))) else (some (-1))))))
def fX_X10_isShelf (x0 : Int32) (S : zSt) : Option (Int32) := if x0 < 0 then (some 0) else (if 6 ≤ x0 then (some 0) else (some 1))
def fX_X10_cost (x1 x2 : Int32) (S : zSt) : Option (Int32) := (fX_X10_isShelf  x1 S).bind (fun u1 => if u1 = 0 then (some (-1)) else ((fX_X10_isCall  x2 S).bind (fun u4 => if u4 = 0 then (some (-1)) else (zgd (zin x1 6) (zgd (zin x2 200) (some (S.2 (10 + x1.toNatClampNeg) x2.toNatClampNeg)))))))
def fX_X4_keyAt_Hash (x1 : Int32) (S : zSt) : Option (Int32) := if x1 < 0 then (some (-1)) else (if (S.1 27) ≤ x1 then (some (-1)) else (zgd (zin x1 200) (some (S.2 35 x1.toNatClampNeg))))
def fX_X1_keyAt_Tree_4 : Nat → Int32 → Int32 → Int32 → zSt → Option (Int32)
  | 0, _, _, _, _ => none
  | n + 1, x1, x2, x3, S => if 64 ≤ x3 then (some (-1)) else (zgd (zin x3 64) (if x1 < 0 then ((fX_X1_keyAt_Tree_4  n) x1 (x2 + (S.2 38 x3.toNatClampNeg)) (x3 + 1) S) else (if (x2 + (S.2 38 x3.toNatClampNeg)) ≤ x1 then ((fX_X1_keyAt_Tree_4  n) x1 (x2 + (S.2 38 x3.toNatClampNeg)) (x3 + 1) S) else (some x3))))
def fX_X1_keyAt_Tree (x1 : Int32) (S : zSt) : Option (Int32) := fX_X1_keyAt_Tree_4  1000 x1 0 0 S
def fX_X4_keyAt_Heap (x1 : Int32) (S : zSt) : Option (Int32) := if x1 < 0 then (some (-1)) else (if (S.1 30) ≤ x1 then (some (-1)) else (zgd (zin x1 200) (some (S.2 36 x1.toNatClampNeg))))
def fX_X1_keyAt_Bits_4 : Nat → Int32 → Int32 → Int32 → zSt → Option (Int32)
  | 0, _, _, _, _ => none
  | n + 1, x1, x2, x3, S => if 64 ≤ x3 then (some (-1)) else (zgd (zin x3 64) (if x1 < 0 then ((fX_X1_keyAt_Bits_4  n) x1 (x2 + (S.2 39 x3.toNatClampNeg)) (x3 + 1) S) else (if (x2 + (S.2 39 x3.toNatClampNeg)) ≤ x1 then ((fX_X1_keyAt_Bits_4  n) x1 (x2 + (S.2 39 x3.toNatClampNeg)) (x3 + 1) S) else (some x3))))
def fX_X1_keyAt_Bits (x1 : Int32) (S : zSt) : Option (Int32) := fX_X1_keyAt_Bits_4  1000 x1 0 0 S
def fX_X10_key_32 (t0 : Int32) (S : zSt) : Option (Int32) := some t0
def fX_d_keyAt (j : Nat) (a0 : Int32) (S : zSt) : Option (Int32) := if j = 0 then fX_X4_keyAt_Row a0 S else if j = 1 then fX_X4_keyAt_Sorted a0 S else if j = 2 then fX_X4_keyAt_Hash a0 S else if j = 3 then fX_X1_keyAt_Tree a0 S else if j = 4 then fX_X4_keyAt_Heap a0 S else fX_X1_keyAt_Bits a0 S
theorem fX_d_keyAt_0 {a0 : Int32} {S : zSt} : fX_d_keyAt 0 a0 S = fX_X4_keyAt_Row a0 S := by
  unfold fX_d_keyAt
  rw [if_pos rfl]
theorem fX_d_keyAt_1 {a0 : Int32} {S : zSt} : fX_d_keyAt 1 a0 S = fX_X4_keyAt_Sorted a0 S := by
  unfold fX_d_keyAt
  rw [if_neg (by decide), if_pos rfl]
theorem fX_d_keyAt_2 {a0 : Int32} {S : zSt} : fX_d_keyAt 2 a0 S = fX_X4_keyAt_Hash a0 S := by
  unfold fX_d_keyAt
  rw [if_neg (by decide), if_neg (by decide), if_pos rfl]
theorem fX_d_keyAt_3 {a0 : Int32} {S : zSt} : fX_d_keyAt 3 a0 S = fX_X1_keyAt_Tree a0 S := by
  unfold fX_d_keyAt
  rw [if_neg (by decide), if_neg (by decide), if_neg (by decide), if_pos rfl]
theorem fX_d_keyAt_4 {a0 : Int32} {S : zSt} : fX_d_keyAt 4 a0 S = fX_X4_keyAt_Heap a0 S := by
  unfold fX_d_keyAt
  rw [if_neg (by decide), if_neg (by decide), if_neg (by decide), if_neg (by decide), if_pos rfl]
theorem fX_d_keyAt_5 {a0 : Int32} {S : zSt} : fX_d_keyAt 5 a0 S = fX_X1_keyAt_Bits a0 S := by
  unfold fX_d_keyAt
  rw [if_neg (by decide), if_neg (by decide), if_neg (by decide), if_neg (by decide), if_neg (by decide)]
def fX_X10_key_28 (k0 : Nat) (x2 : Int32) (S : zSt) : Option (Int32) := (fX_d_keyAt k0  x2 S).bind (fun u1 => fX_X10_key_32  u1 S)
def fX_X10_key (x1 x2 : Int32) (S : zSt) : Option (Int32) := (fX_X10_isShelf  x1 S).bind (fun u1 => if u1 = 0 then (some (-1)) else (if x2 < 0 then (some (-1)) else (if (S.1 20) ≤ x2 then (some (-1)) else (zgd (zin x1 6) (fX_X10_key_28  x1.toNatClampNeg x2 S)))))
def fX_X7_stepsSince_Row_8 : Nat → Int32 → Int32 → zSt → Option (Int32)
  | 0, _, _, _ => none
  | n + 1, x2, x3, S => if (S.1 12) ≤ x3 then (some x2) else (zgd (zin x3 200) ((fX_X7_stepsSince_Row_8  n) (x2 + (S.2 10 x3.toNatClampNeg)) (x3 + 1) S))
def fX_X7_stepsSince_Row (x1 : Int32) (S : zSt) : Option (Int32) := fX_X7_stepsSince_Row_8  1000 0 (zmax x1 0) S
def fX_X7_stepsSince_Sorted_8 : Nat → Int32 → Int32 → zSt → Option (Int32)
  | 0, _, _, _ => none
  | n + 1, x2, x3, S => if (S.1 13) ≤ x3 then (some x2) else (zgd (zin x3 200) ((fX_X7_stepsSince_Sorted_8  n) (x2 + (S.2 11 x3.toNatClampNeg)) (x3 + 1) S))
def fX_X7_stepsSince_Sorted (x1 : Int32) (S : zSt) : Option (Int32) := fX_X7_stepsSince_Sorted_8  1000 0 (zmax x1 0) S
def fX_X7_stepsSince_Hash_8 : Nat → Int32 → Int32 → zSt → Option (Int32)
  | 0, _, _, _ => none
  | n + 1, x2, x3, S => if (S.1 14) ≤ x3 then (some x2) else (zgd (zin x3 200) ((fX_X7_stepsSince_Hash_8  n) (x2 + (S.2 12 x3.toNatClampNeg)) (x3 + 1) S))
def fX_X7_stepsSince_Hash (x1 : Int32) (S : zSt) : Option (Int32) := fX_X7_stepsSince_Hash_8  1000 0 (zmax x1 0) S
def fX_X7_stepsSince_Tree_8 : Nat → Int32 → Int32 → zSt → Option (Int32)
  | 0, _, _, _ => none
  | n + 1, x2, x3, S => if (S.1 15) ≤ x3 then (some x2) else (zgd (zin x3 200) ((fX_X7_stepsSince_Tree_8  n) (x2 + (S.2 13 x3.toNatClampNeg)) (x3 + 1) S))
def fX_X7_stepsSince_Tree (x1 : Int32) (S : zSt) : Option (Int32) := fX_X7_stepsSince_Tree_8  1000 0 (zmax x1 0) S
def fX_X7_stepsSince_Heap_8 : Nat → Int32 → Int32 → zSt → Option (Int32)
  | 0, _, _, _ => none
  | n + 1, x2, x3, S => if (S.1 16) ≤ x3 then (some x2) else (zgd (zin x3 200) ((fX_X7_stepsSince_Heap_8  n) (x2 + (S.2 14 x3.toNatClampNeg)) (x3 + 1) S))
def fX_X7_stepsSince_Heap (x1 : Int32) (S : zSt) : Option (Int32) := fX_X7_stepsSince_Heap_8  1000 0 (zmax x1 0) S
def fX_X7_stepsSince_Bits_8 : Nat → Int32 → Int32 → zSt → Option (Int32)
  | 0, _, _, _ => none
  | n + 1, x2, x3, S => if (S.1 17) ≤ x3 then (some x2) else (zgd (zin x3 200) ((fX_X7_stepsSince_Bits_8  n) (x2 + (S.2 15 x3.toNatClampNeg)) (x3 + 1) S))
def fX_X7_stepsSince_Bits (x1 : Int32) (S : zSt) : Option (Int32) := fX_X7_stepsSince_Bits_8  1000 0 (zmax x1 0) S
def fX_X7_worstCall_Row_32 (K4 : (Int32 → Int32 → zSt → Option (Int32))) (x2 : Int32) (S : zSt) : Option (Int32) := K4 x2 (x2 + 1) S
def fX_X7_worstCall_Row_4 : Nat → Int32 → Int32 → zSt → Option (Int32)
  | 0, _, _, _ => none
  | n + 1, x1, x2, S => if (S.1 12) ≤ x2 then (some x1) else (if x1 = (-1) then (fX_X7_worstCall_Row_32 (fX_X7_worstCall_Row_4  n) x2 S) else (zgd (zin x2 200) (zgd (zin x1 200) (if (S.2 10 x2.toNatClampNeg) ≤ (S.2 10 x1.toNatClampNeg) then ((fX_X7_worstCall_Row_4  n) x1 (x2 + 1) S) else (fX_X7_worstCall_Row_32 (fX_X7_worstCall_Row_4  n) x2 S)))))
def fX_X7_worstCall_Row (S : zSt) : Option (Int32) := fX_X7_worstCall_Row_4  1000 (-1) 0 S
def fX_X7_worstSteps_Row (S : zSt) : Option (Int32) := (fX_X7_worstCall_Row   S).bind (fun u1 => if u1 = (-1) then (some 0) else (zgd (zin u1 200) (some (S.2 10 u1.toNatClampNeg))))
def fX_X7_worstCall_Sorted_32 (K4 : (Int32 → Int32 → zSt → Option (Int32))) (x2 : Int32) (S : zSt) : Option (Int32) := K4 x2 (x2 + 1) S
def fX_X7_worstCall_Sorted_4 : Nat → Int32 → Int32 → zSt → Option (Int32)
  | 0, _, _, _ => none
  | n + 1, x1, x2, S => if (S.1 13) ≤ x2 then (some x1) else (if x1 = (-1) then (fX_X7_worstCall_Sorted_32 (fX_X7_worstCall_Sorted_4  n) x2 S) else (zgd (zin x2 200) (zgd (zin x1 200) (if (S.2 11 x2.toNatClampNeg) ≤ (S.2 11 x1.toNatClampNeg) then ((fX_X7_worstCall_Sorted_4  n) x1 (x2 + 1) S) else (fX_X7_worstCall_Sorted_32 (fX_X7_worstCall_Sorted_4  n) x2 S)))))
def fX_X7_worstCall_Sorted (S : zSt) : Option (Int32) := fX_X7_worstCall_Sorted_4  1000 (-1) 0 S
def fX_X7_worstSteps_Sorted (S : zSt) : Option (Int32) := (fX_X7_worstCall_Sorted   S).bind (fun u1 => if u1 = (-1) then (some 0) else (zgd (zin u1 200) (some (S.2 11 u1.toNatClampNeg))))
def fX_X7_worstCall_Hash_32 (K4 : (Int32 → Int32 → zSt → Option (Int32))) (x2 : Int32) (S : zSt) : Option (Int32) := K4 x2 (x2 + 1) S
def fX_X7_worstCall_Hash_4 : Nat → Int32 → Int32 → zSt → Option (Int32)
  | 0, _, _, _ => none
  | n + 1, x1, x2, S => if (S.1 14) ≤ x2 then (some x1) else (if x1 = (-1) then (fX_X7_worstCall_Hash_32 (fX_X7_worstCall_Hash_4  n) x2 S) else (zgd (zin x2 200) (zgd (zin x1 200) (if (S.2 12 x2.toNatClampNeg) ≤ (S.2 12 x1.toNatClampNeg) then ((fX_X7_worstCall_Hash_4  n) x1 (x2 + 1) S) else (fX_X7_worstCall_Hash_32 (fX_X7_worstCall_Hash_4  n) x2 S)))))
def fX_X7_worstCall_Hash (S : zSt) : Option (Int32) := fX_X7_worstCall_Hash_4  1000 (-1) 0 S
def fX_X7_worstSteps_Hash (S : zSt) : Option (Int32) := (fX_X7_worstCall_Hash   S).bind (fun u1 => if u1 = (-1) then (some 0) else (zgd (zin u1 200) (some (S.2 12 u1.toNatClampNeg))))
def fX_X7_worstCall_Tree_32 (K4 : (Int32 → Int32 → zSt → Option (Int32))) (x2 : Int32) (S : zSt) : Option (Int32) := K4 x2 (x2 + 1) S
def fX_X7_worstCall_Tree_4 : Nat → Int32 → Int32 → zSt → Option (Int32)
  | 0, _, _, _ => none
  | n + 1, x1, x2, S => if (S.1 15) ≤ x2 then (some x1) else (if x1 = (-1) then (fX_X7_worstCall_Tree_32 (fX_X7_worstCall_Tree_4  n) x2 S) else (zgd (zin x2 200) (zgd (zin x1 200) (if (S.2 13 x2.toNatClampNeg) ≤ (S.2 13 x1.toNatClampNeg) then ((fX_X7_worstCall_Tree_4  n) x1 (x2 + 1) S) else (fX_X7_worstCall_Tree_32 (fX_X7_worstCall_Tree_4  n) x2 S)))))
def fX_X7_worstCall_Tree (S : zSt) : Option (Int32) := fX_X7_worstCall_Tree_4  1000 (-1) 0 S
def fX_X7_worstSteps_Tree (S : zSt) : Option (Int32) := (fX_X7_worstCall_Tree   S).bind (fun u1 => if u1 = (-1) then (some 0) else (zgd (zin u1 200) (some (S.2 13 u1.toNatClampNeg))))
def fX_X7_worstCall_Heap_32 (K4 : (Int32 → Int32 → zSt → Option (Int32))) (x2 : Int32) (S : zSt) : Option (Int32) := K4 x2 (x2 + 1) S
def fX_X7_worstCall_Heap_4 : Nat → Int32 → Int32 → zSt → Option (Int32)
  | 0, _, _, _ => none
  | n + 1, x1, x2, S => if (S.1 16) ≤ x2 then (some x1) else (if x1 = (-1) then (fX_X7_worstCall_Heap_32 (fX_X7_worstCall_Heap_4  n) x2 S) else (zgd (zin x2 200) (zgd (zin x1 200) (if (S.2 14 x2.toNatClampNeg) ≤ (S.2 14 x1.toNatClampNeg) then ((fX_X7_worstCall_Heap_4  n) x1 (x2 + 1) S) else (fX_X7_worstCall_Heap_32 (fX_X7_worstCall_Heap_4  n) x2 S)))))
def fX_X7_worstCall_Heap (S : zSt) : Option (Int32) := fX_X7_worstCall_Heap_4  1000 (-1) 0 S
def fX_X7_worstSteps_Heap (S : zSt) : Option (Int32) := (fX_X7_worstCall_Heap   S).bind (fun u1 => if u1 = (-1) then (some 0) else (zgd (zin u1 200) (some (S.2 14 u1.toNatClampNeg))))
def fX_X7_worstCall_Bits_32 (K4 : (Int32 → Int32 → zSt → Option (Int32))) (x2 : Int32) (S : zSt) : Option (Int32) := K4 x2 (x2 + 1) S
def fX_X7_worstCall_Bits_4 : Nat → Int32 → Int32 → zSt → Option (Int32)
  | 0, _, _, _ => none
  | n + 1, x1, x2, S => if (S.1 17) ≤ x2 then (some x1) else (if x1 = (-1) then (fX_X7_worstCall_Bits_32 (fX_X7_worstCall_Bits_4  n) x2 S) else (zgd (zin x2 200) (zgd (zin x1 200) (if (S.2 15 x2.toNatClampNeg) ≤ (S.2 15 x1.toNatClampNeg) then ((fX_X7_worstCall_Bits_4  n) x1 (x2 + 1) S) else (fX_X7_worstCall_Bits_32 (fX_X7_worstCall_Bits_4  n) x2 S)))))
def fX_X7_worstCall_Bits (S : zSt) : Option (Int32) := fX_X7_worstCall_Bits_4  1000 (-1) 0 S
def fX_X7_worstSteps_Bits (S : zSt) : Option (Int32) := (fX_X7_worstCall_Bits   S).bind (fun u1 => if u1 = (-1) then (some 0) else (zgd (zin u1 200) (some (S.2 15 u1.toNatClampNeg))))
def fX_X7_greatestRoom_Row_4 : Nat → Int32 → Int32 → zSt → Option (Int32)
  | 0, _, _, _ => none
  | n + 1, x1, x2, S => if (S.1 12) ≤ x2 then (some x1) else (zgd (zin x2 200) ((fX_X7_greatestRoom_Row_4  n) (zmax x1 (S.2 16 x2.toNatClampNeg)) (x2 + 1) S))
def fX_X7_greatestRoom_Row (S : zSt) : Option (Int32) := fX_X7_greatestRoom_Row_4  1000 0 0 S
def fX_X7_greatestRoom_Sorted_4 : Nat → Int32 → Int32 → zSt → Option (Int32)
  | 0, _, _, _ => none
  | n + 1, x1, x2, S => if (S.1 13) ≤ x2 then (some x1) else (zgd (zin x2 200) ((fX_X7_greatestRoom_Sorted_4  n) (zmax x1 (S.2 17 x2.toNatClampNeg)) (x2 + 1) S))
def fX_X7_greatestRoom_Sorted (S : zSt) : Option (Int32) := fX_X7_greatestRoom_Sorted_4  1000 0 0 S
def fX_X7_greatestRoom_Hash_4 : Nat → Int32 → Int32 → zSt → Option (Int32)
  | 0, _, _, _ => none
  | n + 1, x1, x2, S => if (S.1 14) ≤ x2 then (some x1) else (zgd (zin x2 200) ((fX_X7_greatestRoom_Hash_4  n) (zmax x1 (S.2 18 x2.toNatClampNeg)) (x2 + 1) S))
def fX_X7_greatestRoom_Hash (S : zSt) : Option (Int32) := fX_X7_greatestRoom_Hash_4  1000 0 0 S
def fX_X7_greatestRoom_Tree_4 : Nat → Int32 → Int32 → zSt → Option (Int32)
  | 0, _, _, _ => none
  | n + 1, x1, x2, S => if (S.1 15) ≤ x2 then (some x1) else (zgd (zin x2 200) ((fX_X7_greatestRoom_Tree_4  n) (zmax x1 (S.2 19 x2.toNatClampNeg)) (x2 + 1) S))
def fX_X7_greatestRoom_Tree (S : zSt) : Option (Int32) := fX_X7_greatestRoom_Tree_4  1000 0 0 S
def fX_X7_greatestRoom_Heap_4 : Nat → Int32 → Int32 → zSt → Option (Int32)
  | 0, _, _, _ => none
  | n + 1, x1, x2, S => if (S.1 16) ≤ x2 then (some x1) else (zgd (zin x2 200) ((fX_X7_greatestRoom_Heap_4  n) (zmax x1 (S.2 20 x2.toNatClampNeg)) (x2 + 1) S))
def fX_X7_greatestRoom_Heap (S : zSt) : Option (Int32) := fX_X7_greatestRoom_Heap_4  1000 0 0 S
def fX_X7_greatestRoom_Bits_4 : Nat → Int32 → Int32 → zSt → Option (Int32)
  | 0, _, _, _ => none
  | n + 1, x1, x2, S => if (S.1 17) ≤ x2 then (some x1) else (zgd (zin x2 200) ((fX_X7_greatestRoom_Bits_4  n) (zmax x1 (S.2 21 x2.toNatClampNeg)) (x2 + 1) S))
def fX_X7_greatestRoom_Bits (S : zSt) : Option (Int32) := fX_X7_greatestRoom_Bits_4  1000 0 0 S
def fX_X10_asksFirst_2 : Nat → Int32 → zSt → Option (Int32)
  | 0, _, _ => none
  | n + 1, x1, S => if (S.1 0) ≤ x1 then (some 0) else (zgd (zin x1 200) (if (S.2 28 x1.toNatClampNeg) = 6 then (some 1) else ((fX_X10_asksFirst_2  n) (x1 + 1) S)))
def fX_X10_asksFirst (S : zSt) : Option (Int32) := fX_X10_asksFirst_2  1000 0 S
def fX_X10_offered_44 (t0 t1 : Int32) (S : zSt) : Option (Int32) := some (t0 &&& t1)
def fX_X10_offered_30 (t0 t1 : Int32) (S : zSt) : Option (Int32) := (fX_X10_asksFirst   S).bind (fun u1 => if u1 = 0 then (fX_X10_offered_44  (t0 &&& t1) 63 S) else (fX_X10_offered_44  (t0 &&& t1) 1 S))
def fX_X10_offered_16 (t0 t1 : Int32) (S : zSt) : Option (Int32) := if (S.1 2) = 0 then (fX_X10_offered_30  (t0 &&& t1) 63 S) else (fX_X10_offered_30  (t0 &&& t1) 1 S)
def fX_X10_offered (S : zSt) : Option (Int32) := if (S.1 1) = 0 then (fX_X10_offered_16  63 63 S) else (fX_X10_offered_16  63 42 S)
def fX_X10_isIn (x0 x1 : Int32) (S : zSt) : Option (Int32) := if ((x0 >>> (x1 &&& 31)) &&& 1) = 1 then (some 1) else (some 0)
def fX_X10_sum_61 (t0 : Int32) (S : zSt) : Option (Int32) := some t0
def fX_d_stepsSince (j : Nat) (a0 : Int32) (S : zSt) : Option (Int32) := if j = 0 then fX_X7_stepsSince_Row a0 S else if j = 1 then fX_X7_stepsSince_Sorted a0 S else if j = 2 then fX_X7_stepsSince_Hash a0 S else if j = 3 then fX_X7_stepsSince_Tree a0 S else if j = 4 then fX_X7_stepsSince_Heap a0 S else fX_X7_stepsSince_Bits a0 S
theorem fX_d_stepsSince_0 {a0 : Int32} {S : zSt} : fX_d_stepsSince 0 a0 S = fX_X7_stepsSince_Row a0 S := by
  unfold fX_d_stepsSince
  rw [if_pos rfl]
theorem fX_d_stepsSince_1 {a0 : Int32} {S : zSt} : fX_d_stepsSince 1 a0 S = fX_X7_stepsSince_Sorted a0 S := by
  unfold fX_d_stepsSince
  rw [if_neg (by decide), if_pos rfl]
theorem fX_d_stepsSince_2 {a0 : Int32} {S : zSt} : fX_d_stepsSince 2 a0 S = fX_X7_stepsSince_Hash a0 S := by
  unfold fX_d_stepsSince
  rw [if_neg (by decide), if_neg (by decide), if_pos rfl]
theorem fX_d_stepsSince_3 {a0 : Int32} {S : zSt} : fX_d_stepsSince 3 a0 S = fX_X7_stepsSince_Tree a0 S := by
  unfold fX_d_stepsSince
  rw [if_neg (by decide), if_neg (by decide), if_neg (by decide), if_pos rfl]
theorem fX_d_stepsSince_4 {a0 : Int32} {S : zSt} : fX_d_stepsSince 4 a0 S = fX_X7_stepsSince_Heap a0 S := by
  unfold fX_d_stepsSince
  rw [if_neg (by decide), if_neg (by decide), if_neg (by decide), if_neg (by decide), if_pos rfl]
theorem fX_d_stepsSince_5 {a0 : Int32} {S : zSt} : fX_d_stepsSince 5 a0 S = fX_X7_stepsSince_Bits a0 S := by
  unfold fX_d_stepsSince
  rw [if_neg (by decide), if_neg (by decide), if_neg (by decide), if_neg (by decide), if_neg (by decide)]
def fX_X10_sum_56 (j3 : Nat) (S : zSt) : Option (Int32) := (fX_d_stepsSince j3  0 S).bind (fun u1 => fX_X10_sum_61  u1 S)
def fX_X10_sum_66 (t0 : Int32) (S : zSt) : Option (Int32) := some t0
def fX_d_worstSteps (j : Nat) (S : zSt) : Option (Int32) := if j = 0 then fX_X7_worstSteps_Row  S else if j = 1 then fX_X7_worstSteps_Sorted  S else if j = 2 then fX_X7_worstSteps_Hash  S else if j = 3 then fX_X7_worstSteps_Tree  S else if j = 4 then fX_X7_worstSteps_Heap  S else fX_X7_worstSteps_Bits  S
theorem fX_d_worstSteps_0 {S : zSt} : fX_d_worstSteps 0  S = fX_X7_worstSteps_Row  S := by
  unfold fX_d_worstSteps
  rw [if_pos rfl]
theorem fX_d_worstSteps_1 {S : zSt} : fX_d_worstSteps 1  S = fX_X7_worstSteps_Sorted  S := by
  unfold fX_d_worstSteps
  rw [if_neg (by decide), if_pos rfl]
theorem fX_d_worstSteps_2 {S : zSt} : fX_d_worstSteps 2  S = fX_X7_worstSteps_Hash  S := by
  unfold fX_d_worstSteps
  rw [if_neg (by decide), if_neg (by decide), if_pos rfl]
theorem fX_d_worstSteps_3 {S : zSt} : fX_d_worstSteps 3  S = fX_X7_worstSteps_Tree  S := by
  unfold fX_d_worstSteps
  rw [if_neg (by decide), if_neg (by decide), if_neg (by decide), if_pos rfl]
theorem fX_d_worstSteps_4 {S : zSt} : fX_d_worstSteps 4  S = fX_X7_worstSteps_Heap  S := by
  unfold fX_d_worstSteps
  rw [if_neg (by decide), if_neg (by decide), if_neg (by decide), if_neg (by decide), if_pos rfl]
theorem fX_d_worstSteps_5 {S : zSt} : fX_d_worstSteps 5  S = fX_X7_worstSteps_Bits  S := by
  unfold fX_d_worstSteps
  rw [if_neg (by decide), if_neg (by decide), if_neg (by decide), if_neg (by decide), if_neg (by decide)]
def fX_X10_sum_62 (j3 : Nat) (S : zSt) : Option (Int32) := (fX_d_worstSteps j3   S).bind (fun u1 => fX_X10_sum_66  u1 S)
def fX_X10_sum_71 (t0 : Int32) (S : zSt) : Option (Int32) := some t0
def fX_d_worstCall (j : Nat) (S : zSt) : Option (Int32) := if j = 0 then fX_X7_worstCall_Row  S else if j = 1 then fX_X7_worstCall_Sorted  S else if j = 2 then fX_X7_worstCall_Hash  S else if j = 3 then fX_X7_worstCall_Tree  S else if j = 4 then fX_X7_worstCall_Heap  S else fX_X7_worstCall_Bits  S
theorem fX_d_worstCall_0 {S : zSt} : fX_d_worstCall 0  S = fX_X7_worstCall_Row  S := by
  unfold fX_d_worstCall
  rw [if_pos rfl]
theorem fX_d_worstCall_1 {S : zSt} : fX_d_worstCall 1  S = fX_X7_worstCall_Sorted  S := by
  unfold fX_d_worstCall
  rw [if_neg (by decide), if_pos rfl]
theorem fX_d_worstCall_2 {S : zSt} : fX_d_worstCall 2  S = fX_X7_worstCall_Hash  S := by
  unfold fX_d_worstCall
  rw [if_neg (by decide), if_neg (by decide), if_pos rfl]
theorem fX_d_worstCall_3 {S : zSt} : fX_d_worstCall 3  S = fX_X7_worstCall_Tree  S := by
  unfold fX_d_worstCall
  rw [if_neg (by decide), if_neg (by decide), if_neg (by decide), if_pos rfl]
theorem fX_d_worstCall_4 {S : zSt} : fX_d_worstCall 4  S = fX_X7_worstCall_Heap  S := by
  unfold fX_d_worstCall
  rw [if_neg (by decide), if_neg (by decide), if_neg (by decide), if_neg (by decide), if_pos rfl]
theorem fX_d_worstCall_5 {S : zSt} : fX_d_worstCall 5  S = fX_X7_worstCall_Bits  S := by
  unfold fX_d_worstCall
  rw [if_neg (by decide), if_neg (by decide), if_neg (by decide), if_neg (by decide), if_neg (by decide)]
def fX_X10_sum_67 (j3 : Nat) (S : zSt) : Option (Int32) := (fX_d_worstCall j3   S).bind (fun u1 => fX_X10_sum_71  u1 S)
def fX_X10_sum_76 (t0 : Int32) (S : zSt) : Option (Int32) := some t0
def fX_d_greatestRoom (j : Nat) (S : zSt) : Option (Int32) := if j = 0 then fX_X7_greatestRoom_Row  S else if j = 1 then fX_X7_greatestRoom_Sorted  S else if j = 2 then fX_X7_greatestRoom_Hash  S else if j = 3 then fX_X7_greatestRoom_Tree  S else if j = 4 then fX_X7_greatestRoom_Heap  S else fX_X7_greatestRoom_Bits  S
theorem fX_d_greatestRoom_0 {S : zSt} : fX_d_greatestRoom 0  S = fX_X7_greatestRoom_Row  S := by
  unfold fX_d_greatestRoom
  rw [if_pos rfl]
theorem fX_d_greatestRoom_1 {S : zSt} : fX_d_greatestRoom 1  S = fX_X7_greatestRoom_Sorted  S := by
  unfold fX_d_greatestRoom
  rw [if_neg (by decide), if_pos rfl]
theorem fX_d_greatestRoom_2 {S : zSt} : fX_d_greatestRoom 2  S = fX_X7_greatestRoom_Hash  S := by
  unfold fX_d_greatestRoom
  rw [if_neg (by decide), if_neg (by decide), if_pos rfl]
theorem fX_d_greatestRoom_3 {S : zSt} : fX_d_greatestRoom 3  S = fX_X7_greatestRoom_Tree  S := by
  unfold fX_d_greatestRoom
  rw [if_neg (by decide), if_neg (by decide), if_neg (by decide), if_pos rfl]
theorem fX_d_greatestRoom_4 {S : zSt} : fX_d_greatestRoom 4  S = fX_X7_greatestRoom_Heap  S := by
  unfold fX_d_greatestRoom
  rw [if_neg (by decide), if_neg (by decide), if_neg (by decide), if_neg (by decide), if_pos rfl]
theorem fX_d_greatestRoom_5 {S : zSt} : fX_d_greatestRoom 5  S = fX_X7_greatestRoom_Bits  S := by
  unfold fX_d_greatestRoom
  rw [if_neg (by decide), if_neg (by decide), if_neg (by decide), if_neg (by decide), if_neg (by decide)]
def fX_X10_sum_72 (j3 : Nat) (S : zSt) : Option (Int32) := (fX_d_greatestRoom j3   S).bind (fun u1 => fX_X10_sum_76  u1 S)
def fX_X10_sum_77 (x1 : Int32) (S : zSt) : Option (Int32) := (fX_X10_offered   S).bind (fun u1 => (fX_X10_isIn  u1 x1 S).bind (fun u3 => if u3 = 0 then (some 0) else (some 1)))
def fX_X10_sum_98 (t0 : Int32) (S : zSt) : Option (Int32) := some t0
def fX_d_room (j : Nat) (S : zSt) : Option (Int32) := if j = 0 then fX_X4_room_Row  S else if j = 1 then fX_X4_room_Sorted  S else if j = 2 then fX_X2_room  S else if j = 3 then fX_X9_room  S else if j = 4 then fX_X4_room_Heap  S else fX_X0_room  S
theorem fX_d_room_0 {S : zSt} : fX_d_room 0  S = fX_X4_room_Row  S := by
  unfold fX_d_room
  rw [if_pos rfl]
theorem fX_d_room_1 {S : zSt} : fX_d_room 1  S = fX_X4_room_Sorted  S := by
  unfold fX_d_room
  rw [if_neg (by decide), if_pos rfl]
theorem fX_d_room_2 {S : zSt} : fX_d_room 2  S = fX_X2_room  S := by
  unfold fX_d_room
  rw [if_neg (by decide), if_neg (by decide), if_pos rfl]
theorem fX_d_room_3 {S : zSt} : fX_d_room 3  S = fX_X9_room  S := by
  unfold fX_d_room
  rw [if_neg (by decide), if_neg (by decide), if_neg (by decide), if_pos rfl]
theorem fX_d_room_4 {S : zSt} : fX_d_room 4  S = fX_X4_room_Heap  S := by
  unfold fX_d_room
  rw [if_neg (by decide), if_neg (by decide), if_neg (by decide), if_neg (by decide), if_pos rfl]
theorem fX_d_room_5 {S : zSt} : fX_d_room 5  S = fX_X0_room  S := by
  unfold fX_d_room
  rw [if_neg (by decide), if_neg (by decide), if_neg (by decide), if_neg (by decide), if_neg (by decide)]
def fX_X10_sum_94 (j3 : Nat) (S : zSt) : Option (Int32) := (fX_d_room j3   S).bind (fun u1 => fX_X10_sum_98  u1 S)
def fX_X10_sum_99 (S : zSt) : Option (Int32) := some (-1)
def fX_X10_sum_15 (k0 : Nat) (x1 x2 : Int32) (S : zSt) : Option (Int32) := if x2 = 0 then (fX_X10_sum_56  k0 S) else (if x2 = 1 then (fX_X10_sum_62  k0 S) else (if x2 = 2 then (fX_X10_sum_67  k0 S) else (if x2 = 3 then (fX_X10_sum_72  k0 S) else (if x2 = 4 then (fX_X10_sum_77  x1 S) else (if x2 = 5 then (fX_X10_sum_94  k0 S) else (fX_X10_sum_99  S))))))
def fX_X10_sum (x1 x2 : Int32) (S : zSt) : Option (Int32) := (fX_X10_isShelf  x1 S).bind (fun u1 => if u1 = 0 then (some (-1)) else (zgd (zin x1 6) (fX_X10_sum_15  x1.toNatClampNeg x1 x2 S)))
def fX_X10_cheapestSince_49 (K8 : (Int32 → Int32 → Int32 → Int32 → Int32 → zSt → Option (Int32))) (x1 x2 x5 x6 : Int32) (S : zSt) : Option (Int32) := K8 x1 x2 x5 x6 (x5 + 1) S
def fX_X10_cheapestSince_35 (K8 : (Int32 → Int32 → Int32 → Int32 → Int32 → zSt → Option (Int32))) (x1 x2 x3 x4 x5 t0 : Int32) (S : zSt) : Option (Int32) := if x3 = (-1) then (fX_X10_cheapestSince_49 K8 x1 x2 x5 t0 S) else (if x4 ≤ t0 then (K8 x1 x2 x3 x4 (x5 + 1) S) else (fX_X10_cheapestSince_49 K8 x1 x2 x5 t0 S))
def fX_X10_cheapestSince_31 (K8 : (Int32 → Int32 → Int32 → Int32 → Int32 → zSt → Option (Int32))) (k0 : Nat) (x1 x2 x3 x4 x5 : Int32) (S : zSt) : Option (Int32) := (fX_d_stepsSince k0  x1 S).bind (fun u1 => fX_X10_cheapestSince_35 K8 x1 x2 x3 x4 x5 u1 S)
def fX_X10_cheapestSince_8 : Nat → Int32 → Int32 → Int32 → Int32 → Int32 → zSt → Option (Int32)
  | 0, _, _, _, _, _, _ => none
  | n + 1, x1, x2, x3, x4, x5, S => if 6 ≤ x5 then (some x3) else ((fX_X10_isIn  x2 x5 S).bind (fun u2 => if u2 = 0 then ((fX_X10_cheapestSince_8  n) x1 x2 x3 x4 (x5 + 1) S) else (zgd (zin x5 6) (fX_X10_cheapestSince_31 (fX_X10_cheapestSince_8  n) x5.toNatClampNeg x1 x2 x3 x4 x5 S))))
def fX_X10_cheapestSince (x1 x2 : Int32) (S : zSt) : Option (Int32) := fX_X10_cheapestSince_8  1000 x1 x2 (-1) 0 0 S
def fX_X7_isWithin_Row_15 (x2 : Int32) (S : zSt) : Option (Int32) := (fX_X7_greatestRoom_Row   S).bind (fun u1 => if x2 < u1 then (some 0) else (some 1))
def fX_X7_isWithin_Row (x1 x2 : Int32) (S : zSt) : Option (Int32) := if (S.1 12) = 0 then (fX_X7_isWithin_Row_15  x2 S) else ((fX_X7_worstSteps_Row   S).bind (fun u2 => if x1 < u2 then (some 0) else (fX_X7_isWithin_Row_15  x2 S)))
def fX_X7_isWithin_Sorted_15 (x2 : Int32) (S : zSt) : Option (Int32) := (fX_X7_greatestRoom_Sorted   S).bind (fun u1 => if x2 < u1 then (some 0) else (some 1))
def fX_X7_isWithin_Sorted (x1 x2 : Int32) (S : zSt) : Option (Int32) := if (S.1 13) = 0 then (fX_X7_isWithin_Sorted_15  x2 S) else ((fX_X7_worstSteps_Sorted   S).bind (fun u2 => if x1 < u2 then (some 0) else (fX_X7_isWithin_Sorted_15  x2 S)))
def fX_X7_isWithin_Hash_15 (x2 : Int32) (S : zSt) : Option (Int32) := (fX_X7_greatestRoom_Hash   S).bind (fun u1 => if x2 < u1 then (some 0) else (some 1))
def fX_X7_isWithin_Hash (x1 x2 : Int32) (S : zSt) : Option (Int32) := if (S.1 14) = 0 then (fX_X7_isWithin_Hash_15  x2 S) else ((fX_X7_worstSteps_Hash   S).bind (fun u2 => if x1 < u2 then (some 0) else (fX_X7_isWithin_Hash_15  x2 S)))
def fX_X7_isWithin_Tree_15 (x2 : Int32) (S : zSt) : Option (Int32) := (fX_X7_greatestRoom_Tree   S).bind (fun u1 => if x2 < u1 then (some 0) else (some 1))
def fX_X7_isWithin_Tree (x1 x2 : Int32) (S : zSt) : Option (Int32) := if (S.1 15) = 0 then (fX_X7_isWithin_Tree_15  x2 S) else ((fX_X7_worstSteps_Tree   S).bind (fun u2 => if x1 < u2 then (some 0) else (fX_X7_isWithin_Tree_15  x2 S)))
def fX_X7_isWithin_Heap_15 (x2 : Int32) (S : zSt) : Option (Int32) := (fX_X7_greatestRoom_Heap   S).bind (fun u1 => if x2 < u1 then (some 0) else (some 1))
def fX_X7_isWithin_Heap (x1 x2 : Int32) (S : zSt) : Option (Int32) := if (S.1 16) = 0 then (fX_X7_isWithin_Heap_15  x2 S) else ((fX_X7_worstSteps_Heap   S).bind (fun u2 => if x1 < u2 then (some 0) else (fX_X7_isWithin_Heap_15  x2 S)))
def fX_X7_isWithin_Bits_15 (x2 : Int32) (S : zSt) : Option (Int32) := (fX_X7_greatestRoom_Bits   S).bind (fun u1 => if x2 < u1 then (some 0) else (some 1))
def fX_X7_isWithin_Bits (x1 x2 : Int32) (S : zSt) : Option (Int32) := if (S.1 17) = 0 then (fX_X7_isWithin_Bits_15  x2 S) else ((fX_X7_worstSteps_Bits   S).bind (fun u2 => if x1 < u2 then (some 0) else (fX_X7_isWithin_Bits_15  x2 S)))
def fX_X10_best_24 (K5 : (Int32 → Int32 → Int32 → Int32 → zSt → Option (Int32))) (x1 x2 x3 x4 t0 : Int32) (S : zSt) : Option (Int32) := if t0 = 0 then (K5 x1 x2 x3 (x4 + 1) S) else (K5 x1 x2 (x3 ||| (1 <<< (x4 &&& 31))) (x4 + 1) S)
def fX_d_isWithin (j : Nat) (a0 a1 : Int32) (S : zSt) : Option (Int32) := if j = 0 then fX_X7_isWithin_Row a0 a1 S else if j = 1 then fX_X7_isWithin_Sorted a0 a1 S else if j = 2 then fX_X7_isWithin_Hash a0 a1 S else if j = 3 then fX_X7_isWithin_Tree a0 a1 S else if j = 4 then fX_X7_isWithin_Heap a0 a1 S else fX_X7_isWithin_Bits a0 a1 S
theorem fX_d_isWithin_0 {a0 a1 : Int32} {S : zSt} : fX_d_isWithin 0 a0 a1 S = fX_X7_isWithin_Row a0 a1 S := by
  unfold fX_d_isWithin
  rw [if_pos rfl]
theorem fX_d_isWithin_1 {a0 a1 : Int32} {S : zSt} : fX_d_isWithin 1 a0 a1 S = fX_X7_isWithin_Sorted a0 a1 S := by
  unfold fX_d_isWithin
  rw [if_neg (by decide), if_pos rfl]
theorem fX_d_isWithin_2 {a0 a1 : Int32} {S : zSt} : fX_d_isWithin 2 a0 a1 S = fX_X7_isWithin_Hash a0 a1 S := by
  unfold fX_d_isWithin
  rw [if_neg (by decide), if_neg (by decide), if_pos rfl]
theorem fX_d_isWithin_3 {a0 a1 : Int32} {S : zSt} : fX_d_isWithin 3 a0 a1 S = fX_X7_isWithin_Tree a0 a1 S := by
  unfold fX_d_isWithin
  rw [if_neg (by decide), if_neg (by decide), if_neg (by decide), if_pos rfl]
theorem fX_d_isWithin_4 {a0 a1 : Int32} {S : zSt} : fX_d_isWithin 4 a0 a1 S = fX_X7_isWithin_Heap a0 a1 S := by
  unfold fX_d_isWithin
  rw [if_neg (by decide), if_neg (by decide), if_neg (by decide), if_neg (by decide), if_pos rfl]
theorem fX_d_isWithin_5 {a0 a1 : Int32} {S : zSt} : fX_d_isWithin 5 a0 a1 S = fX_X7_isWithin_Bits a0 a1 S := by
  unfold fX_d_isWithin
  rw [if_neg (by decide), if_neg (by decide), if_neg (by decide), if_neg (by decide), if_neg (by decide)]
def fX_X10_best_19 (K5 : (Int32 → Int32 → Int32 → Int32 → zSt → Option (Int32))) (k0 : Nat) (x1 x2 x3 x4 : Int32) (S : zSt) : Option (Int32) := (fX_d_isWithin k0  x1 x2 S).bind (fun u1 => fX_X10_best_24 K5 x1 x2 x3 x4 u1 S)
def fX_X10_best_5 : Nat → Int32 → Int32 → Int32 → Int32 → zSt → Option (Int32)
  | 0, _, _, _, _, _ => none
  | n + 1, x1, x2, x3, x4, S => if 6 ≤ x4 then ((fX_X10_offered   S).bind (fun u2 => (fX_X10_cheapestSince  0 (u2 &&& x3) S).bind (fun u4 => some u4))) else (zgd (zin x4 6) (fX_X10_best_19 (fX_X10_best_5  n) x4.toNatClampNeg x1 x2 x3 x4 S))
def fX_X10_best (x1 x2 : Int32) (S : zSt) : Option (Int32) := fX_X10_best_5  1000 x1 x2 0 0 S
def fX_X10_drift_91 (x6 t0 t1 : Int32) (S : zSt) : Option (Int32) := if x6 = 0 then (some 0) else (zgd (znz x6) (some (((t0 - t1) * 100) / x6)))
def fX_X10_drift_86 (k1 : Nat) (x4 x6 t0 : Int32) (S : zSt) : Option (Int32) := (fX_d_stepsSince k1  x4 S).bind (fun u1 => fX_X10_drift_91  x6 t0 u1 S)
def fX_X10_drift_75 (x4 x5 t0 : Int32) (S : zSt) : Option (Int32) := zgd (zin x5 6) (fX_X10_drift_86  x5.toNatClampNeg x4 t0 t0 S)
def fX_X10_drift_70 (k0 : Nat) (x4 x5 : Int32) (S : zSt) : Option (Int32) := (fX_d_stepsSince k0  x4 S).bind (fun u1 => fX_X10_drift_75  x4 x5 u1 S)
def fX_X10_drift (x1 x2 x3 : Int32) (S : zSt) : Option (Int32) := (fX_X10_isShelf  x1 S).bind (fun u1 => if u1 = 0 then (some (-1)) else (if x2 < 1 then (some (-1)) else (if (S.1 0) < x2 then (some (-1)) else (if x3 < 0 then (some (-1)) else (if x3 ≤ 1 then ((fX_X10_offered   S).bind (fun u8 => (fX_X10_cheapestSince  ((S.1 0) - x2) u8 S).bind (fun u10 => if u10 = (-1) then (some u10) else (if x3 = 0 then (some u10) else (zgd (zin x1 6) (fX_X10_drift_70  x1.toNatClampNeg ((S.1 0) - x2) u10 S)))))) else (some (-1)))))))
def fX_X5_open (x1 x2 x3 x4 : Int32) (S : zSt) : Option (zSt) := some (zsI (zsI (zsI (zsI S 6 x1) 7 x2) 8 x3) 9 x4)
def fX_X5_weightOver_29 (x2 x3 t0 : Int32) (S : zSt) : Option (Int32) := zgd (zin x3 6) (zgd (zin (x2 + 1) 200) (some (t0 + (S.2 (22 + x3.toNatClampNeg) (x2 + 1).toNatClampNeg))))
def fX_X5_weightOver (x1 x2 x3 : Int32) (S : zSt) : Option (Int32) := if x1 = x3 then (fX_X5_weightOver_29  x2 x3 0 S) else (zgd (zin x2 200) (fX_X5_weightOver_29  x2 x3 ((((S.1 8) + ((S.1 9) * (S.2 31 x2.toNatClampNeg))) * 256) + 1) S))
def fX_X5_nextOf_62 (K9 : (Int32 → Int32 → Int32 → Int32 → Int32 → zSt → Option (Int32))) (x1 x2 x6 x7 : Int32) (S : zSt) : Option (Int32) := K9 x1 x2 x6 x7 (x6 + 1) S
def fX_X5_nextOf_9 : Nat → Int32 → Int32 → Int32 → Int32 → Int32 → zSt → Option (Int32)
  | 0, _, _, _, _, _, _ => none
  | n + 1, x1, x2, x4, x5, x6, S => if 6 ≤ x6 then (some x4) else (if (S.1 7) ≤ (x2 + 1) then (some x4) else ((fX_X10_isIn  (S.1 6) x6 S).bind (fun u3 => if u3 = 0 then ((fX_X5_nextOf_9  n) x1 x2 x4 x5 (x6 + 1) S) else ((fX_X5_weightOver  x1 x2 x6 S).bind (fun u6 => if x4 = (-1) then (fX_X5_nextOf_62 (fX_X5_nextOf_9  n) x1 x2 x6 u6 S) else (if x5 ≤ u6 then ((fX_X5_nextOf_9  n) x1 x2 x4 x5 (x6 + 1) S) else (fX_X5_nextOf_62 (fX_X5_nextOf_9  n) x1 x2 x6 u6 S)))))))
def fX_X5_nextOf (x1 x2 : Int32) (S : zSt) : Option (Int32) := fX_X5_nextOf_9  1000 x1 x2 (-1) 0 0 S
def fX_X5_weigh_14 (K7 : (Int32 → zSt → Option (zSt))) : Nat → Int32 → Int32 → zSt → Option (zSt)
  | 0, _, _, _ => none
  | n + 1, x3, x4, S => if 6 ≤ x4 then (K7 (x3 + (-1)) S) else (zgd (zin x4 6) (zgd (zin x4 6) (zgd (zin x3 200) (zgd (zin x3 200) ((fX_X5_nextOf  x4 x3 (zsR S (22 + x4.toNatClampNeg) x3.toNatClampNeg ((S.2 (10 + x4.toNatClampNeg) x3.toNatClampNeg) * 256))).bind (fun u6 => if u6 = (-1) then ((fX_X5_weigh_14 K7 n) x3 (x4 + 1) (zsR S (22 + x4.toNatClampNeg) x3.toNatClampNeg ((S.2 (10 + x4.toNatClampNeg) x3.toNatClampNeg) * 256))) else (zgd (zin x4 6) (zgd (zin x3 200) ((fX_X5_weightOver  x4 x3 u6 (zsR S (22 + x4.toNatClampNeg) x3.toNatClampNeg ((S.2 (10 + x4.toNatClampNeg) x3.toNatClampNeg) * 256))).bind (fun u11 => zgd (zin x3 200) ((fX_X5_weigh_14 K7 n) x3 (x4 + 1) (zsR (zsR S (22 + x4.toNatClampNeg) x3.toNatClampNeg ((S.2 (10 + x4.toNatClampNeg) x3.toNatClampNeg) * 256)) (22 + x4.toNatClampNeg) x3.toNatClampNeg (((zsR S (22 + x4.toNatClampNeg) x3.toNatClampNeg ((S.2 (10 + x4.toNatClampNeg) x3.toNatClampNeg) * 256)).2 (22 + x4.toNatClampNeg) x3.toNatClampNeg) + u11)))))))))))))
def fX_X5_weigh_7 : Nat → Int32 → zSt → Option (zSt)
  | 0, _, _ => none
  | n + 1, x3, S => if x3 < 0 then (some S) else (fX_X5_weigh_14 (fX_X5_weigh_7  n) 1000 x3 0 S)
def fX_X5_weigh (S : zSt) : Option (zSt) := fX_X5_weigh_7  1000 ((S.1 7) - 1) S
def fX_X5_lightestAtFirst_52 (K4 : (Int32 → Int32 → zSt → Option (Int32))) (x2 : Int32) (S : zSt) : Option (Int32) := K4 x2 (x2 + 1) S
def fX_X5_lightestAtFirst_4 : Nat → Int32 → Int32 → zSt → Option (Int32)
  | 0, _, _, _ => none
  | n + 1, x1, x2, S => if 6 ≤ x2 then (some x1) else (if (S.1 7) ≤ 0 then (some x1) else ((fX_X10_isIn  (S.1 6) x2 S).bind (fun u3 => if u3 = 0 then ((fX_X5_lightestAtFirst_4  n) x1 (x2 + 1) S) else (if x1 = (-1) then (fX_X5_lightestAtFirst_52 (fX_X5_lightestAtFirst_4  n) x2 S) else (zgd (zin x2 6) (zgd (zin 0 200) (zgd (zin x1 6) (zgd (zin 0 200) (if (S.2 (22 + x1.toNatClampNeg) (0 : Int32).toNatClampNeg) ≤ (S.2 (22 + x2.toNatClampNeg) (0 : Int32).toNatClampNeg) then ((fX_X5_lightestAtFirst_4  n) x1 (x2 + 1) S) else (fX_X5_lightestAtFirst_52 (fX_X5_lightestAtFirst_4  n) x2 S))))))))))
def fX_X5_lightestAtFirst (S : zSt) : Option (Int32) := fX_X5_lightestAtFirst_4  1000 (-1) 0 S
def fX_X5_choose_28 : Nat → Int32 → Int32 → zSt → Option (zSt)
  | 0, _, _, _ => none
  | n + 1, x2, x3, S => if (S.1 7) ≤ x3 then (some S) else (if x2 = (-1) then (some S) else (zgd (zin x3 200) ((fX_X5_nextOf  x2 x3 (zsR S 32 x3.toNatClampNeg x2)).bind (fun u4 => (fX_X5_choose_28  n) u4 (x3 + 1) (zsR S 32 x3.toNatClampNeg x2)))))
def fX_X5_choose_23 (x2 t1 : Int32) (S : zSt) : Option (zSt) := fX_X5_choose_28  1000 x2 0 (zsI S 10 t1)
def fX_X5_choose (S : zSt) : Option (zSt) := (fX_X5_lightestAtFirst   S).bind (fun u1 => if u1 = (-1) then (fX_X5_choose_23  u1 0 S) else (zgd (zin u1 6) (zgd (zin 0 200) (fX_X5_choose_23  u1 (S.2 (22 + u1.toNatClampNeg) (0 : Int32).toNatClampNeg) S))))
def fX_X10_makePlan (S : zSt) : Option (zSt) := if (S.1 5) = 0 then ((fX_X10_offered   S).bind (fun u2 => (fX_X5_open  u2 (S.1 0) (S.1 3) (S.1 4) S).bind (fun u4 => (fX_X5_weigh   u4).bind (fun u6 => (fX_X5_choose   u6).bind (fun u8 => some (zsI u8 5 1)))))) else (some S)
def fX_X5_leastSum (S : zSt) : Option (Int32) := some ((S.1 10) / 256)
def fX_X10_stages (S : zSt) : Option (Int32 × zSt) := (fX_X10_offered   S).bind (fun u1 => if u1 = 0 then (some ((-1), S)) else ((fX_X10_makePlan   S).bind (fun u4 => (fX_X5_leastSum   u4).bind (fun u6 => some (u6, u4)))))
def fX_X10_stage (x1 : Int32) (S : zSt) : Option (Int32 × zSt) := (fX_X10_isCall  x1 S).bind (fun u1 => if u1 = 0 then (some ((-1), S)) else ((fX_X10_offered   S).bind (fun u4 => if u4 = 0 then (some ((-1), S)) else ((fX_X10_makePlan   S).bind (fun u7 => zgd (zin x1 200) (some ((u7.2 32 x1.toNatClampNeg), u7)))))))
def fX_X5_moves (S : zSt) : Option (Int32) := some (zrem (S.1 10) 256)
def fX_X10_count_101 (t0 t1 : Int32) (S : zSt) : Option (Int32 × zSt) := some ((t0 + t1), S)
def fX_X10_count_87 (t0 t1 : Int32) (S : zSt) : Option (Int32 × zSt) := (fX_X10_asksFirst   S).bind (fun u1 => if u1 = 0 then (fX_X10_count_101  (t0 + t1) 0 S) else (fX_X10_count_101  (t0 + t1) 8 S))
def fX_X10_count_75 (t0 : Int32) (S : zSt) : Option (Int32 × zSt) := if (S.1 2) = 0 then (fX_X10_count_87  t0 0 S) else (fX_X10_count_87  t0 4 S)
def fX_X10_count (x1 : Int32) (S : zSt) : Option (Int32 × zSt) := if x1 = 0 then (some ((S.1 0), S)) else (if x1 = 1 then (some ((S.1 3), S)) else (if x1 = 2 then (some ((S.1 4), S)) else (if x1 = 3 then ((fX_X10_makePlan   S).bind (fun u2 => (fX_X5_moves   u2).bind (fun u4 => some (u4, u2)))) else (if x1 = 4 then (if (S.1 1) = 0 then (fX_X10_count_75  0 S) else (fX_X10_count_75  2 S)) else (some ((-1), S))))))

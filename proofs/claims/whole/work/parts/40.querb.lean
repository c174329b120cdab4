/-! any shelf of the class; the reference's sums and worsts -/
theorem pX_dsince {S : zSt} {kd ky : Nat → Nat} {N j p : Nat} (hj : j < 6) (hN : N ≤ 200) (h : zSh j S kd ky N) (hp : p ≤ N) : fX_d_stepsSince j (nI p) S = some (zqS (zqC kd ky j) (N - p) p (nI 0)) := by
  obtain ⟨_, ht, hc, _⟩ := h
  rcases z6c hj with rfl | rfl | rfl | rfl | rfl | rfl
  · rw [fX_d_stepsSince_0]; exact pX_since_Row (c := zqC kd ky 0) hN ht hc hp
  · rw [fX_d_stepsSince_1]; exact pX_since_Sorted (c := zqC kd ky 1) hN ht hc hp
  · rw [fX_d_stepsSince_2]; exact pX_since_Hash (c := zqC kd ky 2) hN ht hc hp
  · rw [fX_d_stepsSince_3]; exact pX_since_Tree (c := zqC kd ky 3) hN ht hc hp
  · rw [fX_d_stepsSince_4]; exact pX_since_Heap (c := zqC kd ky 4) hN ht hc hp
  · rw [fX_d_stepsSince_5]; exact pX_since_Bits (c := zqC kd ky 5) hN ht hc hp

theorem pX_dworst {S : zSt} {kd ky : Nat → Nat} {N j : Nat} (hj : j < 6) (hN : N ≤ 200) (h : zSh j S kd ky N) : fX_d_worstCall j S = some (ze2 (zqW (zqC kd ky j) N)) := by
  obtain ⟨_, ht, hc, _⟩ := h
  rcases z6c hj with rfl | rfl | rfl | rfl | rfl | rfl
  · rw [fX_d_worstCall_0]; exact pX_worst_Row (c := zqC kd ky 0) hN ht hc
  · rw [fX_d_worstCall_1]; exact pX_worst_Sorted (c := zqC kd ky 1) hN ht hc
  · rw [fX_d_worstCall_2]; exact pX_worst_Hash (c := zqC kd ky 2) hN ht hc
  · rw [fX_d_worstCall_3]; exact pX_worst_Tree (c := zqC kd ky 3) hN ht hc
  · rw [fX_d_worstCall_4]; exact pX_worst_Heap (c := zqC kd ky 4) hN ht hc
  · rw [fX_d_worstCall_5]; exact pX_worst_Bits (c := zqC kd ky 5) hN ht hc
theorem pX_dworstS {S : zSt} {kd ky : Nat → Nat} {N j : Nat} (hj : j < 6) (hN : N ≤ 200) (h : zSh j S kd ky N) : fX_d_worstSteps j S = some (if N = 0 then nI 0 else zqC kd ky j (zqW (zqC kd ky j) N)) := by
  obtain ⟨_, ht, hc, _⟩ := h
  rcases z6c hj with rfl | rfl | rfl | rfl | rfl | rfl
  · rw [fX_d_worstSteps_0]; exact pX_worstS_Row (c := zqC kd ky 0) hN ht hc
  · rw [fX_d_worstSteps_1]; exact pX_worstS_Sorted (c := zqC kd ky 1) hN ht hc
  · rw [fX_d_worstSteps_2]; exact pX_worstS_Hash (c := zqC kd ky 2) hN ht hc
  · rw [fX_d_worstSteps_3]; exact pX_worstS_Tree (c := zqC kd ky 3) hN ht hc
  · rw [fX_d_worstSteps_4]; exact pX_worstS_Heap (c := zqC kd ky 4) hN ht hc
  · rw [fX_d_worstSteps_5]; exact pX_worstS_Bits (c := zqC kd ky 5) hN ht hc
theorem pX_dgreat {S : zSt} {kd ky : Nat → Nat} {N j : Nat} (hj : j < 6) (hN : N ≤ 200) (hb : ∀ t, t < N → kd t < 8 ∧ ky t < 64) (h : zSh j S kd ky N) : fX_d_greatestRoom j S = some (nI (zmr kd ky j N)) := by
  obtain ⟨_, ht, _, hc⟩ := h
  rcases z6c hj with rfl | rfl | rfl | rfl | rfl | rfl
  · rw [fX_d_greatestRoom_0]; exact pX_great_Row hN hb ht hc
  · rw [fX_d_greatestRoom_1]; exact pX_great_Sorted hN hb ht hc
  · rw [fX_d_greatestRoom_2]; exact pX_great_Hash hN hb ht hc
  · rw [fX_d_greatestRoom_3]; exact pX_great_Tree hN hb ht hc
  · rw [fX_d_greatestRoom_4]; exact pX_great_Heap hN hb ht hc
  · rw [fX_d_greatestRoom_5]; exact pX_great_Bits hN hb ht hc
/-- within the bounds -/
def zqI (kd ky : Nat → Nat) (N : Nat) (x1 x2 : Int32) (j : Nat) : Bool := decide (¬ x2 < nI (zmr kd ky j N)) && (decide (N = 0) || decide (¬ x1 < zqC kd ky j (zqW (zqC kd ky j) N)))
theorem zqI_e {kd ky : Nat → Nat} {N j : Nat} {x1 x2 : Int32} : zqI kd ky N x1 x2 j = true ↔ (¬ x2 < nI (zmr kd ky j N) ∧ (N = 0 ∨ ¬ x1 < zqC kd ky j (zqW (zqC kd ky j) N))) := by
  unfold zqI
  rw [Bool.and_eq_true, Bool.or_eq_true, decide_eq_true_iff, decide_eq_true_iff, decide_eq_true_iff]
theorem pX_within_Row {S : zSt} {kd ky : Nat → Nat} {N : Nat} {x1 x2 : Int32} (hN : N ≤ 200) (hb : ∀ t, t < N → kd t < 8 ∧ ky t < 64) (h : zSh 0 S kd ky N) : fX_X7_isWithin_Row x1 x2 S = some (nI (zb1 (zqI kd ky N x1 x2 0))) := by
  obtain ⟨_, ht, hc, hr⟩ := h
  have e1 := pX_worstS_Row (c := zqC kd ky 0) hN ht hc
  have e2 := pX_great_Row hN hb ht hr
  have ht' : S.1 (12 + 0) = nI N := ht
  have e15 : fX_X7_isWithin_Row_15 x2 S = some (nI (if x2 < nI (zmr kd ky 0 N) then 0 else 1)) := by
    unfold fX_X7_isWithin_Row_15
    rw [e2, Option.bind_some]
    by_cases q : x2 < nI (zmr kd ky 0 N)
    · rw [if_pos q, if_pos q]; rfl
    · rw [if_neg q, if_neg q]; rfl
  unfold fX_X7_isWithin_Row
  rw [e15, e1]
  have hE := zqI_e (kd := kd) (ky := ky) (N := N) (j := 0) (x1 := x1) (x2 := x2)
  by_cases q : N = 0
  · rw [if_pos (show S.1 (12 + 0) = 0 by rw [ht', q]; rfl)]
    by_cases w : x2 < nI (zmr kd ky 0 N)
    · rw [if_pos w, show zqI kd ky N x1 x2 0 = false from Bool.eq_false_iff.mpr (fun e => (hE.mp e).1 w)]; rfl
    · rw [if_neg w, hE.mpr ⟨w, Or.inl q⟩]; rfl
  · rw [if_neg (show ¬ S.1 (12 + 0) = 0 from fun e => by rw [ht', zL0, zI_eq (by omega) (by omega)] at e; exact q e), Option.bind_some, if_neg q]
    by_cases w : x1 < zqC kd ky 0 (zqW (zqC kd ky 0) N)
    · rw [if_pos w, show zqI kd ky N x1 x2 0 = false from Bool.eq_false_iff.mpr (fun e => by
        rcases (hE.mp e).2 with y | y
        · exact q y
        · exact y w)]; rfl
    · rw [if_neg w]
      by_cases y : x2 < nI (zmr kd ky 0 N)
      · rw [if_pos y, show zqI kd ky N x1 x2 0 = false from Bool.eq_false_iff.mpr (fun e => (hE.mp e).1 y)]; rfl
      · rw [if_neg y, hE.mpr ⟨y, Or.inr w⟩]; rfl

theorem pX_within_Sorted {S : zSt} {kd ky : Nat → Nat} {N : Nat} {x1 x2 : Int32} (hN : N ≤ 200) (hb : ∀ t, t < N → kd t < 8 ∧ ky t < 64) (h : zSh 1 S kd ky N) : fX_X7_isWithin_Sorted x1 x2 S = some (nI (zb1 (zqI kd ky N x1 x2 1))) := by
  obtain ⟨_, ht, hc, hr⟩ := h
  have e1 := pX_worstS_Sorted (c := zqC kd ky 1) hN ht hc
  have e2 := pX_great_Sorted hN hb ht hr
  have ht' : S.1 (12 + 1) = nI N := ht
  have e15 : fX_X7_isWithin_Sorted_15 x2 S = some (nI (if x2 < nI (zmr kd ky 1 N) then 0 else 1)) := by
    unfold fX_X7_isWithin_Sorted_15
    rw [e2, Option.bind_some]
    by_cases q : x2 < nI (zmr kd ky 1 N)
    · rw [if_pos q, if_pos q]; rfl
    · rw [if_neg q, if_neg q]; rfl
  unfold fX_X7_isWithin_Sorted
  rw [e15, e1]
  have hE := zqI_e (kd := kd) (ky := ky) (N := N) (j := 1) (x1 := x1) (x2 := x2)
  by_cases q : N = 0
  · rw [if_pos (show S.1 (12 + 1) = 0 by rw [ht', q]; rfl)]
    by_cases w : x2 < nI (zmr kd ky 1 N)
    · rw [if_pos w, show zqI kd ky N x1 x2 1 = false from Bool.eq_false_iff.mpr (fun e => (hE.mp e).1 w)]; rfl
    · rw [if_neg w, hE.mpr ⟨w, Or.inl q⟩]; rfl
  · rw [if_neg (show ¬ S.1 (12 + 1) = 0 from fun e => by rw [ht', zL0, zI_eq (by omega) (by omega)] at e; exact q e), Option.bind_some, if_neg q]
    by_cases w : x1 < zqC kd ky 1 (zqW (zqC kd ky 1) N)
    · rw [if_pos w, show zqI kd ky N x1 x2 1 = false from Bool.eq_false_iff.mpr (fun e => by
        rcases (hE.mp e).2 with y | y
        · exact q y
        · exact y w)]; rfl
    · rw [if_neg w]
      by_cases y : x2 < nI (zmr kd ky 1 N)
      · rw [if_pos y, show zqI kd ky N x1 x2 1 = false from Bool.eq_false_iff.mpr (fun e => (hE.mp e).1 y)]; rfl
      · rw [if_neg y, hE.mpr ⟨y, Or.inr w⟩]; rfl

theorem pX_within_Hash {S : zSt} {kd ky : Nat → Nat} {N : Nat} {x1 x2 : Int32} (hN : N ≤ 200) (hb : ∀ t, t < N → kd t < 8 ∧ ky t < 64) (h : zSh 2 S kd ky N) : fX_X7_isWithin_Hash x1 x2 S = some (nI (zb1 (zqI kd ky N x1 x2 2))) := by
  obtain ⟨_, ht, hc, hr⟩ := h
  have e1 := pX_worstS_Hash (c := zqC kd ky 2) hN ht hc
  have e2 := pX_great_Hash hN hb ht hr
  have ht' : S.1 (12 + 2) = nI N := ht
  have e15 : fX_X7_isWithin_Hash_15 x2 S = some (nI (if x2 < nI (zmr kd ky 2 N) then 0 else 1)) := by
    unfold fX_X7_isWithin_Hash_15
    rw [e2, Option.bind_some]
    by_cases q : x2 < nI (zmr kd ky 2 N)
    · rw [if_pos q, if_pos q]; rfl
    · rw [if_neg q, if_neg q]; rfl
  unfold fX_X7_isWithin_Hash
  rw [e15, e1]
  have hE := zqI_e (kd := kd) (ky := ky) (N := N) (j := 2) (x1 := x1) (x2 := x2)
  by_cases q : N = 0
  · rw [if_pos (show S.1 (12 + 2) = 0 by rw [ht', q]; rfl)]
    by_cases w : x2 < nI (zmr kd ky 2 N)
    · rw [if_pos w, show zqI kd ky N x1 x2 2 = false from Bool.eq_false_iff.mpr (fun e => (hE.mp e).1 w)]; rfl
    · rw [if_neg w, hE.mpr ⟨w, Or.inl q⟩]; rfl
  · rw [if_neg (show ¬ S.1 (12 + 2) = 0 from fun e => by rw [ht', zL0, zI_eq (by omega) (by omega)] at e; exact q e), Option.bind_some, if_neg q]
    by_cases w : x1 < zqC kd ky 2 (zqW (zqC kd ky 2) N)
    · rw [if_pos w, show zqI kd ky N x1 x2 2 = false from Bool.eq_false_iff.mpr (fun e => by
        rcases (hE.mp e).2 with y | y
        · exact q y
        · exact y w)]; rfl
    · rw [if_neg w]
      by_cases y : x2 < nI (zmr kd ky 2 N)
      · rw [if_pos y, show zqI kd ky N x1 x2 2 = false from Bool.eq_false_iff.mpr (fun e => (hE.mp e).1 y)]; rfl
      · rw [if_neg y, hE.mpr ⟨y, Or.inr w⟩]; rfl

theorem pX_within_Tree {S : zSt} {kd ky : Nat → Nat} {N : Nat} {x1 x2 : Int32} (hN : N ≤ 200) (hb : ∀ t, t < N → kd t < 8 ∧ ky t < 64) (h : zSh 3 S kd ky N) : fX_X7_isWithin_Tree x1 x2 S = some (nI (zb1 (zqI kd ky N x1 x2 3))) := by
  obtain ⟨_, ht, hc, hr⟩ := h
  have e1 := pX_worstS_Tree (c := zqC kd ky 3) hN ht hc
  have e2 := pX_great_Tree hN hb ht hr
  have ht' : S.1 (12 + 3) = nI N := ht
  have e15 : fX_X7_isWithin_Tree_15 x2 S = some (nI (if x2 < nI (zmr kd ky 3 N) then 0 else 1)) := by
    unfold fX_X7_isWithin_Tree_15
    rw [e2, Option.bind_some]
    by_cases q : x2 < nI (zmr kd ky 3 N)
    · rw [if_pos q, if_pos q]; rfl
    · rw [if_neg q, if_neg q]; rfl
  unfold fX_X7_isWithin_Tree
  rw [e15, e1]
  have hE := zqI_e (kd := kd) (ky := ky) (N := N) (j := 3) (x1 := x1) (x2 := x2)
  by_cases q : N = 0
  · rw [if_pos (show S.1 (12 + 3) = 0 by rw [ht', q]; rfl)]
    by_cases w : x2 < nI (zmr kd ky 3 N)
    · rw [if_pos w, show zqI kd ky N x1 x2 3 = false from Bool.eq_false_iff.mpr (fun e => (hE.mp e).1 w)]; rfl
    · rw [if_neg w, hE.mpr ⟨w, Or.inl q⟩]; rfl
  · rw [if_neg (show ¬ S.1 (12 + 3) = 0 from fun e => by rw [ht', zL0, zI_eq (by omega) (by omega)] at e; exact q e), Option.bind_some, if_neg q]
    by_cases w : x1 < zqC kd ky 3 (zqW (zqC kd ky 3) N)
    · rw [if_pos w, show zqI kd ky N x1 x2 3 = false from Bool.eq_false_iff.mpr (fun e => by
        rcases (hE.mp e).2 with y | y
        · exact q y
        · exact y w)]; rfl
    · rw [if_neg w]
      by_cases y : x2 < nI (zmr kd ky 3 N)
      · rw [if_pos y, show zqI kd ky N x1 x2 3 = false from Bool.eq_false_iff.mpr (fun e => (hE.mp e).1 y)]; rfl
      · rw [if_neg y, hE.mpr ⟨y, Or.inr w⟩]; rfl

theorem pX_within_Heap {S : zSt} {kd ky : Nat → Nat} {N : Nat} {x1 x2 : Int32} (hN : N ≤ 200) (hb : ∀ t, t < N → kd t < 8 ∧ ky t < 64) (h : zSh 4 S kd ky N) : fX_X7_isWithin_Heap x1 x2 S = some (nI (zb1 (zqI kd ky N x1 x2 4))) := by
  obtain ⟨_, ht, hc, hr⟩ := h
  have e1 := pX_worstS_Heap (c := zqC kd ky 4) hN ht hc
  have e2 := pX_great_Heap hN hb ht hr
  have ht' : S.1 (12 + 4) = nI N := ht
  have e15 : fX_X7_isWithin_Heap_15 x2 S = some (nI (if x2 < nI (zmr kd ky 4 N) then 0 else 1)) := by
    unfold fX_X7_isWithin_Heap_15
    rw [e2, Option.bind_some]
    by_cases q : x2 < nI (zmr kd ky 4 N)
    · rw [if_pos q, if_pos q]; rfl
    · rw [if_neg q, if_neg q]; rfl
  unfold fX_X7_isWithin_Heap
  rw [e15, e1]
  have hE := zqI_e (kd := kd) (ky := ky) (N := N) (j := 4) (x1 := x1) (x2 := x2)
  by_cases q : N = 0
  · rw [if_pos (show S.1 (12 + 4) = 0 by rw [ht', q]; rfl)]
    by_cases w : x2 < nI (zmr kd ky 4 N)
    · rw [if_pos w, show zqI kd ky N x1 x2 4 = false from Bool.eq_false_iff.mpr (fun e => (hE.mp e).1 w)]; rfl
    · rw [if_neg w, hE.mpr ⟨w, Or.inl q⟩]; rfl
  · rw [if_neg (show ¬ S.1 (12 + 4) = 0 from fun e => by rw [ht', zL0, zI_eq (by omega) (by omega)] at e; exact q e), Option.bind_some, if_neg q]
    by_cases w : x1 < zqC kd ky 4 (zqW (zqC kd ky 4) N)
    · rw [if_pos w, show zqI kd ky N x1 x2 4 = false from Bool.eq_false_iff.mpr (fun e => by
        rcases (hE.mp e).2 with y | y
        · exact q y
        · exact y w)]; rfl
    · rw [if_neg w]
      by_cases y : x2 < nI (zmr kd ky 4 N)
      · rw [if_pos y, show zqI kd ky N x1 x2 4 = false from Bool.eq_false_iff.mpr (fun e => (hE.mp e).1 y)]; rfl
      · rw [if_neg y, hE.mpr ⟨y, Or.inr w⟩]; rfl

theorem pX_within_Bits {S : zSt} {kd ky : Nat → Nat} {N : Nat} {x1 x2 : Int32} (hN : N ≤ 200) (hb : ∀ t, t < N → kd t < 8 ∧ ky t < 64) (h : zSh 5 S kd ky N) : fX_X7_isWithin_Bits x1 x2 S = some (nI (zb1 (zqI kd ky N x1 x2 5))) := by
  obtain ⟨_, ht, hc, hr⟩ := h
  have e1 := pX_worstS_Bits (c := zqC kd ky 5) hN ht hc
  have e2 := pX_great_Bits hN hb ht hr
  have ht' : S.1 (12 + 5) = nI N := ht
  have e15 : fX_X7_isWithin_Bits_15 x2 S = some (nI (if x2 < nI (zmr kd ky 5 N) then 0 else 1)) := by
    unfold fX_X7_isWithin_Bits_15
    rw [e2, Option.bind_some]
    by_cases q : x2 < nI (zmr kd ky 5 N)
    · rw [if_pos q, if_pos q]; rfl
    · rw [if_neg q, if_neg q]; rfl
  unfold fX_X7_isWithin_Bits
  rw [e15, e1]
  have hE := zqI_e (kd := kd) (ky := ky) (N := N) (j := 5) (x1 := x1) (x2 := x2)
  by_cases q : N = 0
  · rw [if_pos (show S.1 (12 + 5) = 0 by rw [ht', q]; rfl)]
    by_cases w : x2 < nI (zmr kd ky 5 N)
    · rw [if_pos w, show zqI kd ky N x1 x2 5 = false from Bool.eq_false_iff.mpr (fun e => (hE.mp e).1 w)]; rfl
    · rw [if_neg w, hE.mpr ⟨w, Or.inl q⟩]; rfl
  · rw [if_neg (show ¬ S.1 (12 + 5) = 0 from fun e => by rw [ht', zL0, zI_eq (by omega) (by omega)] at e; exact q e), Option.bind_some, if_neg q]
    by_cases w : x1 < zqC kd ky 5 (zqW (zqC kd ky 5) N)
    · rw [if_pos w, show zqI kd ky N x1 x2 5 = false from Bool.eq_false_iff.mpr (fun e => by
        rcases (hE.mp e).2 with y | y
        · exact q y
        · exact y w)]; rfl
    · rw [if_neg w]
      by_cases y : x2 < nI (zmr kd ky 5 N)
      · rw [if_pos y, show zqI kd ky N x1 x2 5 = false from Bool.eq_false_iff.mpr (fun e => (hE.mp e).1 y)]; rfl
      · rw [if_neg y, hE.mpr ⟨y, Or.inr w⟩]; rfl

theorem pX_dwithin {S : zSt} {kd ky : Nat → Nat} {N j : Nat} {x1 x2 : Int32} (hj : j < 6) (hN : N ≤ 200) (hb : ∀ t, t < N → kd t < 8 ∧ ky t < 64) (h : zSh j S kd ky N) : fX_d_isWithin j x1 x2 S = some (nI (zb1 (zqI kd ky N x1 x2 j))) := by
  rcases z6c hj with rfl | rfl | rfl | rfl | rfl | rfl
  · rw [fX_d_isWithin_0]; exact pX_within_Row hN hb h
  · rw [fX_d_isWithin_1]; exact pX_within_Sorted hN hb h
  · rw [fX_d_isWithin_2]; exact pX_within_Hash hN hb h
  · rw [fX_d_isWithin_3]; exact pX_within_Tree hN hb h
  · rw [fX_d_isWithin_4]; exact pX_within_Heap hN hb h
  · rw [fX_d_isWithin_5]; exact pX_within_Bits hN hb h
theorem pM_stepsOf_5 {S : zSt} {c : Nat → Int32} {N j : Nat} (hN : N ≤ 200) (hj : j < 6) (h2 : S.1 2 = nI N) (hc : ∀ t, t < N → S.2 11 (6 * t + j) = c t) : ∀ r i m a, r < m → i + r = N → fM_X11_stepsOf_5 m (nI j) a (nI i) S = some (zqS c r i a) := by
  intro r
  induction r with
  | zero =>
    intro i m a hm hi
    obtain ⟨m, rfl⟩ : ∃ m', m = m' + 1 := ⟨m - 1, by omega⟩
    simp (disch := omega) only [fM_X11_stepsOf_5, h2, ↓zN_eq, zL0, zL1, zL2, zL3, zL4, zL5, zL6, zL7, zL8, zL10, zL16, zL31, zL42, zL63, zL64, zL100, zL200, zL255, zL256, zL1000, zL12345, zL536870912, zI_le, zI_lt, zI_eq, zI_add, zI_sub, zI_mul, zI_neN, zI_Nne, zI_leN, zI_ltN, zI_Nle, zI_Nlt, zI_pred, zI_clamp, zI_div, zI_rem, zin_t, zgd_t, znz_t, if_pos, if_neg, if_true, if_false, Option.bind_some]; rfl
  | succ r ih =>
    intro i m a hm hi
    obtain ⟨m, rfl⟩ : ∃ m', m = m' + 1 := ⟨m - 1, by omega⟩
    have v := hc i (by omega)
    have k := ih (i + 1) m (a + c i) (by omega) (by omega)
    simp (disch := omega) only [fM_X11_stepsOf_5, h2, v, ↓zN_eq, zL0, zL1, zL2, zL3, zL4, zL5, zL6, zL7, zL8, zL10, zL16, zL31, zL42, zL63, zL64, zL100, zL200, zL255, zL256, zL1000, zL12345, zL536870912, zI_le, zI_lt, zI_eq, zI_add, zI_sub, zI_mul, zI_neN, zI_Nne, zI_leN, zI_ltN, zI_Nle, zI_Nlt, zI_pred, zI_clamp, zI_div, zI_rem, zin_t, zgd_t, znz_t, if_pos, if_neg, if_true, if_false, Option.bind_some]; exact k
theorem pM_stepsOf {S : zSt} {c : Nat → Int32} {N j p : Nat} (hN : N ≤ 200) (hj : j < 6) (h2 : S.1 2 = nI N) (hc : ∀ t, t < N → S.2 11 (6 * t + j) = c t) (hp : p ≤ N) : fM_X11_stepsOf (nI j) (nI p) S = some (zqS c (N - p) p (nI 0)) := by
  unfold fM_X11_stepsOf
  rw [zL0]; exact pM_stepsOf_5 hN hj h2 hc (N - p) p 1000 (nI 0) (by omega) (by omega)
theorem pM_worstOf_4 {S : zSt} {c : Nat → Int32} {N j : Nat} (hN : N ≤ 200) (hj : j < 6) (h2 : S.1 2 = nI N) (hc : ∀ t, t < N → S.2 11 (6 * t + j) = c t) : ∀ r i m, r < m → i + r = N → fM_X11_worstOf_4 m (nI j) (ze2 (zqW c i)) (nI i) S = some (ze2 (zqW c N)) := by
  intro r
  induction r with
  | zero =>
    intro i m hm hi
    obtain ⟨m, rfl⟩ : ∃ m', m = m' + 1 := ⟨m - 1, by omega⟩
    have e : i = N := by omega
    simp (disch := omega) only [fM_X11_worstOf_4, h2, ↓zN_eq, zL0, zL1, zL2, zL3, zL4, zL5, zL6, zL7, zL8, zL10, zL16, zL31, zL42, zL63, zL64, zL100, zL200, zL255, zL256, zL1000, zL12345, zL536870912, zI_le, zI_lt, zI_eq, zI_add, zI_sub, zI_mul, zI_neN, zI_Nne, zI_leN, zI_ltN, zI_Nle, zI_Nlt, zI_pred, zI_clamp, zI_div, zI_rem, zin_t, zgd_t, znz_t, if_pos, if_neg, if_true, if_false, Option.bind_some, e]
  | succ r ih =>
    intro i m hm hi
    obtain ⟨m, rfl⟩ : ∃ m', m = m' + 1 := ⟨m - 1, by omega⟩
    have v := hc i (by omega)
    have k := ih (i + 1) m (by omega) (by omega)
    have hw := zqW_lt c i
    have es : zqW c (i + 1) = if zqW c i = 200 then i else if c i ≤ c (zqW c i) then zqW c i else i := rfl
    rw [es] at k
    rw [← k]
    by_cases q : zqW c i = 200
    · rw [if_pos q, q, show ze2 200 = zN from if_pos rfl, show ze2 i = nI i from if_neg (by omega)]
      simp (disch := omega) only [fM_X11_worstOf_4, fM_X11_worstOf_42, h2, ↓zN_eq, zL0, zL1, zL2, zL3, zL4, zL5, zL6, zL7, zL8, zL10, zL16, zL31, zL42, zL63, zL64, zL100, zL200, zL255, zL256, zL1000, zL12345, zL536870912, zI_le, zI_lt, zI_eq, zI_add, zI_sub, zI_mul, zI_neN, zI_Nne, zI_leN, zI_ltN, zI_Nle, zI_Nlt, zI_pred, zI_clamp, zI_div, zI_rem, zin_t, zgd_t, znz_t, if_pos, if_neg, if_true, if_false, Option.bind_some]
    · have v2 := hc (zqW c i) (by omega)
      rw [if_neg q]
      by_cases w : c i ≤ c (zqW c i)
      · rw [if_pos w]
        rw [show ze2 (zqW c i) = nI (zqW c i) from if_neg q]
        rw [fM_X11_worstOf_4]
        simp (disch := omega) only [h2, v, v2, w, ↓zN_eq, zL0, zL1, zL2, zL3, zL4, zL5, zL6, zL7, zL8, zL10, zL16, zL31, zL42, zL63, zL64, zL100, zL200, zL255, zL256, zL1000, zL12345, zL536870912, zI_le, zI_lt, zI_eq, zI_add, zI_sub, zI_mul, zI_neN, zI_Nne, zI_leN, zI_ltN, zI_Nle, zI_Nlt, zI_pred, zI_clamp, zI_div, zI_rem, zin_t, zgd_t, znz_t, if_pos, if_neg, if_true, if_false, Option.bind_some]
      · rw [if_neg w]
        rw [show ze2 (zqW c i) = nI (zqW c i) from if_neg q, show ze2 i = nI i from if_neg (by omega)]
        rw [fM_X11_worstOf_4]
        simp (disch := omega) only [fM_X11_worstOf_42, h2, v, v2, w, ↓zN_eq, zL0, zL1, zL2, zL3, zL4, zL5, zL6, zL7, zL8, zL10, zL16, zL31, zL42, zL63, zL64, zL100, zL200, zL255, zL256, zL1000, zL12345, zL536870912, zI_le, zI_lt, zI_eq, zI_add, zI_sub, zI_mul, zI_neN, zI_Nne, zI_leN, zI_ltN, zI_Nle, zI_Nlt, zI_pred, zI_clamp, zI_div, zI_rem, zin_t, zgd_t, znz_t, if_pos, if_neg, if_true, if_false, Option.bind_some]
theorem pM_worstOf {S : zSt} {c : Nat → Int32} {N j : Nat} (hN : N ≤ 200) (hj : j < 6) (h2 : S.1 2 = nI N) (hc : ∀ t, t < N → S.2 11 (6 * t + j) = c t) : fM_X11_worstOf (nI j) S = some (ze2 (zqW c N)) := by
  unfold fM_X11_worstOf
  rw [zL0, zN_eq]; exact pM_worstOf_4 hN hj h2 hc N 0 1000 (by omega) (by omega)
/-! the best of some -/
def zqB (off : Nat → Bool) (f : Nat → Int32) : Nat → Nat
  | 0 => 6
  | r + 1 => if off r = true then (if zqB off f r = 6 then r else if f (zqB off f r) ≤ f r then zqB off f r else r) else zqB off f r
theorem zqB_lt (off : Nat → Bool) (f : Nat → Int32) : ∀ r, zqB off f r = 6 ∨ (zqB off f r < r ∧ off (zqB off f r) = true) := by
  intro r
  induction r with
  | zero => exact Or.inl rfl
  | succ r ih =>
    have es : zqB off f (r + 1) = if off r = true then (if zqB off f r = 6 then r else if f (zqB off f r) ≤ f r then zqB off f r else r) else zqB off f r := rfl
    rw [es]
    by_cases q : off r = true
    · rw [if_pos q]
      by_cases w : zqB off f r = 6
      · rw [if_pos w]; exact Or.inr ⟨by omega, q⟩
      · rw [if_neg w]
        by_cases y : f (zqB off f r) ≤ f r
        · rw [if_pos y]
          rcases ih with u | ⟨u1, u2⟩
          · exact Or.inl u
          · exact Or.inr ⟨by omega, u2⟩
        · rw [if_neg y]; exact Or.inr ⟨by omega, q⟩
    · rw [if_neg q]
      rcases ih with u | ⟨u1, u2⟩
      · exact Or.inl u
      · exact Or.inr ⟨by omega, u2⟩
def ze6 (w : Nat) : Int32 := if w = 6 then zN else nI w
theorem ze6_6 : ze6 6 = zN := if_pos rfl
theorem ze6_n {w : Nat} (h : w ≠ 6) : ze6 w = nI w := if_neg h
theorem pX_cheap_8 {S : zSt} {m x1 : Int32} {off : Nat → Bool} {f : Nat → Int32} (hm : ∀ s, s < 6 → fX_X10_isIn m (nI s) S = some (nI (zb1 (off s)))) (hf : ∀ s, s < 6 → fX_d_stepsSince s x1 S = some (f s)) : ∀ r i u x4, r < u → i + r = 6 → (zqB off f i ≠ 6 → x4 = f (zqB off f i)) → fX_X10_cheapestSince_8 u x1 m (ze6 (zqB off f i)) x4 (nI i) S = some (ze6 (zqB off f 6)) := by
  intro r
  induction r with
  | zero =>
    intro i u x4 hu hi hx
    obtain ⟨u, rfl⟩ : ∃ u', u = u' + 1 := ⟨u - 1, by omega⟩
    have e : i = 6 := by omega
    rw [e]
    simp (disch := omega) only [fX_X10_cheapestSince_8, ↓zN_eq, zL0, zL1, zL2, zL3, zL4, zL5, zL6, zL7, zL8, zL10, zL16, zL31, zL42, zL63, zL64, zL100, zL200, zL255, zL256, zL1000, zL12345, zL536870912, zI_le, zI_lt, zI_eq, zI_add, zI_sub, zI_mul, zI_neN, zI_Nne, zI_leN, zI_ltN, zI_Nle, zI_Nlt, zI_pred, zI_clamp, zI_div, zI_rem, zin_t, zgd_t, znz_t, if_pos, if_neg, if_true, if_false, Option.bind_some]
  | succ r ih =>
    intro i u x4 hu hi hx
    obtain ⟨u, rfl⟩ : ∃ u', u = u' + 1 := ⟨u - 1, by omega⟩
    have h1 := hm i (by omega)
    have h2 := hf i (by omega)
    have hl := zqB_lt off f i
    have es : zqB off f (i + 1) = if off i = true then (if zqB off f i = 6 then i else if f (zqB off f i) ≤ f i then zqB off f i else i) else zqB off f i := rfl
    by_cases q : off i = true
    · rw [q, zb1_t] at h1
      rw [if_pos q] at es
      by_cases w : zqB off f i = 6
      · rw [if_pos w] at es
        have k := ih (i + 1) u (f i) (by omega) (by omega) (fun _ => by rw [es])
        rw [es, ze6_n (by omega)] at k
        rw [w, ze6_6, ← k, fX_X10_cheapestSince_8]
        simp (disch := omega) only [fX_X10_cheapestSince_31, fX_X10_cheapestSince_35, fX_X10_cheapestSince_49, h1, h2, ↓zN_eq, zL0, zL1, zL2, zL3, zL4, zL5, zL6, zL7, zL8, zL10, zL16, zL31, zL42, zL63, zL64, zL100, zL200, zL255, zL256, zL1000, zL12345, zL536870912, zI_le, zI_lt, zI_eq, zI_add, zI_sub, zI_mul, zI_neN, zI_Nne, zI_leN, zI_ltN, zI_Nle, zI_Nlt, zI_pred, zI_clamp, zI_div, zI_rem, zin_t, zgd_t, znz_t, if_pos, if_neg, if_true, if_false, Option.bind_some]
      · rw [if_neg w] at es
        have hx' := hx w
        by_cases y : f (zqB off f i) ≤ f i
        · rw [if_pos y] at es
          have k := ih (i + 1) u x4 (by omega) (by omega) (fun _ => by rw [es]; exact hx')
          rw [es] at k
          rw [← k, ze6_n w, hx', fX_X10_cheapestSince_8]
          simp (disch := omega) only [fX_X10_cheapestSince_31, fX_X10_cheapestSince_35, fX_X10_cheapestSince_49, h1, h2, y, ↓zN_eq, zL0, zL1, zL2, zL3, zL4, zL5, zL6, zL7, zL8, zL10, zL16, zL31, zL42, zL63, zL64, zL100, zL200, zL255, zL256, zL1000, zL12345, zL536870912, zI_le, zI_lt, zI_eq, zI_add, zI_sub, zI_mul, zI_neN, zI_Nne, zI_leN, zI_ltN, zI_Nle, zI_Nlt, zI_pred, zI_clamp, zI_div, zI_rem, zin_t, zgd_t, znz_t, if_pos, if_neg, if_true, if_false, Option.bind_some]
        · rw [if_neg y] at es
          have k := ih (i + 1) u (f i) (by omega) (by omega) (fun _ => by rw [es])
          rw [es, ze6_n (by omega)] at k
          rw [← k, ze6_n w, hx', fX_X10_cheapestSince_8]
          simp (disch := omega) only [fX_X10_cheapestSince_31, fX_X10_cheapestSince_35, fX_X10_cheapestSince_49, h1, h2, y, ↓zN_eq, zL0, zL1, zL2, zL3, zL4, zL5, zL6, zL7, zL8, zL10, zL16, zL31, zL42, zL63, zL64, zL100, zL200, zL255, zL256, zL1000, zL12345, zL536870912, zI_le, zI_lt, zI_eq, zI_add, zI_sub, zI_mul, zI_neN, zI_Nne, zI_leN, zI_ltN, zI_Nle, zI_Nlt, zI_pred, zI_clamp, zI_div, zI_rem, zin_t, zgd_t, znz_t, if_pos, if_neg, if_true, if_false, Option.bind_some]
    · rw [Bool.eq_false_iff.mpr q, zb1_f] at h1
      rw [if_neg q] at es
      have k := ih (i + 1) u x4 (by omega) (by omega) (fun n => by rw [es]; rw [es] at n; exact hx n)
      rw [es] at k
      rw [← k, fX_X10_cheapestSince_8]
      simp (disch := omega) only [h1, ↓zN_eq, zL0, zL1, zL2, zL3, zL4, zL5, zL6, zL7, zL8, zL10, zL16, zL31, zL42, zL63, zL64, zL100, zL200, zL255, zL256, zL1000, zL12345, zL536870912, zI_le, zI_lt, zI_eq, zI_add, zI_sub, zI_mul, zI_neN, zI_Nne, zI_leN, zI_ltN, zI_Nle, zI_Nlt, zI_pred, zI_clamp, zI_div, zI_rem, zin_t, zgd_t, znz_t, if_pos, if_neg, if_true, if_false, Option.bind_some]
theorem pX_cheap {S : zSt} {m x1 : Int32} {off : Nat → Bool} {f : Nat → Int32} (hm : ∀ s, s < 6 → fX_X10_isIn m (nI s) S = some (nI (zb1 (off s)))) (hf : ∀ s, s < 6 → fX_d_stepsSince s x1 S = some (f s)) : fX_X10_cheapestSince x1 m S = some (ze6 (zqB off f 6)) := by
  unfold fX_X10_cheapestSince
  rw [zL0, zN_eq, ← ze6_6]
  exact pX_cheap_8 (off := off) (f := f) hm hf 6 0 1000 (nI 0) (by omega) (by omega) (fun n => absurd rfl n)
def zwm (b : Nat → Bool) : Nat → Int32
  | 0 => 0
  | r + 1 => if b r = true then zwm b r ||| (1 <<< (nI r &&& 31)) else zwm b r
def zwx (b0 b1 b2 b3 b4 b5 : Bool) : Int32 :=
  let m0 : Int32 := if b0 = true then (0 : Int32) ||| ((1 : Int32) <<< (nI 0 &&& 31)) else 0
  let m1 := if b1 = true then m0 ||| (1 <<< (nI 1 &&& 31)) else m0
  let m2 := if b2 = true then m1 ||| (1 <<< (nI 2 &&& 31)) else m1
  let m3 := if b3 = true then m2 ||| (1 <<< (nI 3 &&& 31)) else m2
  let m4 := if b4 = true then m3 ||| (1 <<< (nI 4 &&& 31)) else m3
  if b5 = true then m4 ||| (1 <<< (nI 5 &&& 31)) else m4
theorem zwm_x (b : Nat → Bool) : zwm b 6 = zwx (b 0) (b 1) (b 2) (b 3) (b 4) (b 5) := rfl
theorem zwx_0 : ∀ g a h b0 b1 b2 b3 b4 b5 : Bool, (((zqM (zb1 g) (zb1 a) h &&& zwx b0 b1 b2 b3 b4 b5) >>> (nI 0 &&& 31)) &&& 1 = 1) ↔ ((zqO (zb1 g) (zb1 a) h 0 && b0) = true) := by decide +kernel

theorem zwx_1 : ∀ g a h b0 b1 b2 b3 b4 b5 : Bool, (((zqM (zb1 g) (zb1 a) h &&& zwx b0 b1 b2 b3 b4 b5) >>> (nI 1 &&& 31)) &&& 1 = 1) ↔ ((zqO (zb1 g) (zb1 a) h 1 && b1) = true) := by decide +kernel

theorem zwx_2 : ∀ g a h b0 b1 b2 b3 b4 b5 : Bool, (((zqM (zb1 g) (zb1 a) h &&& zwx b0 b1 b2 b3 b4 b5) >>> (nI 2 &&& 31)) &&& 1 = 1) ↔ ((zqO (zb1 g) (zb1 a) h 2 && b2) = true) := by decide +kernel

theorem zwx_3 : ∀ g a h b0 b1 b2 b3 b4 b5 : Bool, (((zqM (zb1 g) (zb1 a) h &&& zwx b0 b1 b2 b3 b4 b5) >>> (nI 3 &&& 31)) &&& 1 = 1) ↔ ((zqO (zb1 g) (zb1 a) h 3 && b3) = true) := by decide +kernel

theorem zwx_4 : ∀ g a h b0 b1 b2 b3 b4 b5 : Bool, (((zqM (zb1 g) (zb1 a) h &&& zwx b0 b1 b2 b3 b4 b5) >>> (nI 4 &&& 31)) &&& 1 = 1) ↔ ((zqO (zb1 g) (zb1 a) h 4 && b4) = true) := by decide +kernel

theorem zwx_5 : ∀ g a h b0 b1 b2 b3 b4 b5 : Bool, (((zqM (zb1 g) (zb1 a) h &&& zwx b0 b1 b2 b3 b4 b5) >>> (nI 5 &&& 31)) &&& 1 = 1) ↔ ((zqO (zb1 g) (zb1 a) h 5 && b5) = true) := by decide +kernel

theorem zb1_of {a : Nat} (h : a ≤ 1) : ∃ g, a = zb1 g := by
  rcases z01 h with rfl | rfl
  · exact ⟨false, rfl⟩
  · exact ⟨true, rfl⟩
theorem zwm_is {gu ac j : Nat} {hf : Bool} {b : Nat → Bool} (hgu : gu ≤ 1) (hac : ac ≤ 1) (hj : j < 6) : ((((zqM gu ac hf &&& zwm b 6) >>> (nI j &&& 31)) &&& 1) = 1) = ((zqO gu ac hf j && b j) = true) := by
  obtain ⟨g, rfl⟩ := zb1_of hgu
  obtain ⟨a, rfl⟩ := zb1_of hac
  rw [zwm_x]
  rcases z6c hj with rfl | rfl | rfl | rfl | rfl | rfl
  · exact propext (zwx_0 g a hf _ _ _ _ _ _)
  · exact propext (zwx_1 g a hf _ _ _ _ _ _)
  · exact propext (zwx_2 g a hf _ _ _ _ _ _)
  · exact propext (zwx_3 g a hf _ _ _ _ _ _)
  · exact propext (zwx_4 g a hf _ _ _ _ _ _)
  · exact propext (zwx_5 g a hf _ _ _ _ _ _)

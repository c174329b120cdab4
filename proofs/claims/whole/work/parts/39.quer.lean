/-! any int: below 0, or a number -/
theorem zcs (x : Int32) : x.toInt < 0 ∨ ∃ a, a < 2147483648 ∧ x = nI a := by
  by_cases h : x.toInt < 0
  · exact Or.inl h
  · exact Or.inr (zof (by omega))
theorem zneg {x : Int32} (hx : x.toInt < 0) : (∀ a, a < 2147483648 → (nI a ≤ x) = False) ∧ (∀ a, a < 2147483648 → (nI a < x) = False) ∧ (∀ a, a < 2147483648 → (x = nI a) = False) ∧ (∀ a, a < 2147483648 → (x ≤ nI a) = True) ∧ (∀ a, a < 2147483648 → (x < nI a) = True) := by
  refine ⟨fun a ha => eq_false fun e => ?_, fun a ha => eq_false fun e => ?_, fun a ha => eq_false fun e => ?_, fun a ha => eq_true ?_, fun a ha => eq_true ?_⟩
  · have := Int32.le_iff_toInt_le.mp e
    rw [nI_toInt ha] at this
    omega
  · have := Int32.lt_iff_toInt_lt.mp e
    rw [nI_toInt ha] at this
    omega
  · have := congrArg Int32.toInt e
    rw [nI_toInt ha] at this
    omega
  · refine Int32.le_iff_toInt_le.mpr ?_
    rw [nI_toInt ha]
    omega
  · refine Int32.lt_iff_toInt_lt.mpr ?_
    rw [nI_toInt ha]
    omega
theorem zmax_n {a b : Nat} (ha : a < 2147483648) (hb : b < 2147483648) : zmax (nI a) (nI b) = nI (max a b) := by
  unfold zmax
  by_cases q : a < b
  · rw [if_pos (by rw [zI_lt ha hb]; exact q), Nat.max_eq_right (by omega)]
  · rw [if_neg (by rw [zI_lt ha hb]; exact q), Nat.max_eq_left (by omega)]
theorem zbo_0 : zbo (nI 0) = true := by decide
theorem zbo_1 : zbo (nI 1) = true := by decide
theorem pM_in_n {x hi : Int32} {lo : Nat} {S : zSt} (hx : x.toInt < 0) (hl : lo < 2147483648) : fM_X11_in x (nI lo) hi S = some (nI 0) := by
  have h := (zneg hx).2.2.2.2 lo hl
  unfold fM_X11_in
  simp only [h, if_true, zL0]
theorem pM_in_t {a lo hi : Nat} {S : zSt} (ha : a < 2147483648) (hh : hi < 2147483648) (h1 : lo ≤ a) (h2 : a ≤ hi) : fM_X11_in (nI a) (nI lo) (nI hi) S = some (nI 1) := by
  unfold fM_X11_in
  simp (disch := omega) only [↓zN_eq, zL0, zL1, zL2, zL3, zL4, zL5, zL6, zL7, zL8, zL10, zL16, zL31, zL42, zL63, zL64, zL100, zL200, zL255, zL256, zL1000, zL12345, zL536870912, zI_le, zI_lt, zI_eq, zI_add, zI_sub, zI_mul, zI_neN, zI_Nne, zI_leN, zI_ltN, zI_Nle, zI_Nlt, zI_pred, zI_clamp, zI_div, zI_rem, zin_t, zgd_t, znz_t, if_pos, if_neg, if_true, if_false, Option.bind_some]
theorem pM_in_f {a lo hi : Nat} {S : zSt} (ha : a < 2147483648) (hh : hi < 2147483648) (hl : lo < 2147483648) (h : a < lo ∨ hi < a) : fM_X11_in (nI a) (nI lo) (nI hi) S = some (nI 0) := by
  unfold fM_X11_in
  by_cases q : a < lo
  · simp (disch := omega) only [↓zN_eq, zL0, zL1, zL2, zL3, zL4, zL5, zL6, zL7, zL8, zL10, zL16, zL31, zL42, zL63, zL64, zL100, zL200, zL255, zL256, zL1000, zL12345, zL536870912, zI_le, zI_lt, zI_eq, zI_add, zI_sub, zI_mul, zI_neN, zI_Nne, zI_leN, zI_ltN, zI_Nle, zI_Nlt, zI_pred, zI_clamp, zI_div, zI_rem, zin_t, zgd_t, znz_t, if_pos, if_neg, if_true, if_false, Option.bind_some]
  · simp (disch := omega) only [↓zN_eq, zL0, zL1, zL2, zL3, zL4, zL5, zL6, zL7, zL8, zL10, zL16, zL31, zL42, zL63, zL64, zL100, zL200, zL255, zL256, zL1000, zL12345, zL536870912, zI_le, zI_lt, zI_eq, zI_add, zI_sub, zI_mul, zI_neN, zI_Nne, zI_leN, zI_ltN, zI_Nle, zI_Nlt, zI_pred, zI_clamp, zI_div, zI_rem, zin_t, zgd_t, znz_t, if_pos, if_neg, if_true, if_false, Option.bind_some]
theorem pM_in_N {a : Nat} {S : zSt} (ha : a < 2147483648) : fM_X11_in (nI a) (nI 0) zN S = some (nI 0) := by
  unfold fM_X11_in
  simp (disch := omega) only [↓zN_eq, zL0, zL1, zL2, zL3, zL4, zL5, zL6, zL7, zL8, zL10, zL16, zL31, zL42, zL63, zL64, zL100, zL200, zL255, zL256, zL1000, zL12345, zL536870912, zI_le, zI_lt, zI_eq, zI_add, zI_sub, zI_mul, zI_neN, zI_Nne, zI_leN, zI_ltN, zI_Nle, zI_Nlt, zI_pred, zI_clamp, zI_div, zI_rem, zin_t, zgd_t, znz_t, if_pos, if_neg, if_true, if_false, Option.bind_some]
theorem zN_0 : nI 0 - nI 1 = zN := by decide
theorem pM_isCall_n {x : Int32} {S : zSt} (hx : x.toInt < 0) : fM_X11_isCall x S = some (nI 0) := by
  unfold fM_X11_isCall
  rw [zL0, pM_in_n hx (by omega), Option.bind_some, zbo_0, zgd_t]
theorem pM_isCall_t {S : zSt} {N i : Nat} (h2 : S.1 2 = nI N) (hN : N ≤ 200) (hi : i < N) : fM_X11_isCall (nI i) S = some (nI 1) := by
  unfold fM_X11_isCall
  rw [h2, zL0, zL1, zI_sub (by omega), pM_in_t (by omega) (by omega) (by omega) (by omega), Option.bind_some, zbo_1, zgd_t]
theorem pM_isCall_f {S : zSt} {N i : Nat} (h2 : S.1 2 = nI N) (hN : N ≤ 200) (hi : N ≤ i) (hi2 : i < 2147483648) : fM_X11_isCall (nI i) S = some (nI 0) := by
  unfold fM_X11_isCall
  by_cases q : N = 0
  · rw [h2, zL0, zL1, q, zN_0, pM_in_N (by omega), Option.bind_some, zbo_0, zgd_t]
  · rw [h2, zL0, zL1, zI_sub (by omega), pM_in_f (by omega) (by omega) (by omega) (by omega), Option.bind_some, zbo_0, zgd_t]
theorem pM_isShelf_n {x : Int32} {S : zSt} (hx : x.toInt < 0) : fM_X11_isShelf x S = some (nI 0) := by
  unfold fM_X11_isShelf
  rw [zL0, pM_in_n hx (by omega), Option.bind_some, zbo_0, zgd_t]
theorem pM_isShelf_t {S : zSt} {j : Nat} (hj : j < 6) : fM_X11_isShelf (nI j) S = some (nI 1) := by
  unfold fM_X11_isShelf
  rw [zL0, zL5, pM_in_t (by omega) (by omega) (by omega) (by omega), Option.bind_some, zbo_1, zgd_t]
theorem pM_isShelf_f {S : zSt} {j : Nat} (hj : 6 ≤ j) (hj2 : j < 2147483648) : fM_X11_isShelf (nI j) S = some (nI 0) := by
  unfold fM_X11_isShelf
  rw [zL0, zL5, pM_in_f (by omega) (by omega) (by omega) (by omega), Option.bind_some, zbo_0, zgd_t]
theorem pX_isCall_n {x : Int32} {S : zSt} (hx : x.toInt < 0) : fX_X10_isCall x S = some (nI 0) := by
  have h := (zneg hx).2.2.2.2 0 (by omega)
  unfold fX_X10_isCall
  simp only [zL0, h, if_true]
theorem pX_isCall_t {S : zSt} {N i : Nat} (h0 : S.1 0 = nI N) (hN : N ≤ 200) (hi : i < N) : fX_X10_isCall (nI i) S = some (nI 1) := by
  unfold fX_X10_isCall
  simp (disch := omega) only [h0, ↓zN_eq, zL0, zL1, zL2, zL3, zL4, zL5, zL6, zL7, zL8, zL10, zL16, zL31, zL42, zL63, zL64, zL100, zL200, zL255, zL256, zL1000, zL12345, zL536870912, zI_le, zI_lt, zI_eq, zI_add, zI_sub, zI_mul, zI_neN, zI_Nne, zI_leN, zI_ltN, zI_Nle, zI_Nlt, zI_pred, zI_clamp, zI_div, zI_rem, zin_t, zgd_t, znz_t, if_pos, if_neg, if_true, if_false, Option.bind_some]
theorem pX_isCall_f {S : zSt} {N i : Nat} (h0 : S.1 0 = nI N) (hN : N ≤ 200) (hi : N ≤ i) (hi2 : i < 2147483648) : fX_X10_isCall (nI i) S = some (nI 0) := by
  unfold fX_X10_isCall
  simp (disch := omega) only [h0, ↓zN_eq, zL0, zL1, zL2, zL3, zL4, zL5, zL6, zL7, zL8, zL10, zL16, zL31, zL42, zL63, zL64, zL100, zL200, zL255, zL256, zL1000, zL12345, zL536870912, zI_le, zI_lt, zI_eq, zI_add, zI_sub, zI_mul, zI_neN, zI_Nne, zI_leN, zI_ltN, zI_Nle, zI_Nlt, zI_pred, zI_clamp, zI_div, zI_rem, zin_t, zgd_t, znz_t, if_pos, if_neg, if_true, if_false, Option.bind_some]
theorem pX_isShelf_n {x : Int32} {S : zSt} (hx : x.toInt < 0) : fX_X10_isShelf x S = some (nI 0) := by
  have h := (zneg hx).2.2.2.2 0 (by omega)
  unfold fX_X10_isShelf
  simp only [zL0, h, if_true]
theorem pX_isShelf_t {S : zSt} {j : Nat} (hj : j < 6) : fX_X10_isShelf (nI j) S = some (nI 1) := by
  unfold fX_X10_isShelf
  simp (disch := omega) only [↓zN_eq, zL0, zL1, zL2, zL3, zL4, zL5, zL6, zL7, zL8, zL10, zL16, zL31, zL42, zL63, zL64, zL100, zL200, zL255, zL256, zL1000, zL12345, zL536870912, zI_le, zI_lt, zI_eq, zI_add, zI_sub, zI_mul, zI_neN, zI_Nne, zI_leN, zI_ltN, zI_Nle, zI_Nlt, zI_pred, zI_clamp, zI_div, zI_rem, zin_t, zgd_t, znz_t, if_pos, if_neg, if_true, if_false, Option.bind_some]
theorem pX_isShelf_f {S : zSt} {j : Nat} (hj : 6 ≤ j) (hj2 : j < 2147483648) : fX_X10_isShelf (nI j) S = some (nI 0) := by
  unfold fX_X10_isShelf
  simp (disch := omega) only [↓zN_eq, zL0, zL1, zL2, zL3, zL4, zL5, zL6, zL7, zL8, zL10, zL16, zL31, zL42, zL63, zL64, zL100, zL200, zL255, zL256, zL1000, zL12345, zL536870912, zI_le, zI_lt, zI_eq, zI_add, zI_sub, zI_mul, zI_neN, zI_Nne, zI_leN, zI_ltN, zI_Nle, zI_Nlt, zI_pred, zI_clamp, zI_div, zI_rem, zin_t, zgd_t, znz_t, if_pos, if_neg, if_true, if_false, Option.bind_some]
/-! offered -/
def zqF (kd : Nat → Nat) : Nat → Nat → Bool
  | 0, _ => false
  | r + 1, i => if kd i = 6 then true else zqF kd r (i + 1)
def zqO (gu ac : Nat) (hf : Bool) (s : Nat) : Bool := !(decide (gu = 1) && decide (s % 2 = 0)) && (decide (s = 0) || (decide (ac = 0) && !hf))
def zb1 (b : Bool) : Nat := if b = true then 1 else 0
theorem zb1_t : zb1 true = 1 := if_pos rfl
theorem zb1_f : zb1 false = 0 := if_neg (by decide)
theorem pM_hasFirst_2 {S : zSt} {kd : Nat → Nat} {N : Nat} (hN : N ≤ 200) (h2 : S.1 2 = nI N) (h0 : zRp (S.2 0) N kd) (hb : ∀ t, t < N → kd t < 8) : ∀ r i m, r < m → i + r = N → fM_X11_hasFirst_2 m (nI i) S = some (nI (zb1 (zqF kd r i))) := by
  intro r
  induction r with
  | zero =>
    intro i m hm hi
    obtain ⟨m, rfl⟩ : ∃ m', m = m' + 1 := ⟨m - 1, by omega⟩
    simp (disch := omega) only [fM_X11_hasFirst_2, h2, ↓zN_eq, zL0, zL1, zL2, zL3, zL4, zL5, zL6, zL7, zL8, zL10, zL16, zL31, zL42, zL63, zL64, zL100, zL200, zL255, zL256, zL1000, zL12345, zL536870912, zI_le, zI_lt, zI_eq, zI_add, zI_sub, zI_mul, zI_neN, zI_Nne, zI_leN, zI_ltN, zI_Nle, zI_Nlt, zI_pred, zI_clamp, zI_div, zI_rem, zin_t, zgd_t, znz_t, if_pos, if_neg, if_true, if_false, Option.bind_some]; rfl
  | succ r ih =>
    intro i m hm hi
    obtain ⟨m, rfl⟩ : ∃ m', m = m' + 1 := ⟨m - 1, by omega⟩
    have v := h0 i (by omega)
    have w := hb i (by omega)
    have k := ih (i + 1) m (by omega) (by omega)
    by_cases q : kd i = 6
    · rw [show zqF kd (r + 1) i = true from if_pos q]
      simp (disch := omega) only [fM_X11_hasFirst_2, h2, v, ↓zN_eq, zL0, zL1, zL2, zL3, zL4, zL5, zL6, zL7, zL8, zL10, zL16, zL31, zL42, zL63, zL64, zL100, zL200, zL255, zL256, zL1000, zL12345, zL536870912, zI_le, zI_lt, zI_eq, zI_add, zI_sub, zI_mul, zI_neN, zI_Nne, zI_leN, zI_ltN, zI_Nle, zI_Nlt, zI_pred, zI_clamp, zI_div, zI_rem, zin_t, zgd_t, znz_t, if_pos, if_neg, if_true, if_false, Option.bind_some]; rfl
    · rw [show zqF kd (r + 1) i = zqF kd r (i + 1) from if_neg q]
      simp (disch := omega) only [fM_X11_hasFirst_2, h2, v, ↓zN_eq, zL0, zL1, zL2, zL3, zL4, zL5, zL6, zL7, zL8, zL10, zL16, zL31, zL42, zL63, zL64, zL100, zL200, zL255, zL256, zL1000, zL12345, zL536870912, zI_le, zI_lt, zI_eq, zI_add, zI_sub, zI_mul, zI_neN, zI_Nne, zI_leN, zI_ltN, zI_Nle, zI_Nlt, zI_pred, zI_clamp, zI_div, zI_rem, zin_t, zgd_t, znz_t, if_pos, if_neg, if_true, if_false, Option.bind_some]; exact k
theorem pX_asksFirst_2 {S : zSt} {kd : Nat → Nat} {N : Nat} (hN : N ≤ 200) (h2 : S.1 0 = nI N) (h0 : zRp (S.2 28) N kd) (hb : ∀ t, t < N → kd t < 8) : ∀ r i m, r < m → i + r = N → fX_X10_asksFirst_2 m (nI i) S = some (nI (zb1 (zqF kd r i))) := by
  intro r
  induction r with
  | zero =>
    intro i m hm hi
    obtain ⟨m, rfl⟩ : ∃ m', m = m' + 1 := ⟨m - 1, by omega⟩
    simp (disch := omega) only [fX_X10_asksFirst_2, h2, ↓zN_eq, zL0, zL1, zL2, zL3, zL4, zL5, zL6, zL7, zL8, zL10, zL16, zL31, zL42, zL63, zL64, zL100, zL200, zL255, zL256, zL1000, zL12345, zL536870912, zI_le, zI_lt, zI_eq, zI_add, zI_sub, zI_mul, zI_neN, zI_Nne, zI_leN, zI_ltN, zI_Nle, zI_Nlt, zI_pred, zI_clamp, zI_div, zI_rem, zin_t, zgd_t, znz_t, if_pos, if_neg, if_true, if_false, Option.bind_some]; rfl
  | succ r ih =>
    intro i m hm hi
    obtain ⟨m, rfl⟩ : ∃ m', m = m' + 1 := ⟨m - 1, by omega⟩
    have v := h0 i (by omega)
    have w := hb i (by omega)
    have k := ih (i + 1) m (by omega) (by omega)
    by_cases q : kd i = 6
    · rw [show zqF kd (r + 1) i = true from if_pos q]
      simp (disch := omega) only [fX_X10_asksFirst_2, h2, v, ↓zN_eq, zL0, zL1, zL2, zL3, zL4, zL5, zL6, zL7, zL8, zL10, zL16, zL31, zL42, zL63, zL64, zL100, zL200, zL255, zL256, zL1000, zL12345, zL536870912, zI_le, zI_lt, zI_eq, zI_add, zI_sub, zI_mul, zI_neN, zI_Nne, zI_leN, zI_ltN, zI_Nle, zI_Nlt, zI_pred, zI_clamp, zI_div, zI_rem, zin_t, zgd_t, znz_t, if_pos, if_neg, if_true, if_false, Option.bind_some]; rfl
    · rw [show zqF kd (r + 1) i = zqF kd r (i + 1) from if_neg q]
      simp (disch := omega) only [fX_X10_asksFirst_2, h2, v, ↓zN_eq, zL0, zL1, zL2, zL3, zL4, zL5, zL6, zL7, zL8, zL10, zL16, zL31, zL42, zL63, zL64, zL100, zL200, zL255, zL256, zL1000, zL12345, zL536870912, zI_le, zI_lt, zI_eq, zI_add, zI_sub, zI_mul, zI_neN, zI_Nne, zI_leN, zI_ltN, zI_Nle, zI_Nlt, zI_pred, zI_clamp, zI_div, zI_rem, zin_t, zgd_t, znz_t, if_pos, if_neg, if_true, if_false, Option.bind_some]; exact k
theorem pM_hasFirst {S : zSt} {kd : Nat → Nat} {N : Nat} (hN : N ≤ 200) (h2 : S.1 2 = nI N) (h0 : zRp (S.2 0) N kd) (hb : ∀ t, t < N → kd t < 8) : fM_X11_hasFirst S = some (nI (zb1 (zqF kd N 0))) := by
  unfold fM_X11_hasFirst
  rw [zL0]; exact pM_hasFirst_2 hN h2 h0 hb N 0 1000 (by omega) (by omega)
theorem pX_asksFirst {S : zSt} {kd : Nat → Nat} {N : Nat} (hN : N ≤ 200) (h2 : S.1 0 = nI N) (h0 : zRp (S.2 28) N kd) (hb : ∀ t, t < N → kd t < 8) : fX_X10_asksFirst S = some (nI (zb1 (zqF kd N 0))) := by
  unfold fX_X10_asksFirst
  rw [zL0]; exact pX_asksFirst_2 hN h2 h0 hb N 0 1000 (by omega) (by omega)
theorem z01 {a : Nat} (h : a ≤ 1) : a = 0 ∨ a = 1 := by omega
theorem pM_isOffered {S : zSt} {gu ac j : Nat} {hf : Bool} (hgu : gu ≤ 1) (hac : ac ≤ 1) (hj : j < 6) (h3 : S.1 3 = nI gu) (h4 : S.1 4 = nI ac) (hh : fM_X11_hasFirst S = some (nI (zb1 hf))) : fM_X11_isOffered (nI j) S = some (nI (zb1 (zqO gu ac hf j))) := by
  rcases z01 hgu with rfl | rfl <;> rcases z01 hac with rfl | rfl <;> cases hf <;> rcases z6c hj with rfl | rfl | rfl | rfl | rfl | rfl <;> (simp (disch := omega) only [fM_X11_isOffered, fM_X11_isOffered_15, fM_X11_isOffered_33, h3, h4, hh, zb1_t, zb1_f, ↓zN_eq, zL0, zL1, zL2, zL3, zL4, zL5, zL6, zL7, zL8, zL10, zL16, zL31, zL42, zL63, zL64, zL100, zL200, zL255, zL256, zL1000, zL12345, zL536870912, zI_le, zI_lt, zI_eq, zI_add, zI_sub, zI_mul, zI_neN, zI_Nne, zI_leN, zI_ltN, zI_Nle, zI_Nlt, zI_pred, zI_clamp, zI_div, zI_rem, zin_t, zgd_t, znz_t, if_pos, if_neg, if_true, if_false, Option.bind_some]; try rfl)
def zqM (gu ac : Nat) (hf : Bool) : Int32 := ((63 &&& (if gu = 0 then 63 else 42)) &&& (if ac = 0 then 63 else 1)) &&& (if hf = true then 1 else 63)
theorem pX_offered {S : zSt} {gu ac : Nat} {hf : Bool} (hgu : gu ≤ 1) (hac : ac ≤ 1) (h3 : S.1 1 = nI gu) (h4 : S.1 2 = nI ac) (hh : fX_X10_asksFirst S = some (nI (zb1 hf))) : fX_X10_offered S = some (zqM gu ac hf) := by
  have n0 : (nI 1 = (0 : Int32)) = False := eq_false (by decide)
  have n1 : (nI 0 = (0 : Int32)) = True := eq_true (by decide)
  rcases z01 hgu with rfl | rfl <;> rcases z01 hac with rfl | rfl <;> cases hf <;> (simp only [fX_X10_offered, fX_X10_offered_16, fX_X10_offered_30, fX_X10_offered_44, h3, h4, hh, zb1_t, zb1_f, n0, n1, if_true, if_false, Option.bind_some]; rfl)
theorem zqM_is {gu ac j : Nat} {hf : Bool} (hgu : gu ≤ 1) (hac : ac ≤ 1) (hj : j < 6) : (((zqM gu ac hf >>> (nI j &&& 31)) &&& 1) = 1) = (zqO gu ac hf j = true) := by
  rcases z01 hgu with rfl | rfl <;> rcases z01 hac with rfl | rfl <;> cases hf <;> rcases z6c hj with rfl | rfl | rfl | rfl | rfl | rfl <;> exact propext (by decide)
theorem pX_isIn {S : zSt} {m : Int32} {b : Bool} {j : Nat} (h : (((m >>> (nI j &&& 31)) &&& 1) = 1) = (b = true)) : fX_X10_isIn m (nI j) S = some (nI (zb1 b)) := by
  unfold fX_X10_isIn
  simp only [h]
  cases b
  · rw [if_neg (by decide)]; rfl
  · rw [if_pos rfl]; rfl
theorem pX_isOff {S : zSt} {gu ac j : Nat} {hf : Bool} (hgu : gu ≤ 1) (hac : ac ≤ 1) (hj : j < 6) : fX_X10_isIn (zqM gu ac hf) (nI j) S = some (nI (zb1 (zqO gu ac hf j))) := pX_isIn (zqM_is hgu hac hj)
/-! sums and worsts, over the ints of any line -/
def zqS (c : Nat → Int32) : Nat → Nat → Int32 → Int32
  | 0, _, a => a
  | r + 1, i, a => zqS c r (i + 1) (a + c i)
def zqW (c : Nat → Int32) : Nat → Nat
  | 0 => 200
  | i + 1 => if zqW c i = 200 then i else if c i ≤ c (zqW c i) then zqW c i else i
theorem zqW_lt (c : Nat → Int32) : ∀ i, zqW c i = 200 ∨ zqW c i < i := by
  intro i
  induction i with
  | zero => exact Or.inl rfl
  | succ i ih =>
    show (if zqW c i = 200 then i else if c i ≤ c (zqW c i) then zqW c i else i) = 200 ∨ (if zqW c i = 200 then i else if c i ≤ c (zqW c i) then zqW c i else i) < i + 1
    by_cases q : zqW c i = 200
    · rw [if_pos q]; omega
    · rw [if_neg q]
      by_cases w : c i ≤ c (zqW c i)
      · rw [if_pos w]; omega
      · rw [if_neg w]; omega
theorem zqW_0 (c : Nat → Int32) : ∀ i, i ≤ 200 → (zqW c i = 200 ↔ i = 0) := by
  intro i
  induction i with
  | zero => intro _; exact ⟨fun _ => rfl, fun _ => rfl⟩
  | succ i ih =>
    intro h
    have h1 := zqW_lt c i
    refine ⟨fun e => ?_, fun e => absurd e (by omega)⟩
    exfalso
    have e' : (if zqW c i = 200 then i else if c i ≤ c (zqW c i) then zqW c i else i) = 200 := e
    by_cases q : zqW c i = 200
    · rw [if_pos q] at e'; omega
    · rw [if_neg q] at e'
      by_cases w : c i ≤ c (zqW c i)
      · rw [if_pos w] at e'; exact q e'
      · rw [if_neg w] at e'; omega
def ze2 (w : Nat) : Int32 := if w = 200 then zN else nI w
def zqC (kd ky : Nat → Nat) (j t : Nat) : Int32 := nI (zac j (kd t) (ky t) (zA kd ky t))
theorem pX_since_Row_8 {S : zSt} {c : Nat → Int32} {N : Nat} (hN : N ≤ 200) (ht : S.1 (12 + 0) = nI N) (hc : ∀ t, t < N → S.2 (10 + 0) t = c t) : ∀ r i m a, r < m → i + r = N → fX_X7_stepsSince_Row_8 m a (nI i) S = some (zqS c r i a) := by
  intro r
  induction r with
  | zero =>
    intro i m a hm hi
    obtain ⟨m, rfl⟩ : ∃ m', m = m' + 1 := ⟨m - 1, by omega⟩
    simp (disch := omega) only [fX_X7_stepsSince_Row_8, ht, ↓zN_eq, zL0, zL1, zL2, zL3, zL4, zL5, zL6, zL7, zL8, zL10, zL16, zL31, zL42, zL63, zL64, zL100, zL200, zL255, zL256, zL1000, zL12345, zL536870912, zI_le, zI_lt, zI_eq, zI_add, zI_sub, zI_mul, zI_neN, zI_Nne, zI_leN, zI_ltN, zI_Nle, zI_Nlt, zI_pred, zI_clamp, zI_div, zI_rem, zin_t, zgd_t, znz_t, if_pos, if_neg, if_true, if_false, Option.bind_some]; rfl
  | succ r ih =>
    intro i m a hm hi
    obtain ⟨m, rfl⟩ : ∃ m', m = m' + 1 := ⟨m - 1, by omega⟩
    have v := hc i (by omega)
    have k := ih (i + 1) m (a + c i) (by omega) (by omega)
    simp (disch := omega) only [fX_X7_stepsSince_Row_8, ht, v, ↓zN_eq, zL0, zL1, zL2, zL3, zL4, zL5, zL6, zL7, zL8, zL10, zL16, zL31, zL42, zL63, zL64, zL100, zL200, zL255, zL256, zL1000, zL12345, zL536870912, zI_le, zI_lt, zI_eq, zI_add, zI_sub, zI_mul, zI_neN, zI_Nne, zI_leN, zI_ltN, zI_Nle, zI_Nlt, zI_pred, zI_clamp, zI_div, zI_rem, zin_t, zgd_t, znz_t, if_pos, if_neg, if_true, if_false, Option.bind_some]; exact k
theorem pX_since_Row {S : zSt} {c : Nat → Int32} {N p : Nat} (hN : N ≤ 200) (ht : S.1 (12 + 0) = nI N) (hc : ∀ t, t < N → S.2 (10 + 0) t = c t) (hp : p ≤ N) : fX_X7_stepsSince_Row (nI p) S = some (zqS c (N - p) p (nI 0)) := by
  have e : zmax (nI p) (nI 0) = nI p := by rw [zmax_n (by omega) (by omega), Nat.max_eq_left (by omega)]
  unfold fX_X7_stepsSince_Row
  rw [zL0, e]; exact pX_since_Row_8 hN ht hc (N - p) p 1000 (nI 0) (by omega) (by omega)
theorem pX_worst_Row_4 {S : zSt} {c : Nat → Int32} {N : Nat} (hN : N ≤ 200) (ht : S.1 (12 + 0) = nI N) (hc : ∀ t, t < N → S.2 (10 + 0) t = c t) : ∀ r i m, r < m → i + r = N → fX_X7_worstCall_Row_4 m (ze2 (zqW c i)) (nI i) S = some (ze2 (zqW c N)) := by
  intro r
  induction r with
  | zero =>
    intro i m hm hi
    obtain ⟨m, rfl⟩ : ∃ m', m = m' + 1 := ⟨m - 1, by omega⟩
    have e : i = N := by omega
    simp (disch := omega) only [fX_X7_worstCall_Row_4, ht, ↓zN_eq, zL0, zL1, zL2, zL3, zL4, zL5, zL6, zL7, zL8, zL10, zL16, zL31, zL42, zL63, zL64, zL100, zL200, zL255, zL256, zL1000, zL12345, zL536870912, zI_le, zI_lt, zI_eq, zI_add, zI_sub, zI_mul, zI_neN, zI_Nne, zI_leN, zI_ltN, zI_Nle, zI_Nlt, zI_pred, zI_clamp, zI_div, zI_rem, zin_t, zgd_t, znz_t, if_pos, if_neg, if_true, if_false, Option.bind_some, e]
  | succ r ih =>
    intro i m hm hi
    obtain ⟨m, rfl⟩ : ∃ m', m = m' + 1 := ⟨m - 1, by omega⟩
    have v := hc i (by omega)
    have k := ih (i + 1) m (by omega) (by omega)
    have hw := zqW_lt c i
    have es : zqW c (i + 1) = if zqW c i = 200 then i else if c i ≤ c (zqW c i) then zqW c i else i := rfl
    rw [es] at k
    rw [← k]
    by_cases q : zqW c i = 200
    · rw [if_pos q, q, show ze2 200 = zN from if_pos rfl, show ze2 i = nI i from if_neg (by omega)]
      simp (disch := omega) only [fX_X7_worstCall_Row_4, fX_X7_worstCall_Row_32, ht, ↓zN_eq, zL0, zL1, zL2, zL3, zL4, zL5, zL6, zL7, zL8, zL10, zL16, zL31, zL42, zL63, zL64, zL100, zL200, zL255, zL256, zL1000, zL12345, zL536870912, zI_le, zI_lt, zI_eq, zI_add, zI_sub, zI_mul, zI_neN, zI_Nne, zI_leN, zI_ltN, zI_Nle, zI_Nlt, zI_pred, zI_clamp, zI_div, zI_rem, zin_t, zgd_t, znz_t, if_pos, if_neg, if_true, if_false, Option.bind_some]
    · have v2 := hc (zqW c i) (by omega)
      rw [if_neg q]
      by_cases w : c i ≤ c (zqW c i)
      · rw [if_pos w]
        rw [show ze2 (zqW c i) = nI (zqW c i) from if_neg q]
        rw [fX_X7_worstCall_Row_4]
        simp (disch := omega) only [ht, v, v2, w, ↓zN_eq, zL0, zL1, zL2, zL3, zL4, zL5, zL6, zL7, zL8, zL10, zL16, zL31, zL42, zL63, zL64, zL100, zL200, zL255, zL256, zL1000, zL12345, zL536870912, zI_le, zI_lt, zI_eq, zI_add, zI_sub, zI_mul, zI_neN, zI_Nne, zI_leN, zI_ltN, zI_Nle, zI_Nlt, zI_pred, zI_clamp, zI_div, zI_rem, zin_t, zgd_t, znz_t, if_pos, if_neg, if_true, if_false, Option.bind_some]
      · rw [if_neg w]
        rw [show ze2 (zqW c i) = nI (zqW c i) from if_neg q, show ze2 i = nI i from if_neg (by omega)]
        rw [fX_X7_worstCall_Row_4]
        simp (disch := omega) only [fX_X7_worstCall_Row_32, ht, v, v2, w, ↓zN_eq, zL0, zL1, zL2, zL3, zL4, zL5, zL6, zL7, zL8, zL10, zL16, zL31, zL42, zL63, zL64, zL100, zL200, zL255, zL256, zL1000, zL12345, zL536870912, zI_le, zI_lt, zI_eq, zI_add, zI_sub, zI_mul, zI_neN, zI_Nne, zI_leN, zI_ltN, zI_Nle, zI_Nlt, zI_pred, zI_clamp, zI_div, zI_rem, zin_t, zgd_t, znz_t, if_pos, if_neg, if_true, if_false, Option.bind_some]
theorem pX_worst_Row {S : zSt} {c : Nat → Int32} {N : Nat} (hN : N ≤ 200) (ht : S.1 (12 + 0) = nI N) (hc : ∀ t, t < N → S.2 (10 + 0) t = c t) : fX_X7_worstCall_Row S = some (ze2 (zqW c N)) := by
  unfold fX_X7_worstCall_Row
  rw [zL0, zN_eq]; exact pX_worst_Row_4 hN ht hc N 0 1000 (by omega) (by omega)
theorem pX_worstS_Row {S : zSt} {c : Nat → Int32} {N : Nat} (hN : N ≤ 200) (ht : S.1 (12 + 0) = nI N) (hc : ∀ t, t < N → S.2 (10 + 0) t = c t) : fX_X7_worstSteps_Row S = some (if N = 0 then nI 0 else c (zqW c N)) := by
  have h := pX_worst_Row hN ht hc
  have h0 := zqW_0 c N hN
  have hl := zqW_lt c N
  unfold fX_X7_worstSteps_Row
  rw [h]
  by_cases q : N = 0
  · rw [if_pos q, h0.mpr q, show ze2 200 = zN from if_pos rfl]
    simp (disch := omega) only [↓zN_eq, zL0, zL1, zL2, zL3, zL4, zL5, zL6, zL7, zL8, zL10, zL16, zL31, zL42, zL63, zL64, zL100, zL200, zL255, zL256, zL1000, zL12345, zL536870912, zI_le, zI_lt, zI_eq, zI_add, zI_sub, zI_mul, zI_neN, zI_Nne, zI_leN, zI_ltN, zI_Nle, zI_Nlt, zI_pred, zI_clamp, zI_div, zI_rem, zin_t, zgd_t, znz_t, if_pos, if_neg, if_true, if_false, Option.bind_some]
  · have q2 : ¬ zqW c N = 200 := fun e => q (h0.mp e)
    have v := hc (zqW c N) (by omega)
    rw [if_neg q, show ze2 (zqW c N) = nI (zqW c N) from if_neg q2]
    simp (disch := omega) only [v, ↓zN_eq, zL0, zL1, zL2, zL3, zL4, zL5, zL6, zL7, zL8, zL10, zL16, zL31, zL42, zL63, zL64, zL100, zL200, zL255, zL256, zL1000, zL12345, zL536870912, zI_le, zI_lt, zI_eq, zI_add, zI_sub, zI_mul, zI_neN, zI_Nne, zI_leN, zI_ltN, zI_Nle, zI_Nlt, zI_pred, zI_clamp, zI_div, zI_rem, zin_t, zgd_t, znz_t, if_pos, if_neg, if_true, if_false, Option.bind_some]
theorem pX_great_Row_4 {S : zSt} {kd ky : Nat → Nat} {N : Nat} (hN : N ≤ 200) (hb : ∀ t, t < N → kd t < 8 ∧ ky t < 64) (ht : S.1 (12 + 0) = nI N) (hc : ∀ t, t < N → S.2 (16 + 0) t = nI (zar 0 (zA kd ky (t + 1)))) : ∀ r i m, r < m → i + r = N → fX_X7_greatestRoom_Row_4 m (nI (zmr kd ky 0 i)) (nI i) S = some (nI (zmr kd ky 0 N)) := by
  intro r
  induction r with
  | zero =>
    intro i m hm hi
    obtain ⟨m, rfl⟩ : ∃ m', m = m' + 1 := ⟨m - 1, by omega⟩
    have e : i = N := by omega
    simp (disch := omega) only [fX_X7_greatestRoom_Row_4, ht, ↓zN_eq, zL0, zL1, zL2, zL3, zL4, zL5, zL6, zL7, zL8, zL10, zL16, zL31, zL42, zL63, zL64, zL100, zL200, zL255, zL256, zL1000, zL12345, zL536870912, zI_le, zI_lt, zI_eq, zI_add, zI_sub, zI_mul, zI_neN, zI_Nne, zI_leN, zI_ltN, zI_Nle, zI_Nlt, zI_pred, zI_clamp, zI_div, zI_rem, zin_t, zgd_t, znz_t, if_pos, if_neg, if_true, if_false, Option.bind_some, e]
  | succ r ih =>
    intro i m hm hi
    obtain ⟨m, rfl⟩ : ∃ m', m = m' + 1 := ⟨m - 1, by omega⟩
    have v := hc i (by omega)
    have k := ih (i + 1) m (by omega) (by omega)
    have b1 := zmr_lt hN hb 0 i (by omega)
    have b2 := zar_le (j := 0) (zA_ok hN hb (i + 1) (by omega))
    have e : zmax (nI (zmr kd ky 0 i)) (nI (zar 0 (zA kd ky (i + 1)))) = nI (zmr kd ky 0 (i + 1)) := zmax_n (by omega) (by omega)
    rw [fX_X7_greatestRoom_Row_4]
    simp (disch := omega) only [ht, v, e, ↓zN_eq, zL0, zL1, zL2, zL3, zL4, zL5, zL6, zL7, zL8, zL10, zL16, zL31, zL42, zL63, zL64, zL100, zL200, zL255, zL256, zL1000, zL12345, zL536870912, zI_le, zI_lt, zI_eq, zI_add, zI_sub, zI_mul, zI_neN, zI_Nne, zI_leN, zI_ltN, zI_Nle, zI_Nlt, zI_pred, zI_clamp, zI_div, zI_rem, zin_t, zgd_t, znz_t, if_pos, if_neg, if_true, if_false, Option.bind_some]; exact k
theorem pX_great_Row {S : zSt} {kd ky : Nat → Nat} {N : Nat} (hN : N ≤ 200) (hb : ∀ t, t < N → kd t < 8 ∧ ky t < 64) (ht : S.1 (12 + 0) = nI N) (hc : ∀ t, t < N → S.2 (16 + 0) t = nI (zar 0 (zA kd ky (t + 1)))) : fX_X7_greatestRoom_Row S = some (nI (zmr kd ky 0 N)) := by
  unfold fX_X7_greatestRoom_Row
  rw [zL0]; exact pX_great_Row_4 hN hb ht hc N 0 1000 (by omega) (by omega)

theorem pX_since_Sorted_8 {S : zSt} {c : Nat → Int32} {N : Nat} (hN : N ≤ 200) (ht : S.1 (12 + 1) = nI N) (hc : ∀ t, t < N → S.2 (10 + 1) t = c t) : ∀ r i m a, r < m → i + r = N → fX_X7_stepsSince_Sorted_8 m a (nI i) S = some (zqS c r i a) := by
  intro r
  induction r with
  | zero =>
    intro i m a hm hi
    obtain ⟨m, rfl⟩ : ∃ m', m = m' + 1 := ⟨m - 1, by omega⟩
    simp (disch := omega) only [fX_X7_stepsSince_Sorted_8, ht, ↓zN_eq, zL0, zL1, zL2, zL3, zL4, zL5, zL6, zL7, zL8, zL10, zL16, zL31, zL42, zL63, zL64, zL100, zL200, zL255, zL256, zL1000, zL12345, zL536870912, zI_le, zI_lt, zI_eq, zI_add, zI_sub, zI_mul, zI_neN, zI_Nne, zI_leN, zI_ltN, zI_Nle, zI_Nlt, zI_pred, zI_clamp, zI_div, zI_rem, zin_t, zgd_t, znz_t, if_pos, if_neg, if_true, if_false, Option.bind_some]; rfl
  | succ r ih =>
    intro i m a hm hi
    obtain ⟨m, rfl⟩ : ∃ m', m = m' + 1 := ⟨m - 1, by omega⟩
    have v := hc i (by omega)
    have k := ih (i + 1) m (a + c i) (by omega) (by omega)
    simp (disch := omega) only [fX_X7_stepsSince_Sorted_8, ht, v, ↓zN_eq, zL0, zL1, zL2, zL3, zL4, zL5, zL6, zL7, zL8, zL10, zL16, zL31, zL42, zL63, zL64, zL100, zL200, zL255, zL256, zL1000, zL12345, zL536870912, zI_le, zI_lt, zI_eq, zI_add, zI_sub, zI_mul, zI_neN, zI_Nne, zI_leN, zI_ltN, zI_Nle, zI_Nlt, zI_pred, zI_clamp, zI_div, zI_rem, zin_t, zgd_t, znz_t, if_pos, if_neg, if_true, if_false, Option.bind_some]; exact k
theorem pX_since_Sorted {S : zSt} {c : Nat → Int32} {N p : Nat} (hN : N ≤ 200) (ht : S.1 (12 + 1) = nI N) (hc : ∀ t, t < N → S.2 (10 + 1) t = c t) (hp : p ≤ N) : fX_X7_stepsSince_Sorted (nI p) S = some (zqS c (N - p) p (nI 0)) := by
  have e : zmax (nI p) (nI 0) = nI p := by rw [zmax_n (by omega) (by omega), Nat.max_eq_left (by omega)]
  unfold fX_X7_stepsSince_Sorted
  rw [zL0, e]; exact pX_since_Sorted_8 hN ht hc (N - p) p 1000 (nI 0) (by omega) (by omega)
theorem pX_worst_Sorted_4 {S : zSt} {c : Nat → Int32} {N : Nat} (hN : N ≤ 200) (ht : S.1 (12 + 1) = nI N) (hc : ∀ t, t < N → S.2 (10 + 1) t = c t) : ∀ r i m, r < m → i + r = N → fX_X7_worstCall_Sorted_4 m (ze2 (zqW c i)) (nI i) S = some (ze2 (zqW c N)) := by
  intro r
  induction r with
  | zero =>
    intro i m hm hi
    obtain ⟨m, rfl⟩ : ∃ m', m = m' + 1 := ⟨m - 1, by omega⟩
    have e : i = N := by omega
    simp (disch := omega) only [fX_X7_worstCall_Sorted_4, ht, ↓zN_eq, zL0, zL1, zL2, zL3, zL4, zL5, zL6, zL7, zL8, zL10, zL16, zL31, zL42, zL63, zL64, zL100, zL200, zL255, zL256, zL1000, zL12345, zL536870912, zI_le, zI_lt, zI_eq, zI_add, zI_sub, zI_mul, zI_neN, zI_Nne, zI_leN, zI_ltN, zI_Nle, zI_Nlt, zI_pred, zI_clamp, zI_div, zI_rem, zin_t, zgd_t, znz_t, if_pos, if_neg, if_true, if_false, Option.bind_some, e]
  | succ r ih =>
    intro i m hm hi
    obtain ⟨m, rfl⟩ : ∃ m', m = m' + 1 := ⟨m - 1, by omega⟩
    have v := hc i (by omega)
    have k := ih (i + 1) m (by omega) (by omega)
    have hw := zqW_lt c i
    have es : zqW c (i + 1) = if zqW c i = 200 then i else if c i ≤ c (zqW c i) then zqW c i else i := rfl
    rw [es] at k
    rw [← k]
    by_cases q : zqW c i = 200
    · rw [if_pos q, q, show ze2 200 = zN from if_pos rfl, show ze2 i = nI i from if_neg (by omega)]
      simp (disch := omega) only [fX_X7_worstCall_Sorted_4, fX_X7_worstCall_Sorted_32, ht, ↓zN_eq, zL0, zL1, zL2, zL3, zL4, zL5, zL6, zL7, zL8, zL10, zL16, zL31, zL42, zL63, zL64, zL100, zL200, zL255, zL256, zL1000, zL12345, zL536870912, zI_le, zI_lt, zI_eq, zI_add, zI_sub, zI_mul, zI_neN, zI_Nne, zI_leN, zI_ltN, zI_Nle, zI_Nlt, zI_pred, zI_clamp, zI_div, zI_rem, zin_t, zgd_t, znz_t, if_pos, if_neg, if_true, if_false, Option.bind_some]
    · have v2 := hc (zqW c i) (by omega)
      rw [if_neg q]
      by_cases w : c i ≤ c (zqW c i)
      · rw [if_pos w]
        rw [show ze2 (zqW c i) = nI (zqW c i) from if_neg q]
        rw [fX_X7_worstCall_Sorted_4]
        simp (disch := omega) only [ht, v, v2, w, ↓zN_eq, zL0, zL1, zL2, zL3, zL4, zL5, zL6, zL7, zL8, zL10, zL16, zL31, zL42, zL63, zL64, zL100, zL200, zL255, zL256, zL1000, zL12345, zL536870912, zI_le, zI_lt, zI_eq, zI_add, zI_sub, zI_mul, zI_neN, zI_Nne, zI_leN, zI_ltN, zI_Nle, zI_Nlt, zI_pred, zI_clamp, zI_div, zI_rem, zin_t, zgd_t, znz_t, if_pos, if_neg, if_true, if_false, Option.bind_some]
      · rw [if_neg w]
        rw [show ze2 (zqW c i) = nI (zqW c i) from if_neg q, show ze2 i = nI i from if_neg (by omega)]
        rw [fX_X7_worstCall_Sorted_4]
        simp (disch := omega) only [fX_X7_worstCall_Sorted_32, ht, v, v2, w, ↓zN_eq, zL0, zL1, zL2, zL3, zL4, zL5, zL6, zL7, zL8, zL10, zL16, zL31, zL42, zL63, zL64, zL100, zL200, zL255, zL256, zL1000, zL12345, zL536870912, zI_le, zI_lt, zI_eq, zI_add, zI_sub, zI_mul, zI_neN, zI_Nne, zI_leN, zI_ltN, zI_Nle, zI_Nlt, zI_pred, zI_clamp, zI_div, zI_rem, zin_t, zgd_t, znz_t, if_pos, if_neg, if_true, if_false, Option.bind_some]
theorem pX_worst_Sorted {S : zSt} {c : Nat → Int32} {N : Nat} (hN : N ≤ 200) (ht : S.1 (12 + 1) = nI N) (hc : ∀ t, t < N → S.2 (10 + 1) t = c t) : fX_X7_worstCall_Sorted S = some (ze2 (zqW c N)) := by
  unfold fX_X7_worstCall_Sorted
  rw [zL0, zN_eq]; exact pX_worst_Sorted_4 hN ht hc N 0 1000 (by omega) (by omega)
theorem pX_worstS_Sorted {S : zSt} {c : Nat → Int32} {N : Nat} (hN : N ≤ 200) (ht : S.1 (12 + 1) = nI N) (hc : ∀ t, t < N → S.2 (10 + 1) t = c t) : fX_X7_worstSteps_Sorted S = some (if N = 0 then nI 0 else c (zqW c N)) := by
  have h := pX_worst_Sorted hN ht hc
  have h0 := zqW_0 c N hN
  have hl := zqW_lt c N
  unfold fX_X7_worstSteps_Sorted
  rw [h]
  by_cases q : N = 0
  · rw [if_pos q, h0.mpr q, show ze2 200 = zN from if_pos rfl]
    simp (disch := omega) only [↓zN_eq, zL0, zL1, zL2, zL3, zL4, zL5, zL6, zL7, zL8, zL10, zL16, zL31, zL42, zL63, zL64, zL100, zL200, zL255, zL256, zL1000, zL12345, zL536870912, zI_le, zI_lt, zI_eq, zI_add, zI_sub, zI_mul, zI_neN, zI_Nne, zI_leN, zI_ltN, zI_Nle, zI_Nlt, zI_pred, zI_clamp, zI_div, zI_rem, zin_t, zgd_t, znz_t, if_pos, if_neg, if_true, if_false, Option.bind_some]
  · have q2 : ¬ zqW c N = 200 := fun e => q (h0.mp e)
    have v := hc (zqW c N) (by omega)
    rw [if_neg q, show ze2 (zqW c N) = nI (zqW c N) from if_neg q2]
    simp (disch := omega) only [v, ↓zN_eq, zL0, zL1, zL2, zL3, zL4, zL5, zL6, zL7, zL8, zL10, zL16, zL31, zL42, zL63, zL64, zL100, zL200, zL255, zL256, zL1000, zL12345, zL536870912, zI_le, zI_lt, zI_eq, zI_add, zI_sub, zI_mul, zI_neN, zI_Nne, zI_leN, zI_ltN, zI_Nle, zI_Nlt, zI_pred, zI_clamp, zI_div, zI_rem, zin_t, zgd_t, znz_t, if_pos, if_neg, if_true, if_false, Option.bind_some]
theorem pX_great_Sorted_4 {S : zSt} {kd ky : Nat → Nat} {N : Nat} (hN : N ≤ 200) (hb : ∀ t, t < N → kd t < 8 ∧ ky t < 64) (ht : S.1 (12 + 1) = nI N) (hc : ∀ t, t < N → S.2 (16 + 1) t = nI (zar 1 (zA kd ky (t + 1)))) : ∀ r i m, r < m → i + r = N → fX_X7_greatestRoom_Sorted_4 m (nI (zmr kd ky 1 i)) (nI i) S = some (nI (zmr kd ky 1 N)) := by
  intro r
  induction r with
  | zero =>
    intro i m hm hi
    obtain ⟨m, rfl⟩ : ∃ m', m = m' + 1 := ⟨m - 1, by omega⟩
    have e : i = N := by omega
    simp (disch := omega) only [fX_X7_greatestRoom_Sorted_4, ht, ↓zN_eq, zL0, zL1, zL2, zL3, zL4, zL5, zL6, zL7, zL8, zL10, zL16, zL31, zL42, zL63, zL64, zL100, zL200, zL255, zL256, zL1000, zL12345, zL536870912, zI_le, zI_lt, zI_eq, zI_add, zI_sub, zI_mul, zI_neN, zI_Nne, zI_leN, zI_ltN, zI_Nle, zI_Nlt, zI_pred, zI_clamp, zI_div, zI_rem, zin_t, zgd_t, znz_t, if_pos, if_neg, if_true, if_false, Option.bind_some, e]
  | succ r ih =>
    intro i m hm hi
    obtain ⟨m, rfl⟩ : ∃ m', m = m' + 1 := ⟨m - 1, by omega⟩
    have v := hc i (by omega)
    have k := ih (i + 1) m (by omega) (by omega)
    have b1 := zmr_lt hN hb 1 i (by omega)
    have b2 := zar_le (j := 1) (zA_ok hN hb (i + 1) (by omega))
    have e : zmax (nI (zmr kd ky 1 i)) (nI (zar 1 (zA kd ky (i + 1)))) = nI (zmr kd ky 1 (i + 1)) := zmax_n (by omega) (by omega)
    rw [fX_X7_greatestRoom_Sorted_4]
    simp (disch := omega) only [ht, v, e, ↓zN_eq, zL0, zL1, zL2, zL3, zL4, zL5, zL6, zL7, zL8, zL10, zL16, zL31, zL42, zL63, zL64, zL100, zL200, zL255, zL256, zL1000, zL12345, zL536870912, zI_le, zI_lt, zI_eq, zI_add, zI_sub, zI_mul, zI_neN, zI_Nne, zI_leN, zI_ltN, zI_Nle, zI_Nlt, zI_pred, zI_clamp, zI_div, zI_rem, zin_t, zgd_t, znz_t, if_pos, if_neg, if_true, if_false, Option.bind_some]; exact k
theorem pX_great_Sorted {S : zSt} {kd ky : Nat → Nat} {N : Nat} (hN : N ≤ 200) (hb : ∀ t, t < N → kd t < 8 ∧ ky t < 64) (ht : S.1 (12 + 1) = nI N) (hc : ∀ t, t < N → S.2 (16 + 1) t = nI (zar 1 (zA kd ky (t + 1)))) : fX_X7_greatestRoom_Sorted S = some (nI (zmr kd ky 1 N)) := by
  unfold fX_X7_greatestRoom_Sorted
  rw [zL0]; exact pX_great_Sorted_4 hN hb ht hc N 0 1000 (by omega) (by omega)

theorem pX_since_Hash_8 {S : zSt} {c : Nat → Int32} {N : Nat} (hN : N ≤ 200) (ht : S.1 (12 + 2) = nI N) (hc : ∀ t, t < N → S.2 (10 + 2) t = c t) : ∀ r i m a, r < m → i + r = N → fX_X7_stepsSince_Hash_8 m a (nI i) S = some (zqS c r i a) := by
  intro r
  induction r with
  | zero =>
    intro i m a hm hi
    obtain ⟨m, rfl⟩ : ∃ m', m = m' + 1 := ⟨m - 1, by omega⟩
    simp (disch := omega) only [fX_X7_stepsSince_Hash_8, ht, ↓zN_eq, zL0, zL1, zL2, zL3, zL4, zL5, zL6, zL7, zL8, zL10, zL16, zL31, zL42, zL63, zL64, zL100, zL200, zL255, zL256, zL1000, zL12345, zL536870912, zI_le, zI_lt, zI_eq, zI_add, zI_sub, zI_mul, zI_neN, zI_Nne, zI_leN, zI_ltN, zI_Nle, zI_Nlt, zI_pred, zI_clamp, zI_div, zI_rem, zin_t, zgd_t, znz_t, if_pos, if_neg, if_true, if_false, Option.bind_some]; rfl
  | succ r ih =>
    intro i m a hm hi
    obtain ⟨m, rfl⟩ : ∃ m', m = m' + 1 := ⟨m - 1, by omega⟩
    have v := hc i (by omega)
    have k := ih (i + 1) m (a + c i) (by omega) (by omega)
    simp (disch := omega) only [fX_X7_stepsSince_Hash_8, ht, v, ↓zN_eq, zL0, zL1, zL2, zL3, zL4, zL5, zL6, zL7, zL8, zL10, zL16, zL31, zL42, zL63, zL64, zL100, zL200, zL255, zL256, zL1000, zL12345, zL536870912, zI_le, zI_lt, zI_eq, zI_add, zI_sub, zI_mul, zI_neN, zI_Nne, zI_leN, zI_ltN, zI_Nle, zI_Nlt, zI_pred, zI_clamp, zI_div, zI_rem, zin_t, zgd_t, znz_t, if_pos, if_neg, if_true, if_false, Option.bind_some]; exact k
theorem pX_since_Hash {S : zSt} {c : Nat → Int32} {N p : Nat} (hN : N ≤ 200) (ht : S.1 (12 + 2) = nI N) (hc : ∀ t, t < N → S.2 (10 + 2) t = c t) (hp : p ≤ N) : fX_X7_stepsSince_Hash (nI p) S = some (zqS c (N - p) p (nI 0)) := by
  have e : zmax (nI p) (nI 0) = nI p := by rw [zmax_n (by omega) (by omega), Nat.max_eq_left (by omega)]
  unfold fX_X7_stepsSince_Hash
  rw [zL0, e]; exact pX_since_Hash_8 hN ht hc (N - p) p 1000 (nI 0) (by omega) (by omega)
theorem pX_worst_Hash_4 {S : zSt} {c : Nat → Int32} {N : Nat} (hN : N ≤ 200) (ht : S.1 (12 + 2) = nI N) (hc : ∀ t, t < N → S.2 (10 + 2) t = c t) : ∀ r i m, r < m → i + r = N → fX_X7_worstCall_Hash_4 m (ze2 (zqW c i)) (nI i) S = some (ze2 (zqW c N)) := by
  intro r
  induction r with
  | zero =>
    intro i m hm hi
    obtain ⟨m, rfl⟩ : ∃ m', m = m' + 1 := ⟨m - 1, by omega⟩
    have e : i = N := by omega
    simp (disch := omega) only [fX_X7_worstCall_Hash_4, ht, ↓zN_eq, zL0, zL1, zL2, zL3, zL4, zL5, zL6, zL7, zL8, zL10, zL16, zL31, zL42, zL63, zL64, zL100, zL200, zL255, zL256, zL1000, zL12345, zL536870912, zI_le, zI_lt, zI_eq, zI_add, zI_sub, zI_mul, zI_neN, zI_Nne, zI_leN, zI_ltN, zI_Nle, zI_Nlt, zI_pred, zI_clamp, zI_div, zI_rem, zin_t, zgd_t, znz_t, if_pos, if_neg, if_true, if_false, Option.bind_some, e]
  | succ r ih =>
    intro i m hm hi
    obtain ⟨m, rfl⟩ : ∃ m', m = m' + 1 := ⟨m - 1, by omega⟩
    have v := hc i (by omega)
    have k := ih (i + 1) m (by omega) (by omega)
    have hw := zqW_lt c i
    have es : zqW c (i + 1) = if zqW c i = 200 then i else if c i ≤ c (zqW c i) then zqW c i else i := rfl
    rw [es] at k
    rw [← k]
    by_cases q : zqW c i = 200
    · rw [if_pos q, q, show ze2 200 = zN from if_pos rfl, show ze2 i = nI i from if_neg (by omega)]
      simp (disch := omega) only [fX_X7_worstCall_Hash_4, fX_X7_worstCall_Hash_32, ht, ↓zN_eq, zL0, zL1, zL2, zL3, zL4, zL5, zL6, zL7, zL8, zL10, zL16, zL31, zL42, zL63, zL64, zL100, zL200, zL255, zL256, zL1000, zL12345, zL536870912, zI_le, zI_lt, zI_eq, zI_add, zI_sub, zI_mul, zI_neN, zI_Nne, zI_leN, zI_ltN, zI_Nle, zI_Nlt, zI_pred, zI_clamp, zI_div, zI_rem, zin_t, zgd_t, znz_t, if_pos, if_neg, if_true, if_false, Option.bind_some]
    · have v2 := hc (zqW c i) (by omega)
      rw [if_neg q]
      by_cases w : c i ≤ c (zqW c i)
      · rw [if_pos w]
        rw [show ze2 (zqW c i) = nI (zqW c i) from if_neg q]
        rw [fX_X7_worstCall_Hash_4]
        simp (disch := omega) only [ht, v, v2, w, ↓zN_eq, zL0, zL1, zL2, zL3, zL4, zL5, zL6, zL7, zL8, zL10, zL16, zL31, zL42, zL63, zL64, zL100, zL200, zL255, zL256, zL1000, zL12345, zL536870912, zI_le, zI_lt, zI_eq, zI_add, zI_sub, zI_mul, zI_neN, zI_Nne, zI_leN, zI_ltN, zI_Nle, zI_Nlt, zI_pred, zI_clamp, zI_div, zI_rem, zin_t, zgd_t, znz_t, if_pos, if_neg, if_true, if_false, Option.bind_some]
      · rw [if_neg w]
        rw [show ze2 (zqW c i) = nI (zqW c i) from if_neg q, show ze2 i = nI i from if_neg (by omega)]
        rw [fX_X7_worstCall_Hash_4]
        simp (disch := omega) only [fX_X7_worstCall_Hash_32, ht, v, v2, w, ↓zN_eq, zL0, zL1, zL2, zL3, zL4, zL5, zL6, zL7, zL8, zL10, zL16, zL31, zL42, zL63, zL64, zL100, zL200, zL255, zL256, zL1000, zL12345, zL536870912, zI_le, zI_lt, zI_eq, zI_add, zI_sub, zI_mul, zI_neN, zI_Nne, zI_leN, zI_ltN, zI_Nle, zI_Nlt, zI_pred, zI_clamp, zI_div, zI_rem, zin_t, zgd_t, znz_t, if_pos, if_neg, if_true, if_false, Option.bind_some]
theorem pX_worst_Hash {S : zSt} {c : Nat → Int32} {N : Nat} (hN : N ≤ 200) (ht : S.1 (12 + 2) = nI N) (hc : ∀ t, t < N → S.2 (10 + 2) t = c t) : fX_X7_worstCall_Hash S = some (ze2 (zqW c N)) := by
  unfold fX_X7_worstCall_Hash
  rw [zL0, zN_eq]; exact pX_worst_Hash_4 hN ht hc N 0 1000 (by omega) (by omega)
theorem pX_worstS_Hash {S : zSt} {c : Nat → Int32} {N : Nat} (hN : N ≤ 200) (ht : S.1 (12 + 2) = nI N) (hc : ∀ t, t < N → S.2 (10 + 2) t = c t) : fX_X7_worstSteps_Hash S = some (if N = 0 then nI 0 else c (zqW c N)) := by
  have h := pX_worst_Hash hN ht hc
  have h0 := zqW_0 c N hN
  have hl := zqW_lt c N
  unfold fX_X7_worstSteps_Hash
  rw [h]
  by_cases q : N = 0
  · rw [if_pos q, h0.mpr q, show ze2 200 = zN from if_pos rfl]
    simp (disch := omega) only [↓zN_eq, zL0, zL1, zL2, zL3, zL4, zL5, zL6, zL7, zL8, zL10, zL16, zL31, zL42, zL63, zL64, zL100, zL200, zL255, zL256, zL1000, zL12345, zL536870912, zI_le, zI_lt, zI_eq, zI_add, zI_sub, zI_mul, zI_neN, zI_Nne, zI_leN, zI_ltN, zI_Nle, zI_Nlt, zI_pred, zI_clamp, zI_div, zI_rem, zin_t, zgd_t, znz_t, if_pos, if_neg, if_true, if_false, Option.bind_some]
  · have q2 : ¬ zqW c N = 200 := fun e => q (h0.mp e)
    have v := hc (zqW c N) (by omega)
    rw [if_neg q, show ze2 (zqW c N) = nI (zqW c N) from if_neg q2]
    simp (disch := omega) only [v, ↓zN_eq, zL0, zL1, zL2, zL3, zL4, zL5, zL6, zL7, zL8, zL10, zL16, zL31, zL42, zL63, zL64, zL100, zL200, zL255, zL256, zL1000, zL12345, zL536870912, zI_le, zI_lt, zI_eq, zI_add, zI_sub, zI_mul, zI_neN, zI_Nne, zI_leN, zI_ltN, zI_Nle, zI_Nlt, zI_pred, zI_clamp, zI_div, zI_rem, zin_t, zgd_t, znz_t, if_pos, if_neg, if_true, if_false, Option.bind_some]
theorem pX_great_Hash_4 {S : zSt} {kd ky : Nat → Nat} {N : Nat} (hN : N ≤ 200) (hb : ∀ t, t < N → kd t < 8 ∧ ky t < 64) (ht : S.1 (12 + 2) = nI N) (hc : ∀ t, t < N → S.2 (16 + 2) t = nI (zar 2 (zA kd ky (t + 1)))) : ∀ r i m, r < m → i + r = N → fX_X7_greatestRoom_Hash_4 m (nI (zmr kd ky 2 i)) (nI i) S = some (nI (zmr kd ky 2 N)) := by
  intro r
  induction r with
  | zero =>
    intro i m hm hi
    obtain ⟨m, rfl⟩ : ∃ m', m = m' + 1 := ⟨m - 1, by omega⟩
    have e : i = N := by omega
    simp (disch := omega) only [fX_X7_greatestRoom_Hash_4, ht, ↓zN_eq, zL0, zL1, zL2, zL3, zL4, zL5, zL6, zL7, zL8, zL10, zL16, zL31, zL42, zL63, zL64, zL100, zL200, zL255, zL256, zL1000, zL12345, zL536870912, zI_le, zI_lt, zI_eq, zI_add, zI_sub, zI_mul, zI_neN, zI_Nne, zI_leN, zI_ltN, zI_Nle, zI_Nlt, zI_pred, zI_clamp, zI_div, zI_rem, zin_t, zgd_t, znz_t, if_pos, if_neg, if_true, if_false, Option.bind_some, e]
  | succ r ih =>
    intro i m hm hi
    obtain ⟨m, rfl⟩ : ∃ m', m = m' + 1 := ⟨m - 1, by omega⟩
    have v := hc i (by omega)
    have k := ih (i + 1) m (by omega) (by omega)
    have b1 := zmr_lt hN hb 2 i (by omega)
    have b2 := zar_le (j := 2) (zA_ok hN hb (i + 1) (by omega))
    have e : zmax (nI (zmr kd ky 2 i)) (nI (zar 2 (zA kd ky (i + 1)))) = nI (zmr kd ky 2 (i + 1)) := zmax_n (by omega) (by omega)
    rw [fX_X7_greatestRoom_Hash_4]
    simp (disch := omega) only [ht, v, e, ↓zN_eq, zL0, zL1, zL2, zL3, zL4, zL5, zL6, zL7, zL8, zL10, zL16, zL31, zL42, zL63, zL64, zL100, zL200, zL255, zL256, zL1000, zL12345, zL536870912, zI_le, zI_lt, zI_eq, zI_add, zI_sub, zI_mul, zI_neN, zI_Nne, zI_leN, zI_ltN, zI_Nle, zI_Nlt, zI_pred, zI_clamp, zI_div, zI_rem, zin_t, zgd_t, znz_t, if_pos, if_neg, if_true, if_false, Option.bind_some]; exact k
theorem pX_great_Hash {S : zSt} {kd ky : Nat → Nat} {N : Nat} (hN : N ≤ 200) (hb : ∀ t, t < N → kd t < 8 ∧ ky t < 64) (ht : S.1 (12 + 2) = nI N) (hc : ∀ t, t < N → S.2 (16 + 2) t = nI (zar 2 (zA kd ky (t + 1)))) : fX_X7_greatestRoom_Hash S = some (nI (zmr kd ky 2 N)) := by
  unfold fX_X7_greatestRoom_Hash
  rw [zL0]; exact pX_great_Hash_4 hN hb ht hc N 0 1000 (by omega) (by omega)

theorem pX_since_Tree_8 {S : zSt} {c : Nat → Int32} {N : Nat} (hN : N ≤ 200) (ht : S.1 (12 + 3) = nI N) (hc : ∀ t, t < N → S.2 (10 + 3) t = c t) : ∀ r i m a, r < m → i + r = N → fX_X7_stepsSince_Tree_8 m a (nI i) S = some (zqS c r i a) := by
  intro r
  induction r with
  | zero =>
    intro i m a hm hi
    obtain ⟨m, rfl⟩ : ∃ m', m = m' + 1 := ⟨m - 1, by omega⟩
    simp (disch := omega) only [fX_X7_stepsSince_Tree_8, ht, ↓zN_eq, zL0, zL1, zL2, zL3, zL4, zL5, zL6, zL7, zL8, zL10, zL16, zL31, zL42, zL63, zL64, zL100, zL200, zL255, zL256, zL1000, zL12345, zL536870912, zI_le, zI_lt, zI_eq, zI_add, zI_sub, zI_mul, zI_neN, zI_Nne, zI_leN, zI_ltN, zI_Nle, zI_Nlt, zI_pred, zI_clamp, zI_div, zI_rem, zin_t, zgd_t, znz_t, if_pos, if_neg, if_true, if_false, Option.bind_some]; rfl
  | succ r ih =>
    intro i m a hm hi
    obtain ⟨m, rfl⟩ : ∃ m', m = m' + 1 := ⟨m - 1, by omega⟩
    have v := hc i (by omega)
    have k := ih (i + 1) m (a + c i) (by omega) (by omega)
    simp (disch := omega) only [fX_X7_stepsSince_Tree_8, ht, v, ↓zN_eq, zL0, zL1, zL2, zL3, zL4, zL5, zL6, zL7, zL8, zL10, zL16, zL31, zL42, zL63, zL64, zL100, zL200, zL255, zL256, zL1000, zL12345, zL536870912, zI_le, zI_lt, zI_eq, zI_add, zI_sub, zI_mul, zI_neN, zI_Nne, zI_leN, zI_ltN, zI_Nle, zI_Nlt, zI_pred, zI_clamp, zI_div, zI_rem, zin_t, zgd_t, znz_t, if_pos, if_neg, if_true, if_false, Option.bind_some]; exact k
theorem pX_since_Tree {S : zSt} {c : Nat → Int32} {N p : Nat} (hN : N ≤ 200) (ht : S.1 (12 + 3) = nI N) (hc : ∀ t, t < N → S.2 (10 + 3) t = c t) (hp : p ≤ N) : fX_X7_stepsSince_Tree (nI p) S = some (zqS c (N - p) p (nI 0)) := by
  have e : zmax (nI p) (nI 0) = nI p := by rw [zmax_n (by omega) (by omega), Nat.max_eq_left (by omega)]
  unfold fX_X7_stepsSince_Tree
  rw [zL0, e]; exact pX_since_Tree_8 hN ht hc (N - p) p 1000 (nI 0) (by omega) (by omega)
theorem pX_worst_Tree_4 {S : zSt} {c : Nat → Int32} {N : Nat} (hN : N ≤ 200) (ht : S.1 (12 + 3) = nI N) (hc : ∀ t, t < N → S.2 (10 + 3) t = c t) : ∀ r i m, r < m → i + r = N → fX_X7_worstCall_Tree_4 m (ze2 (zqW c i)) (nI i) S = some (ze2 (zqW c N)) := by
  intro r
  induction r with
  | zero =>
    intro i m hm hi
    obtain ⟨m, rfl⟩ : ∃ m', m = m' + 1 := ⟨m - 1, by omega⟩
    have e : i = N := by omega
    simp (disch := omega) only [fX_X7_worstCall_Tree_4, ht, ↓zN_eq, zL0, zL1, zL2, zL3, zL4, zL5, zL6, zL7, zL8, zL10, zL16, zL31, zL42, zL63, zL64, zL100, zL200, zL255, zL256, zL1000, zL12345, zL536870912, zI_le, zI_lt, zI_eq, zI_add, zI_sub, zI_mul, zI_neN, zI_Nne, zI_leN, zI_ltN, zI_Nle, zI_Nlt, zI_pred, zI_clamp, zI_div, zI_rem, zin_t, zgd_t, znz_t, if_pos, if_neg, if_true, if_false, Option.bind_some, e]
  | succ r ih =>
    intro i m hm hi
    obtain ⟨m, rfl⟩ : ∃ m', m = m' + 1 := ⟨m - 1, by omega⟩
    have v := hc i (by omega)
    have k := ih (i + 1) m (by omega) (by omega)
    have hw := zqW_lt c i
    have es : zqW c (i + 1) = if zqW c i = 200 then i else if c i ≤ c (zqW c i) then zqW c i else i := rfl
    rw [es] at k
    rw [← k]
    by_cases q : zqW c i = 200
    · rw [if_pos q, q, show ze2 200 = zN from if_pos rfl, show ze2 i = nI i from if_neg (by omega)]
      simp (disch := omega) only [fX_X7_worstCall_Tree_4, fX_X7_worstCall_Tree_32, ht, ↓zN_eq, zL0, zL1, zL2, zL3, zL4, zL5, zL6, zL7, zL8, zL10, zL16, zL31, zL42, zL63, zL64, zL100, zL200, zL255, zL256, zL1000, zL12345, zL536870912, zI_le, zI_lt, zI_eq, zI_add, zI_sub, zI_mul, zI_neN, zI_Nne, zI_leN, zI_ltN, zI_Nle, zI_Nlt, zI_pred, zI_clamp, zI_div, zI_rem, zin_t, zgd_t, znz_t, if_pos, if_neg, if_true, if_false, Option.bind_some]
    · have v2 := hc (zqW c i) (by omega)
      rw [if_neg q]
      by_cases w : c i ≤ c (zqW c i)
      · rw [if_pos w]
        rw [show ze2 (zqW c i) = nI (zqW c i) from if_neg q]
        rw [fX_X7_worstCall_Tree_4]
        simp (disch := omega) only [ht, v, v2, w, ↓zN_eq, zL0, zL1, zL2, zL3, zL4, zL5, zL6, zL7, zL8, zL10, zL16, zL31, zL42, zL63, zL64, zL100, zL200, zL255, zL256, zL1000, zL12345, zL536870912, zI_le, zI_lt, zI_eq, zI_add, zI_sub, zI_mul, zI_neN, zI_Nne, zI_leN, zI_ltN, zI_Nle, zI_Nlt, zI_pred, zI_clamp, zI_div, zI_rem, zin_t, zgd_t, znz_t, if_pos, if_neg, if_true, if_false, Option.bind_some]
      · rw [if_neg w]
        rw [show ze2 (zqW c i) = nI (zqW c i) from if_neg q, show ze2 i = nI i from if_neg (by omega)]
        rw [fX_X7_worstCall_Tree_4]
        simp (disch := omega) only [fX_X7_worstCall_Tree_32, ht, v, v2, w, ↓zN_eq, zL0, zL1, zL2, zL3, zL4, zL5, zL6, zL7, zL8, zL10, zL16, zL31, zL42, zL63, zL64, zL100, zL200, zL255, zL256, zL1000, zL12345, zL536870912, zI_le, zI_lt, zI_eq, zI_add, zI_sub, zI_mul, zI_neN, zI_Nne, zI_leN, zI_ltN, zI_Nle, zI_Nlt, zI_pred, zI_clamp, zI_div, zI_rem, zin_t, zgd_t, znz_t, if_pos, if_neg, if_true, if_false, Option.bind_some]
theorem pX_worst_Tree {S : zSt} {c : Nat → Int32} {N : Nat} (hN : N ≤ 200) (ht : S.1 (12 + 3) = nI N) (hc : ∀ t, t < N → S.2 (10 + 3) t = c t) : fX_X7_worstCall_Tree S = some (ze2 (zqW c N)) := by
  unfold fX_X7_worstCall_Tree
  rw [zL0, zN_eq]; exact pX_worst_Tree_4 hN ht hc N 0 1000 (by omega) (by omega)
theorem pX_worstS_Tree {S : zSt} {c : Nat → Int32} {N : Nat} (hN : N ≤ 200) (ht : S.1 (12 + 3) = nI N) (hc : ∀ t, t < N → S.2 (10 + 3) t = c t) : fX_X7_worstSteps_Tree S = some (if N = 0 then nI 0 else c (zqW c N)) := by
  have h := pX_worst_Tree hN ht hc
  have h0 := zqW_0 c N hN
  have hl := zqW_lt c N
  unfold fX_X7_worstSteps_Tree
  rw [h]
  by_cases q : N = 0
  · rw [if_pos q, h0.mpr q, show ze2 200 = zN from if_pos rfl]
    simp (disch := omega) only [↓zN_eq, zL0, zL1, zL2, zL3, zL4, zL5, zL6, zL7, zL8, zL10, zL16, zL31, zL42, zL63, zL64, zL100, zL200, zL255, zL256, zL1000, zL12345, zL536870912, zI_le, zI_lt, zI_eq, zI_add, zI_sub, zI_mul, zI_neN, zI_Nne, zI_leN, zI_ltN, zI_Nle, zI_Nlt, zI_pred, zI_clamp, zI_div, zI_rem, zin_t, zgd_t, znz_t, if_pos, if_neg, if_true, if_false, Option.bind_some]
  · have q2 : ¬ zqW c N = 200 := fun e => q (h0.mp e)
    have v := hc (zqW c N) (by omega)
    rw [if_neg q, show ze2 (zqW c N) = nI (zqW c N) from if_neg q2]
    simp (disch := omega) only [v, ↓zN_eq, zL0, zL1, zL2, zL3, zL4, zL5, zL6, zL7, zL8, zL10, zL16, zL31, zL42, zL63, zL64, zL100, zL200, zL255, zL256, zL1000, zL12345, zL536870912, zI_le, zI_lt, zI_eq, zI_add, zI_sub, zI_mul, zI_neN, zI_Nne, zI_leN, zI_ltN, zI_Nle, zI_Nlt, zI_pred, zI_clamp, zI_div, zI_rem, zin_t, zgd_t, znz_t, if_pos, if_neg, if_true, if_false, Option.bind_some]
theorem pX_great_Tree_4 {S : zSt} {kd ky : Nat → Nat} {N : Nat} (hN : N ≤ 200) (hb : ∀ t, t < N → kd t < 8 ∧ ky t < 64) (ht : S.1 (12 + 3) = nI N) (hc : ∀ t, t < N → S.2 (16 + 3) t = nI (zar 3 (zA kd ky (t + 1)))) : ∀ r i m, r < m → i + r = N → fX_X7_greatestRoom_Tree_4 m (nI (zmr kd ky 3 i)) (nI i) S = some (nI (zmr kd ky 3 N)) := by
  intro r
  induction r with
  | zero =>
    intro i m hm hi
    obtain ⟨m, rfl⟩ : ∃ m', m = m' + 1 := ⟨m - 1, by omega⟩
    have e : i = N := by omega
    simp (disch := omega) only [fX_X7_greatestRoom_Tree_4, ht, ↓zN_eq, zL0, zL1, zL2, zL3, zL4, zL5, zL6, zL7, zL8, zL10, zL16, zL31, zL42, zL63, zL64, zL100, zL200, zL255, zL256, zL1000, zL12345, zL536870912, zI_le, zI_lt, zI_eq, zI_add, zI_sub, zI_mul, zI_neN, zI_Nne, zI_leN, zI_ltN, zI_Nle, zI_Nlt, zI_pred, zI_clamp, zI_div, zI_rem, zin_t, zgd_t, znz_t, if_pos, if_neg, if_true, if_false, Option.bind_some, e]
  | succ r ih =>
    intro i m hm hi
    obtain ⟨m, rfl⟩ : ∃ m', m = m' + 1 := ⟨m - 1, by omega⟩
    have v := hc i (by omega)
    have k := ih (i + 1) m (by omega) (by omega)
    have b1 := zmr_lt hN hb 3 i (by omega)
    have b2 := zar_le (j := 3) (zA_ok hN hb (i + 1) (by omega))
    have e : zmax (nI (zmr kd ky 3 i)) (nI (zar 3 (zA kd ky (i + 1)))) = nI (zmr kd ky 3 (i + 1)) := zmax_n (by omega) (by omega)
    rw [fX_X7_greatestRoom_Tree_4]
    simp (disch := omega) only [ht, v, e, ↓zN_eq, zL0, zL1, zL2, zL3, zL4, zL5, zL6, zL7, zL8, zL10, zL16, zL31, zL42, zL63, zL64, zL100, zL200, zL255, zL256, zL1000, zL12345, zL536870912, zI_le, zI_lt, zI_eq, zI_add, zI_sub, zI_mul, zI_neN, zI_Nne, zI_leN, zI_ltN, zI_Nle, zI_Nlt, zI_pred, zI_clamp, zI_div, zI_rem, zin_t, zgd_t, znz_t, if_pos, if_neg, if_true, if_false, Option.bind_some]; exact k
theorem pX_great_Tree {S : zSt} {kd ky : Nat → Nat} {N : Nat} (hN : N ≤ 200) (hb : ∀ t, t < N → kd t < 8 ∧ ky t < 64) (ht : S.1 (12 + 3) = nI N) (hc : ∀ t, t < N → S.2 (16 + 3) t = nI (zar 3 (zA kd ky (t + 1)))) : fX_X7_greatestRoom_Tree S = some (nI (zmr kd ky 3 N)) := by
  unfold fX_X7_greatestRoom_Tree
  rw [zL0]; exact pX_great_Tree_4 hN hb ht hc N 0 1000 (by omega) (by omega)

theorem pX_since_Heap_8 {S : zSt} {c : Nat → Int32} {N : Nat} (hN : N ≤ 200) (ht : S.1 (12 + 4) = nI N) (hc : ∀ t, t < N → S.2 (10 + 4) t = c t) : ∀ r i m a, r < m → i + r = N → fX_X7_stepsSince_Heap_8 m a (nI i) S = some (zqS c r i a) := by
  intro r
  induction r with
  | zero =>
    intro i m a hm hi
    obtain ⟨m, rfl⟩ : ∃ m', m = m' + 1 := ⟨m - 1, by omega⟩
    simp (disch := omega) only [fX_X7_stepsSince_Heap_8, ht, ↓zN_eq, zL0, zL1, zL2, zL3, zL4, zL5, zL6, zL7, zL8, zL10, zL16, zL31, zL42, zL63, zL64, zL100, zL200, zL255, zL256, zL1000, zL12345, zL536870912, zI_le, zI_lt, zI_eq, zI_add, zI_sub, zI_mul, zI_neN, zI_Nne, zI_leN, zI_ltN, zI_Nle, zI_Nlt, zI_pred, zI_clamp, zI_div, zI_rem, zin_t, zgd_t, znz_t, if_pos, if_neg, if_true, if_false, Option.bind_some]; rfl
  | succ r ih =>
    intro i m a hm hi
    obtain ⟨m, rfl⟩ : ∃ m', m = m' + 1 := ⟨m - 1, by omega⟩
    have v := hc i (by omega)
    have k := ih (i + 1) m (a + c i) (by omega) (by omega)
    simp (disch := omega) only [fX_X7_stepsSince_Heap_8, ht, v, ↓zN_eq, zL0, zL1, zL2, zL3, zL4, zL5, zL6, zL7, zL8, zL10, zL16, zL31, zL42, zL63, zL64, zL100, zL200, zL255, zL256, zL1000, zL12345, zL536870912, zI_le, zI_lt, zI_eq, zI_add, zI_sub, zI_mul, zI_neN, zI_Nne, zI_leN, zI_ltN, zI_Nle, zI_Nlt, zI_pred, zI_clamp, zI_div, zI_rem, zin_t, zgd_t, znz_t, if_pos, if_neg, if_true, if_false, Option.bind_some]; exact k
theorem pX_since_Heap {S : zSt} {c : Nat → Int32} {N p : Nat} (hN : N ≤ 200) (ht : S.1 (12 + 4) = nI N) (hc : ∀ t, t < N → S.2 (10 + 4) t = c t) (hp : p ≤ N) : fX_X7_stepsSince_Heap (nI p) S = some (zqS c (N - p) p (nI 0)) := by
  have e : zmax (nI p) (nI 0) = nI p := by rw [zmax_n (by omega) (by omega), Nat.max_eq_left (by omega)]
  unfold fX_X7_stepsSince_Heap
  rw [zL0, e]; exact pX_since_Heap_8 hN ht hc (N - p) p 1000 (nI 0) (by omega) (by omega)
theorem pX_worst_Heap_4 {S : zSt} {c : Nat → Int32} {N : Nat} (hN : N ≤ 200) (ht : S.1 (12 + 4) = nI N) (hc : ∀ t, t < N → S.2 (10 + 4) t = c t) : ∀ r i m, r < m → i + r = N → fX_X7_worstCall_Heap_4 m (ze2 (zqW c i)) (nI i) S = some (ze2 (zqW c N)) := by
  intro r
  induction r with
  | zero =>
    intro i m hm hi
    obtain ⟨m, rfl⟩ : ∃ m', m = m' + 1 := ⟨m - 1, by omega⟩
    have e : i = N := by omega
    simp (disch := omega) only [fX_X7_worstCall_Heap_4, ht, ↓zN_eq, zL0, zL1, zL2, zL3, zL4, zL5, zL6, zL7, zL8, zL10, zL16, zL31, zL42, zL63, zL64, zL100, zL200, zL255, zL256, zL1000, zL12345, zL536870912, zI_le, zI_lt, zI_eq, zI_add, zI_sub, zI_mul, zI_neN, zI_Nne, zI_leN, zI_ltN, zI_Nle, zI_Nlt, zI_pred, zI_clamp, zI_div, zI_rem, zin_t, zgd_t, znz_t, if_pos, if_neg, if_true, if_false, Option.bind_some, e]
  | succ r ih =>
    intro i m hm hi
    obtain ⟨m, rfl⟩ : ∃ m', m = m' + 1 := ⟨m - 1, by omega⟩
    have v := hc i (by omega)
    have k := ih (i + 1) m (by omega) (by omega)
    have hw := zqW_lt c i
    have es : zqW c (i + 1) = if zqW c i = 200 then i else if c i ≤ c (zqW c i) then zqW c i else i := rfl
    rw [es] at k
    rw [← k]
    by_cases q : zqW c i = 200
    · rw [if_pos q, q, show ze2 200 = zN from if_pos rfl, show ze2 i = nI i from if_neg (by omega)]
      simp (disch := omega) only [fX_X7_worstCall_Heap_4, fX_X7_worstCall_Heap_32, ht, ↓zN_eq, zL0, zL1, zL2, zL3, zL4, zL5, zL6, zL7, zL8, zL10, zL16, zL31, zL42, zL63, zL64, zL100, zL200, zL255, zL256, zL1000, zL12345, zL536870912, zI_le, zI_lt, zI_eq, zI_add, zI_sub, zI_mul, zI_neN, zI_Nne, zI_leN, zI_ltN, zI_Nle, zI_Nlt, zI_pred, zI_clamp, zI_div, zI_rem, zin_t, zgd_t, znz_t, if_pos, if_neg, if_true, if_false, Option.bind_some]
    · have v2 := hc (zqW c i) (by omega)
      rw [if_neg q]
      by_cases w : c i ≤ c (zqW c i)
      · rw [if_pos w]
        rw [show ze2 (zqW c i) = nI (zqW c i) from if_neg q]
        rw [fX_X7_worstCall_Heap_4]
        simp (disch := omega) only [ht, v, v2, w, ↓zN_eq, zL0, zL1, zL2, zL3, zL4, zL5, zL6, zL7, zL8, zL10, zL16, zL31, zL42, zL63, zL64, zL100, zL200, zL255, zL256, zL1000, zL12345, zL536870912, zI_le, zI_lt, zI_eq, zI_add, zI_sub, zI_mul, zI_neN, zI_Nne, zI_leN, zI_ltN, zI_Nle, zI_Nlt, zI_pred, zI_clamp, zI_div, zI_rem, zin_t, zgd_t, znz_t, if_pos, if_neg, if_true, if_false, Option.bind_some]
      · rw [if_neg w]
        rw [show ze2 (zqW c i) = nI (zqW c i) from if_neg q, show ze2 i = nI i from if_neg (by omega)]
        rw [fX_X7_worstCall_Heap_4]
        simp (disch := omega) only [fX_X7_worstCall_Heap_32, ht, v, v2, w, ↓zN_eq, zL0, zL1, zL2, zL3, zL4, zL5, zL6, zL7, zL8, zL10, zL16, zL31, zL42, zL63, zL64, zL100, zL200, zL255, zL256, zL1000, zL12345, zL536870912, zI_le, zI_lt, zI_eq, zI_add, zI_sub, zI_mul, zI_neN, zI_Nne, zI_leN, zI_ltN, zI_Nle, zI_Nlt, zI_pred, zI_clamp, zI_div, zI_rem, zin_t, zgd_t, znz_t, if_pos, if_neg, if_true, if_false, Option.bind_some]
theorem pX_worst_Heap {S : zSt} {c : Nat → Int32} {N : Nat} (hN : N ≤ 200) (ht : S.1 (12 + 4) = nI N) (hc : ∀ t, t < N → S.2 (10 + 4) t = c t) : fX_X7_worstCall_Heap S = some (ze2 (zqW c N)) := by
  unfold fX_X7_worstCall_Heap
  rw [zL0, zN_eq]; exact pX_worst_Heap_4 hN ht hc N 0 1000 (by omega) (by omega)
theorem pX_worstS_Heap {S : zSt} {c : Nat → Int32} {N : Nat} (hN : N ≤ 200) (ht : S.1 (12 + 4) = nI N) (hc : ∀ t, t < N → S.2 (10 + 4) t = c t) : fX_X7_worstSteps_Heap S = some (if N = 0 then nI 0 else c (zqW c N)) := by
  have h := pX_worst_Heap hN ht hc
  have h0 := zqW_0 c N hN
  have hl := zqW_lt c N
  unfold fX_X7_worstSteps_Heap
  rw [h]
  by_cases q : N = 0
  · rw [if_pos q, h0.mpr q, show ze2 200 = zN from if_pos rfl]
    simp (disch := omega) only [↓zN_eq, zL0, zL1, zL2, zL3, zL4, zL5, zL6, zL7, zL8, zL10, zL16, zL31, zL42, zL63, zL64, zL100, zL200, zL255, zL256, zL1000, zL12345, zL536870912, zI_le, zI_lt, zI_eq, zI_add, zI_sub, zI_mul, zI_neN, zI_Nne, zI_leN, zI_ltN, zI_Nle, zI_Nlt, zI_pred, zI_clamp, zI_div, zI_rem, zin_t, zgd_t, znz_t, if_pos, if_neg, if_true, if_false, Option.bind_some]
  · have q2 : ¬ zqW c N = 200 := fun e => q (h0.mp e)
    have v := hc (zqW c N) (by omega)
    rw [if_neg q, show ze2 (zqW c N) = nI (zqW c N) from if_neg q2]
    simp (disch := omega) only [v, ↓zN_eq, zL0, zL1, zL2, zL3, zL4, zL5, zL6, zL7, zL8, zL10, zL16, zL31, zL42, zL63, zL64, zL100, zL200, zL255, zL256, zL1000, zL12345, zL536870912, zI_le, zI_lt, zI_eq, zI_add, zI_sub, zI_mul, zI_neN, zI_Nne, zI_leN, zI_ltN, zI_Nle, zI_Nlt, zI_pred, zI_clamp, zI_div, zI_rem, zin_t, zgd_t, znz_t, if_pos, if_neg, if_true, if_false, Option.bind_some]
theorem pX_great_Heap_4 {S : zSt} {kd ky : Nat → Nat} {N : Nat} (hN : N ≤ 200) (hb : ∀ t, t < N → kd t < 8 ∧ ky t < 64) (ht : S.1 (12 + 4) = nI N) (hc : ∀ t, t < N → S.2 (16 + 4) t = nI (zar 4 (zA kd ky (t + 1)))) : ∀ r i m, r < m → i + r = N → fX_X7_greatestRoom_Heap_4 m (nI (zmr kd ky 4 i)) (nI i) S = some (nI (zmr kd ky 4 N)) := by
  intro r
  induction r with
  | zero =>
    intro i m hm hi
    obtain ⟨m, rfl⟩ : ∃ m', m = m' + 1 := ⟨m - 1, by omega⟩
    have e : i = N := by omega
    simp (disch := omega) only [fX_X7_greatestRoom_Heap_4, ht, ↓zN_eq, zL0, zL1, zL2, zL3, zL4, zL5, zL6, zL7, zL8, zL10, zL16, zL31, zL42, zL63, zL64, zL100, zL200, zL255, zL256, zL1000, zL12345, zL536870912, zI_le, zI_lt, zI_eq, zI_add, zI_sub, zI_mul, zI_neN, zI_Nne, zI_leN, zI_ltN, zI_Nle, zI_Nlt, zI_pred, zI_clamp, zI_div, zI_rem, zin_t, zgd_t, znz_t, if_pos, if_neg, if_true, if_false, Option.bind_some, e]
  | succ r ih =>
    intro i m hm hi
    obtain ⟨m, rfl⟩ : ∃ m', m = m' + 1 := ⟨m - 1, by omega⟩
    have v := hc i (by omega)
    have k := ih (i + 1) m (by omega) (by omega)
    have b1 := zmr_lt hN hb 4 i (by omega)
    have b2 := zar_le (j := 4) (zA_ok hN hb (i + 1) (by omega))
    have e : zmax (nI (zmr kd ky 4 i)) (nI (zar 4 (zA kd ky (i + 1)))) = nI (zmr kd ky 4 (i + 1)) := zmax_n (by omega) (by omega)
    rw [fX_X7_greatestRoom_Heap_4]
    simp (disch := omega) only [ht, v, e, ↓zN_eq, zL0, zL1, zL2, zL3, zL4, zL5, zL6, zL7, zL8, zL10, zL16, zL31, zL42, zL63, zL64, zL100, zL200, zL255, zL256, zL1000, zL12345, zL536870912, zI_le, zI_lt, zI_eq, zI_add, zI_sub, zI_mul, zI_neN, zI_Nne, zI_leN, zI_ltN, zI_Nle, zI_Nlt, zI_pred, zI_clamp, zI_div, zI_rem, zin_t, zgd_t, znz_t, if_pos, if_neg, if_true, if_false, Option.bind_some]; exact k
theorem pX_great_Heap {S : zSt} {kd ky : Nat → Nat} {N : Nat} (hN : N ≤ 200) (hb : ∀ t, t < N → kd t < 8 ∧ ky t < 64) (ht : S.1 (12 + 4) = nI N) (hc : ∀ t, t < N → S.2 (16 + 4) t = nI (zar 4 (zA kd ky (t + 1)))) : fX_X7_greatestRoom_Heap S = some (nI (zmr kd ky 4 N)) := by
  unfold fX_X7_greatestRoom_Heap
  rw [zL0]; exact pX_great_Heap_4 hN hb ht hc N 0 1000 (by omega) (by omega)

theorem pX_since_Bits_8 {S : zSt} {c : Nat → Int32} {N : Nat} (hN : N ≤ 200) (ht : S.1 (12 + 5) = nI N) (hc : ∀ t, t < N → S.2 (10 + 5) t = c t) : ∀ r i m a, r < m → i + r = N → fX_X7_stepsSince_Bits_8 m a (nI i) S = some (zqS c r i a) := by
  intro r
  induction r with
  | zero =>
    intro i m a hm hi
    obtain ⟨m, rfl⟩ : ∃ m', m = m' + 1 := ⟨m - 1, by omega⟩
    simp (disch := omega) only [fX_X7_stepsSince_Bits_8, ht, ↓zN_eq, zL0, zL1, zL2, zL3, zL4, zL5, zL6, zL7, zL8, zL10, zL16, zL31, zL42, zL63, zL64, zL100, zL200, zL255, zL256, zL1000, zL12345, zL536870912, zI_le, zI_lt, zI_eq, zI_add, zI_sub, zI_mul, zI_neN, zI_Nne, zI_leN, zI_ltN, zI_Nle, zI_Nlt, zI_pred, zI_clamp, zI_div, zI_rem, zin_t, zgd_t, znz_t, if_pos, if_neg, if_true, if_false, Option.bind_some]; rfl
  | succ r ih =>
    intro i m a hm hi
    obtain ⟨m, rfl⟩ : ∃ m', m = m' + 1 := ⟨m - 1, by omega⟩
    have v := hc i (by omega)
    have k := ih (i + 1) m (a + c i) (by omega) (by omega)
    simp (disch := omega) only [fX_X7_stepsSince_Bits_8, ht, v, ↓zN_eq, zL0, zL1, zL2, zL3, zL4, zL5, zL6, zL7, zL8, zL10, zL16, zL31, zL42, zL63, zL64, zL100, zL200, zL255, zL256, zL1000, zL12345, zL536870912, zI_le, zI_lt, zI_eq, zI_add, zI_sub, zI_mul, zI_neN, zI_Nne, zI_leN, zI_ltN, zI_Nle, zI_Nlt, zI_pred, zI_clamp, zI_div, zI_rem, zin_t, zgd_t, znz_t, if_pos, if_neg, if_true, if_false, Option.bind_some]; exact k
theorem pX_since_Bits {S : zSt} {c : Nat → Int32} {N p : Nat} (hN : N ≤ 200) (ht : S.1 (12 + 5) = nI N) (hc : ∀ t, t < N → S.2 (10 + 5) t = c t) (hp : p ≤ N) : fX_X7_stepsSince_Bits (nI p) S = some (zqS c (N - p) p (nI 0)) := by
  have e : zmax (nI p) (nI 0) = nI p := by rw [zmax_n (by omega) (by omega), Nat.max_eq_left (by omega)]
  unfold fX_X7_stepsSince_Bits
  rw [zL0, e]; exact pX_since_Bits_8 hN ht hc (N - p) p 1000 (nI 0) (by omega) (by omega)
theorem pX_worst_Bits_4 {S : zSt} {c : Nat → Int32} {N : Nat} (hN : N ≤ 200) (ht : S.1 (12 + 5) = nI N) (hc : ∀ t, t < N → S.2 (10 + 5) t = c t) : ∀ r i m, r < m → i + r = N → fX_X7_worstCall_Bits_4 m (ze2 (zqW c i)) (nI i) S = some (ze2 (zqW c N)) := by
  intro r
  induction r with
  | zero =>
    intro i m hm hi
    obtain ⟨m, rfl⟩ : ∃ m', m = m' + 1 := ⟨m - 1, by omega⟩
    have e : i = N := by omega
    simp (disch := omega) only [fX_X7_worstCall_Bits_4, ht, ↓zN_eq, zL0, zL1, zL2, zL3, zL4, zL5, zL6, zL7, zL8, zL10, zL16, zL31, zL42, zL63, zL64, zL100, zL200, zL255, zL256, zL1000, zL12345, zL536870912, zI_le, zI_lt, zI_eq, zI_add, zI_sub, zI_mul, zI_neN, zI_Nne, zI_leN, zI_ltN, zI_Nle, zI_Nlt, zI_pred, zI_clamp, zI_div, zI_rem, zin_t, zgd_t, znz_t, if_pos, if_neg, if_true, if_false, Option.bind_some, e]
  | succ r ih =>
    intro i m hm hi
    obtain ⟨m, rfl⟩ : ∃ m', m = m' + 1 := ⟨m - 1, by omega⟩
    have v := hc i (by omega)
    have k := ih (i + 1) m (by omega) (by omega)
    have hw := zqW_lt c i
    have es : zqW c (i + 1) = if zqW c i = 200 then i else if c i ≤ c (zqW c i) then zqW c i else i := rfl
    rw [es] at k
    rw [← k]
    by_cases q : zqW c i = 200
    · rw [if_pos q, q, show ze2 200 = zN from if_pos rfl, show ze2 i = nI i from if_neg (by omega)]
      simp (disch := omega) only [fX_X7_worstCall_Bits_4, fX_X7_worstCall_Bits_32, ht, ↓zN_eq, zL0, zL1, zL2, zL3, zL4, zL5, zL6, zL7, zL8, zL10, zL16, zL31, zL42, zL63, zL64, zL100, zL200, zL255, zL256, zL1000, zL12345, zL536870912, zI_le, zI_lt, zI_eq, zI_add, zI_sub, zI_mul, zI_neN, zI_Nne, zI_leN, zI_ltN, zI_Nle, zI_Nlt, zI_pred, zI_clamp, zI_div, zI_rem, zin_t, zgd_t, znz_t, if_pos, if_neg, if_true, if_false, Option.bind_some]
    · have v2 := hc (zqW c i) (by omega)
      rw [if_neg q]
      by_cases w : c i ≤ c (zqW c i)
      · rw [if_pos w]
        rw [show ze2 (zqW c i) = nI (zqW c i) from if_neg q]
        rw [fX_X7_worstCall_Bits_4]
        simp (disch := omega) only [ht, v, v2, w, ↓zN_eq, zL0, zL1, zL2, zL3, zL4, zL5, zL6, zL7, zL8, zL10, zL16, zL31, zL42, zL63, zL64, zL100, zL200, zL255, zL256, zL1000, zL12345, zL536870912, zI_le, zI_lt, zI_eq, zI_add, zI_sub, zI_mul, zI_neN, zI_Nne, zI_leN, zI_ltN, zI_Nle, zI_Nlt, zI_pred, zI_clamp, zI_div, zI_rem, zin_t, zgd_t, znz_t, if_pos, if_neg, if_true, if_false, Option.bind_some]
      · rw [if_neg w]
        rw [show ze2 (zqW c i) = nI (zqW c i) from if_neg q, show ze2 i = nI i from if_neg (by omega)]
        rw [fX_X7_worstCall_Bits_4]
        simp (disch := omega) only [fX_X7_worstCall_Bits_32, ht, v, v2, w, ↓zN_eq, zL0, zL1, zL2, zL3, zL4, zL5, zL6, zL7, zL8, zL10, zL16, zL31, zL42, zL63, zL64, zL100, zL200, zL255, zL256, zL1000, zL12345, zL536870912, zI_le, zI_lt, zI_eq, zI_add, zI_sub, zI_mul, zI_neN, zI_Nne, zI_leN, zI_ltN, zI_Nle, zI_Nlt, zI_pred, zI_clamp, zI_div, zI_rem, zin_t, zgd_t, znz_t, if_pos, if_neg, if_true, if_false, Option.bind_some]
theorem pX_worst_Bits {S : zSt} {c : Nat → Int32} {N : Nat} (hN : N ≤ 200) (ht : S.1 (12 + 5) = nI N) (hc : ∀ t, t < N → S.2 (10 + 5) t = c t) : fX_X7_worstCall_Bits S = some (ze2 (zqW c N)) := by
  unfold fX_X7_worstCall_Bits
  rw [zL0, zN_eq]; exact pX_worst_Bits_4 hN ht hc N 0 1000 (by omega) (by omega)
theorem pX_worstS_Bits {S : zSt} {c : Nat → Int32} {N : Nat} (hN : N ≤ 200) (ht : S.1 (12 + 5) = nI N) (hc : ∀ t, t < N → S.2 (10 + 5) t = c t) : fX_X7_worstSteps_Bits S = some (if N = 0 then nI 0 else c (zqW c N)) := by
  have h := pX_worst_Bits hN ht hc
  have h0 := zqW_0 c N hN
  have hl := zqW_lt c N
  unfold fX_X7_worstSteps_Bits
  rw [h]
  by_cases q : N = 0
  · rw [if_pos q, h0.mpr q, show ze2 200 = zN from if_pos rfl]
    simp (disch := omega) only [↓zN_eq, zL0, zL1, zL2, zL3, zL4, zL5, zL6, zL7, zL8, zL10, zL16, zL31, zL42, zL63, zL64, zL100, zL200, zL255, zL256, zL1000, zL12345, zL536870912, zI_le, zI_lt, zI_eq, zI_add, zI_sub, zI_mul, zI_neN, zI_Nne, zI_leN, zI_ltN, zI_Nle, zI_Nlt, zI_pred, zI_clamp, zI_div, zI_rem, zin_t, zgd_t, znz_t, if_pos, if_neg, if_true, if_false, Option.bind_some]
  · have q2 : ¬ zqW c N = 200 := fun e => q (h0.mp e)
    have v := hc (zqW c N) (by omega)
    rw [if_neg q, show ze2 (zqW c N) = nI (zqW c N) from if_neg q2]
    simp (disch := omega) only [v, ↓zN_eq, zL0, zL1, zL2, zL3, zL4, zL5, zL6, zL7, zL8, zL10, zL16, zL31, zL42, zL63, zL64, zL100, zL200, zL255, zL256, zL1000, zL12345, zL536870912, zI_le, zI_lt, zI_eq, zI_add, zI_sub, zI_mul, zI_neN, zI_Nne, zI_leN, zI_ltN, zI_Nle, zI_Nlt, zI_pred, zI_clamp, zI_div, zI_rem, zin_t, zgd_t, znz_t, if_pos, if_neg, if_true, if_false, Option.bind_some]
theorem pX_great_Bits_4 {S : zSt} {kd ky : Nat → Nat} {N : Nat} (hN : N ≤ 200) (hb : ∀ t, t < N → kd t < 8 ∧ ky t < 64) (ht : S.1 (12 + 5) = nI N) (hc : ∀ t, t < N → S.2 (16 + 5) t = nI (zar 5 (zA kd ky (t + 1)))) : ∀ r i m, r < m → i + r = N → fX_X7_greatestRoom_Bits_4 m (nI (zmr kd ky 5 i)) (nI i) S = some (nI (zmr kd ky 5 N)) := by
  intro r
  induction r with
  | zero =>
    intro i m hm hi
    obtain ⟨m, rfl⟩ : ∃ m', m = m' + 1 := ⟨m - 1, by omega⟩
    have e : i = N := by omega
    simp (disch := omega) only [fX_X7_greatestRoom_Bits_4, ht, ↓zN_eq, zL0, zL1, zL2, zL3, zL4, zL5, zL6, zL7, zL8, zL10, zL16, zL31, zL42, zL63, zL64, zL100, zL200, zL255, zL256, zL1000, zL12345, zL536870912, zI_le, zI_lt, zI_eq, zI_add, zI_sub, zI_mul, zI_neN, zI_Nne, zI_leN, zI_ltN, zI_Nle, zI_Nlt, zI_pred, zI_clamp, zI_div, zI_rem, zin_t, zgd_t, znz_t, if_pos, if_neg, if_true, if_false, Option.bind_some, e]
  | succ r ih =>
    intro i m hm hi
    obtain ⟨m, rfl⟩ : ∃ m', m = m' + 1 := ⟨m - 1, by omega⟩
    have v := hc i (by omega)
    have k := ih (i + 1) m (by omega) (by omega)
    have b1 := zmr_lt hN hb 5 i (by omega)
    have b2 := zar_le (j := 5) (zA_ok hN hb (i + 1) (by omega))
    have e : zmax (nI (zmr kd ky 5 i)) (nI (zar 5 (zA kd ky (i + 1)))) = nI (zmr kd ky 5 (i + 1)) := zmax_n (by omega) (by omega)
    rw [fX_X7_greatestRoom_Bits_4]
    simp (disch := omega) only [ht, v, e, ↓zN_eq, zL0, zL1, zL2, zL3, zL4, zL5, zL6, zL7, zL8, zL10, zL16, zL31, zL42, zL63, zL64, zL100, zL200, zL255, zL256, zL1000, zL12345, zL536870912, zI_le, zI_lt, zI_eq, zI_add, zI_sub, zI_mul, zI_neN, zI_Nne, zI_leN, zI_ltN, zI_Nle, zI_Nlt, zI_pred, zI_clamp, zI_div, zI_rem, zin_t, zgd_t, znz_t, if_pos, if_neg, if_true, if_false, Option.bind_some]; exact k
theorem pX_great_Bits {S : zSt} {kd ky : Nat → Nat} {N : Nat} (hN : N ≤ 200) (hb : ∀ t, t < N → kd t < 8 ∧ ky t < 64) (ht : S.1 (12 + 5) = nI N) (hc : ∀ t, t < N → S.2 (16 + 5) t = nI (zar 5 (zA kd ky (t + 1)))) : fX_X7_greatestRoom_Bits S = some (nI (zmr kd ky 5 N)) := by
  unfold fX_X7_greatestRoom_Bits
  rw [zL0]; exact pX_great_Bits_4 hN hb ht hc N 0 1000 (by omega) (by omega)


/-! key -/
def zsm (cn : Nat → Nat) : Nat → Nat → Nat
  | 0, _ => 0
  | r + 1, k => cn k + zsm cn r (k + 1)
def zasn (cn : Nat → Nat) : Nat → Nat → Nat → Nat
  | 0, _, _ => 64
  | r + 1, a, k => if a < cn k then k else zasn cn r (a - cn k) (k + 1)
theorem zsm_add (f g : Nat → Nat) : ∀ r k, zsm (fun j => f j + g j) r k = zsm f r k + zsm g r k := by
  intro r
  induction r with
  | zero => intro k; rfl
  | succ r ih =>
    intro k
    show f k + g k + zsm (fun j => f j + g j) r (k + 1) = f k + zsm f r (k + 1) + (g k + zsm g r (k + 1))
    rw [ih]; omega
theorem zsm_z : ∀ r k, zsm (fun _ => 0) r k = 0 := by
  intro r
  induction r with
  | zero => intro k; rfl
  | succ r ih =>
    intro k
    show 0 + zsm (fun _ => 0) r (k + 1) = 0
    rw [ih]
theorem zsm_1 (v : Nat) : ∀ r k, zsm (fun j => if v = j then 1 else 0) r k = if k ≤ v ∧ v < k + r then 1 else 0 := by
  intro r
  induction r with
  | zero => intro k; rw [if_neg (by omega)]; rfl
  | succ r ih =>
    intro k
    show (if v = k then 1 else 0) + zsm (fun j => if v = j then 1 else 0) r (k + 1) = _
    rw [ih]
    by_cases q : v = k
    · rw [if_pos q, if_neg (by omega), if_pos (by omega)]
    · rw [if_neg q]
      by_cases w : k + 1 ≤ v ∧ v < k + 1 + r
      · rw [if_pos w, if_pos (by omega)]
      · rw [if_neg w, if_neg (by omega)]
theorem zsm_cn {g : Nat → Nat} : ∀ n, zK64 g n → zsm (fun k => zcn g k n) 64 0 = n := by
  intro n
  induction n with
  | zero => intro _; exact zsm_z 64 0
  | succ n ih =>
    intro h
    show zsm (fun k => zcn g k n + (if g n = k then 1 else 0)) 64 0 = n + 1
    have hv := h n (by omega)
    rw [zsm_add, ih (fun j hj => h j (by omega)), zsm_1, if_pos (by omega)]
theorem pX_keyAt_Tree_4 {S : zSt} {cn : Nat → Nat} {i : Nat} (hr : zRp (S.2 38) 64 cn) (hc : zC2 cn) (hi : i < 200) : ∀ r k m b a, r < m → k + r = 64 → b + a = i → a < zsm cn r k → fX_X1_keyAt_Tree_4 m (nI i) (nI b) (nI k) S = some (nI (zasn cn r a k)) := by
  intro r
  induction r with
  | zero => intro k m b a hm hk hb ha; exact absurd ha (Nat.not_lt_zero a)
  | succ r ih =>
    intro k m b a hm hk hb ha
    obtain ⟨m, rfl⟩ : ∃ m', m = m' + 1 := ⟨m - 1, by omega⟩
    have v := hr k (by omega)
    have v2 := hc k (by omega)
    have ha' : a < cn k + zsm cn r (k + 1) := ha
    by_cases q : a < cn k
    · rw [show zasn cn (r + 1) a k = k from if_pos q]
      simp (disch := omega) only [fX_X1_keyAt_Tree_4, v, ↓zN_eq, zL0, zL1, zL2, zL3, zL4, zL5, zL6, zL7, zL8, zL10, zL16, zL31, zL42, zL63, zL64, zL100, zL200, zL255, zL256, zL1000, zL12345, zL536870912, zI_le, zI_lt, zI_eq, zI_add, zI_sub, zI_mul, zI_neN, zI_Nne, zI_leN, zI_ltN, zI_Nle, zI_Nlt, zI_pred, zI_clamp, zI_div, zI_rem, zin_t, zgd_t, znz_t, if_pos, if_neg, if_true, if_false, Option.bind_some]
    · rw [show zasn cn (r + 1) a k = zasn cn r (a - cn k) (k + 1) from if_neg q]
      have e := ih (k + 1) m (b + cn k) (a - cn k) (by omega) (by omega) (by omega) (by omega)
      rw [← e, fX_X1_keyAt_Tree_4]
      simp (disch := omega) only [v, ↓zN_eq, zL0, zL1, zL2, zL3, zL4, zL5, zL6, zL7, zL8, zL10, zL16, zL31, zL42, zL63, zL64, zL100, zL200, zL255, zL256, zL1000, zL12345, zL536870912, zI_le, zI_lt, zI_eq, zI_add, zI_sub, zI_mul, zI_neN, zI_Nne, zI_leN, zI_ltN, zI_Nle, zI_Nlt, zI_pred, zI_clamp, zI_div, zI_rem, zin_t, zgd_t, znz_t, if_pos, if_neg, if_true, if_false, Option.bind_some]
theorem pX_keyAt_Tree {S : zSt} {cn : Nat → Nat} {i : Nat} (hr : zRp (S.2 38) 64 cn) (hc : zC2 cn) (hi : i < 200) (h : i < zsm cn 64 0) : fX_X1_keyAt_Tree (nI i) S = some (nI (zasn cn 64 i 0)) := by
  unfold fX_X1_keyAt_Tree
  rw [zL0]; exact pX_keyAt_Tree_4 hr hc hi 64 0 1000 0 i (by omega) (by omega) (by omega) h

theorem pX_keyAt_Bits_4 {S : zSt} {cn : Nat → Nat} {i : Nat} (hr : zRp (S.2 39) 64 cn) (hc : zC2 cn) (hi : i < 200) : ∀ r k m b a, r < m → k + r = 64 → b + a = i → a < zsm cn r k → fX_X1_keyAt_Bits_4 m (nI i) (nI b) (nI k) S = some (nI (zasn cn r a k)) := by
  intro r
  induction r with
  | zero => intro k m b a hm hk hb ha; exact absurd ha (Nat.not_lt_zero a)
  | succ r ih =>
    intro k m b a hm hk hb ha
    obtain ⟨m, rfl⟩ : ∃ m', m = m' + 1 := ⟨m - 1, by omega⟩
    have v := hr k (by omega)
    have v2 := hc k (by omega)
    have ha' : a < cn k + zsm cn r (k + 1) := ha
    by_cases q : a < cn k
    · rw [show zasn cn (r + 1) a k = k from if_pos q]
      simp (disch := omega) only [fX_X1_keyAt_Bits_4, v, ↓zN_eq, zL0, zL1, zL2, zL3, zL4, zL5, zL6, zL7, zL8, zL10, zL16, zL31, zL42, zL63, zL64, zL100, zL200, zL255, zL256, zL1000, zL12345, zL536870912, zI_le, zI_lt, zI_eq, zI_add, zI_sub, zI_mul, zI_neN, zI_Nne, zI_leN, zI_ltN, zI_Nle, zI_Nlt, zI_pred, zI_clamp, zI_div, zI_rem, zin_t, zgd_t, znz_t, if_pos, if_neg, if_true, if_false, Option.bind_some]
    · rw [show zasn cn (r + 1) a k = zasn cn r (a - cn k) (k + 1) from if_neg q]
      have e := ih (k + 1) m (b + cn k) (a - cn k) (by omega) (by omega) (by omega) (by omega)
      rw [← e, fX_X1_keyAt_Bits_4]
      simp (disch := omega) only [v, ↓zN_eq, zL0, zL1, zL2, zL3, zL4, zL5, zL6, zL7, zL8, zL10, zL16, zL31, zL42, zL63, zL64, zL100, zL200, zL255, zL256, zL1000, zL12345, zL536870912, zI_le, zI_lt, zI_eq, zI_add, zI_sub, zI_mul, zI_neN, zI_Nne, zI_leN, zI_ltN, zI_Nle, zI_Nlt, zI_pred, zI_clamp, zI_div, zI_rem, zin_t, zgd_t, znz_t, if_pos, if_neg, if_true, if_false, Option.bind_some]
theorem pX_keyAt_Bits {S : zSt} {cn : Nat → Nat} {i : Nat} (hr : zRp (S.2 39) 64 cn) (hc : zC2 cn) (hi : i < 200) (h : i < zsm cn 64 0) : fX_X1_keyAt_Bits (nI i) S = some (nI (zasn cn 64 i 0)) := by
  unfold fX_X1_keyAt_Bits
  rw [zL0]; exact pX_keyAt_Bits_4 hr hc hi 64 0 1000 0 i (by omega) (by omega) (by omega) h

theorem pM_asc_4 {S : zSt} {cn : Nat → Nat} (hr : zRp (S.2 24) 64 cn) (hc : zC2 cn) : ∀ r k m a, r < m → k + r = 64 → a < 200 → a < zsm cn r k → fM_X11_ascending_4 m (nI a) (nI k) S = some (nI (zasn cn r a k)) := by
  intro r
  induction r with
  | zero => intro k m a hm hk hb ha; exact absurd ha (Nat.not_lt_zero a)
  | succ r ih =>
    intro k m a hm hk hb ha
    obtain ⟨m, rfl⟩ : ∃ m', m = m' + 1 := ⟨m - 1, by omega⟩
    have v := hr k (by omega)
    have v2 := hc k (by omega)
    have ha' : a < cn k + zsm cn r (k + 1) := ha
    by_cases q : a < cn k
    · rw [show zasn cn (r + 1) a k = k from if_pos q]
      simp (disch := omega) only [fM_X11_ascending_4, v, ↓zN_eq, zL0, zL1, zL2, zL3, zL4, zL5, zL6, zL7, zL8, zL10, zL16, zL31, zL42, zL63, zL64, zL100, zL200, zL255, zL256, zL1000, zL12345, zL536870912, zI_le, zI_lt, zI_eq, zI_add, zI_sub, zI_mul, zI_neN, zI_Nne, zI_leN, zI_ltN, zI_Nle, zI_Nlt, zI_pred, zI_clamp, zI_div, zI_rem, zin_t, zgd_t, znz_t, if_pos, if_neg, if_true, if_false, Option.bind_some]
    · rw [show zasn cn (r + 1) a k = zasn cn r (a - cn k) (k + 1) from if_neg q]
      have e := ih (k + 1) m (a - cn k) (by omega) (by omega) (by omega) (by omega)
      rw [← e, fM_X11_ascending_4]
      simp (disch := omega) only [v, ↓zN_eq, zL0, zL1, zL2, zL3, zL4, zL5, zL6, zL7, zL8, zL10, zL16, zL31, zL42, zL63, zL64, zL100, zL200, zL255, zL256, zL1000, zL12345, zL536870912, zI_le, zI_lt, zI_eq, zI_add, zI_sub, zI_mul, zI_neN, zI_Nne, zI_leN, zI_ltN, zI_Nle, zI_Nlt, zI_pred, zI_clamp, zI_div, zI_rem, zin_t, zgd_t, znz_t, if_pos, if_neg, if_true, if_false, Option.bind_some]
def zqK (A : zAt) (j i : Nat) : Nat := match j with
  | 0 => zaG A i
  | 1 => zaS A i
  | 2 => zaH A i
  | 4 => zaX A i
  | _ => zasn (zct2 A) 64 i 0
theorem pX_kAt_Row {S : zSt} {n i : Nat} {g : Nat → Nat} (hz : S.1 20 = nI n) (hn : n ≤ 200) (hr : zRp (S.2 33) n g) (hi : i < n) : fX_X4_keyAt_Row (nI i) S = some (nI (g i)) := by
  have v := hr i hi
  unfold fX_X4_keyAt_Row
  simp (disch := omega) only [hz, v, ↓zN_eq, zL0, zL1, zL2, zL3, zL4, zL5, zL6, zL7, zL8, zL10, zL16, zL31, zL42, zL63, zL64, zL100, zL200, zL255, zL256, zL1000, zL12345, zL536870912, zI_le, zI_lt, zI_eq, zI_add, zI_sub, zI_mul, zI_neN, zI_Nne, zI_leN, zI_ltN, zI_Nle, zI_Nlt, zI_pred, zI_clamp, zI_div, zI_rem, zin_t, zgd_t, znz_t, if_pos, if_neg, if_true, if_false, Option.bind_some]

theorem pX_kAt_Sorted {S : zSt} {n i : Nat} {g : Nat → Nat} (hz : S.1 23 = nI n) (hn : n ≤ 200) (hr : zRp (S.2 34) n g) (hi : i < n) : fX_X4_keyAt_Sorted (nI i) S = some (nI (g i)) := by
  have v := hr i hi
  unfold fX_X4_keyAt_Sorted
  simp (disch := omega) only [hz, v, ↓zN_eq, zL0, zL1, zL2, zL3, zL4, zL5, zL6, zL7, zL8, zL10, zL16, zL31, zL42, zL63, zL64, zL100, zL200, zL255, zL256, zL1000, zL12345, zL536870912, zI_le, zI_lt, zI_eq, zI_add, zI_sub, zI_mul, zI_neN, zI_Nne, zI_leN, zI_ltN, zI_Nle, zI_Nlt, zI_pred, zI_clamp, zI_div, zI_rem, zin_t, zgd_t, znz_t, if_pos, if_neg, if_true, if_false, Option.bind_some]

theorem pX_kAt_Hash {S : zSt} {n i : Nat} {g : Nat → Nat} (hz : S.1 27 = nI n) (hn : n ≤ 200) (hr : zRp (S.2 35) n g) (hi : i < n) : fX_X4_keyAt_Hash (nI i) S = some (nI (g i)) := by
  have v := hr i hi
  unfold fX_X4_keyAt_Hash
  simp (disch := omega) only [hz, v, ↓zN_eq, zL0, zL1, zL2, zL3, zL4, zL5, zL6, zL7, zL8, zL10, zL16, zL31, zL42, zL63, zL64, zL100, zL200, zL255, zL256, zL1000, zL12345, zL536870912, zI_le, zI_lt, zI_eq, zI_add, zI_sub, zI_mul, zI_neN, zI_Nne, zI_leN, zI_ltN, zI_Nle, zI_Nlt, zI_pred, zI_clamp, zI_div, zI_rem, zin_t, zgd_t, znz_t, if_pos, if_neg, if_true, if_false, Option.bind_some]

theorem pX_kAt_Heap {S : zSt} {n i : Nat} {g : Nat → Nat} (hz : S.1 30 = nI n) (hn : n ≤ 200) (hr : zRp (S.2 36) n g) (hi : i < n) : fX_X4_keyAt_Heap (nI i) S = some (nI (g i)) := by
  have v := hr i hi
  unfold fX_X4_keyAt_Heap
  simp (disch := omega) only [hz, v, ↓zN_eq, zL0, zL1, zL2, zL3, zL4, zL5, zL6, zL7, zL8, zL10, zL16, zL31, zL42, zL63, zL64, zL100, zL200, zL255, zL256, zL1000, zL12345, zL536870912, zI_le, zI_lt, zI_eq, zI_add, zI_sub, zI_mul, zI_neN, zI_Nne, zI_leN, zI_ltN, zI_Nle, zI_Nlt, zI_pred, zI_clamp, zI_div, zI_rem, zin_t, zgd_t, znz_t, if_pos, if_neg, if_true, if_false, Option.bind_some]

theorem pX_dkeyAt {S : zSt} {A : zAt} {N j i : Nat} (hj : j < 6) (h : zXR j S A) (hA : zaOK A N) (hi : i < zaN A) : fX_d_keyAt j (nI i) S = some (nI (zqK A j i)) := by
  have a2 := hA.1.2.1
  have hs : i < zsm (zct2 A) 64 0 := by
    have : zsm (zct2 A) 64 0 = zaN A := zsm_cn (zaN A) hA.2.1.1
    omega
  rcases z6c hj with rfl | rfl | rfl | rfl | rfl | rfl
  · rw [fX_d_keyAt_0]; exact pX_kAt_Row h.1 a2 h.2.2.1 hi
  · rw [fX_d_keyAt_1]; exact pX_kAt_Sorted h.1 a2 h.2.2.1 hi
  · rw [fX_d_keyAt_2]; exact pX_kAt_Hash h.1 a2 h.2.2.1 hi
  · obtain ⟨l, r, root, x1, x2, x3⟩ := h
    rw [fX_d_keyAt_3]; exact pX_keyAt_Tree x2 (zC2_ct hA) (by omega) hs
  · rw [fX_d_keyAt_4]; exact pX_kAt_Heap h.1 a2 h.2.2.1 hi
  · rw [fX_d_keyAt_5]; exact pX_keyAt_Bits h (zC2_ct hA) (by omega) hs
theorem zt_key {SX SM : zSt} (h : zTp SX SM) (x1 x2 : Int32) : ∃ r SM', fX_X10_key x1 x2 SX = some r ∧ fM_X11_key x1 x2 SM = some (r, SM') ∧ zTp SX SM' := by
  obtain ⟨kd, ky, N, gu, ac, fe, ea, hb, hX, hM⟩ := h
  have hM7 := zMT2_7 (v := nI 0) hM
  have mk : ∀ S', zMT2 S' kd ky N gu ac fe ea → zTp SX S' := fun S' h' => ⟨kd, ky, N, gu, ac, fe, ea, hb, hX, h'⟩
  obtain ⟨S', e, hM', hD⟩ := zMT2_do hM7
  have hN := hX.1.2.1
  have hbk := hX.1.2.2.2.2.1
  have hS := hX.1.2.2.2.2.2.2.2
  have hA := zA_ok hN hbk N (Nat.le_refl N)
  have a2 := hA.1.2.1
  have h20 : SX.1 20 = nI (zaN (zA kd ky N)) := (hS 0 (by omega)).1.1
  have h18 : S'.1 18 = nI (zaN (zA kd ky N)) := hD.1.1
  rcases zcs x1 with q | ⟨j, hj, rfl⟩
  · refine ⟨zN, zsI SM 7 (nI 0), ?_, ?_, mk _ hM7⟩
    · simp (disch := omega) only [fX_X10_key, pX_isShelf_n q, ↓zN_eq, zL0, zL1, zL2, zL3, zL4, zL5, zL6, zL7, zL8, zL10, zL16, zL31, zL42, zL63, zL64, zL100, zL200, zL255, zL256, zL1000, zL12345, zL536870912, zI_le, zI_lt, zI_eq, zI_add, zI_sub, zI_mul, zI_neN, zI_Nne, zI_leN, zI_ltN, zI_Nle, zI_Nlt, zI_pred, zI_clamp, zI_div, zI_rem, zin_t, zgd_t, znz_t, if_pos, if_neg, if_true, if_false, Option.bind_some]
    · simp (disch := omega) only [fM_X11_key, pM_isShelf_n q, ↓zN_eq, zL0, zL1, zL2, zL3, zL4, zL5, zL6, zL7, zL8, zL10, zL16, zL31, zL42, zL63, zL64, zL100, zL200, zL255, zL256, zL1000, zL12345, zL536870912, zI_le, zI_lt, zI_eq, zI_add, zI_sub, zI_mul, zI_neN, zI_Nne, zI_leN, zI_ltN, zI_Nle, zI_Nlt, zI_pred, zI_clamp, zI_div, zI_rem, zin_t, zgd_t, znz_t, if_pos, if_neg, if_true, if_false, Option.bind_some]
  · by_cases w : j < 6
    · have c1 := pX_isShelf_t (S := SX) w
      have c2 := pM_isShelf_t (S := zsI SM 7 (nI 0)) w
      rcases zcs x2 with q | ⟨i, hi, rfl⟩
      · obtain ⟨n1, n2, n3, n4, n5⟩ := zneg q
        have c3 : ∀ v, fM_X11_in x2 (nI 0) v S' = some (nI 0) := fun v => pM_in_n q (by omega)
        refine ⟨zN, S', ?_, ?_, mk _ hM'⟩
        · simp (disch := omega) only [fX_X10_key, c1, n5, ↓zN_eq, zL0, zL1, zL2, zL3, zL4, zL5, zL6, zL7, zL8, zL10, zL16, zL31, zL42, zL63, zL64, zL100, zL200, zL255, zL256, zL1000, zL12345, zL536870912, zI_le, zI_lt, zI_eq, zI_add, zI_sub, zI_mul, zI_neN, zI_Nne, zI_leN, zI_ltN, zI_Nle, zI_Nlt, zI_pred, zI_clamp, zI_div, zI_rem, zin_t, zgd_t, znz_t, if_pos, if_neg, if_true, if_false, Option.bind_some]
        · simp (disch := omega) only [fM_X11_key, c2, e, c3, ↓zN_eq, zL0, zL1, zL2, zL3, zL4, zL5, zL6, zL7, zL8, zL10, zL16, zL31, zL42, zL63, zL64, zL100, zL200, zL255, zL256, zL1000, zL12345, zL536870912, zI_le, zI_lt, zI_eq, zI_add, zI_sub, zI_mul, zI_neN, zI_Nne, zI_leN, zI_ltN, zI_Nle, zI_Nlt, zI_pred, zI_clamp, zI_div, zI_rem, zin_t, zgd_t, znz_t, if_pos, if_neg, if_true, if_false, Option.bind_some]
      · by_cases y : i < zaN (zA kd ky N)
        · have c3 := pM_in_t (S := S') (lo := 0) hi (show zaN (zA kd ky N) - 1 < 2147483648 by omega) (by omega) (by omega)
          have k := pX_dkeyAt w (hS j w).1 hA y
          refine ⟨nI (zqK (zA kd ky N) j i), S', ?_, ?_, mk _ hM'⟩
          · simp (disch := omega) only [fX_X10_key, fX_X10_key_28, fX_X10_key_32, c1, h20, k, ↓zN_eq, zL0, zL1, zL2, zL3, zL4, zL5, zL6, zL7, zL8, zL10, zL16, zL31, zL42, zL63, zL64, zL100, zL200, zL255, zL256, zL1000, zL12345, zL536870912, zI_le, zI_lt, zI_eq, zI_add, zI_sub, zI_mul, zI_neN, zI_Nne, zI_leN, zI_ltN, zI_Nle, zI_Nlt, zI_pred, zI_clamp, zI_div, zI_rem, zin_t, zgd_t, znz_t, if_pos, if_neg, if_true, if_false, Option.bind_some]
          · obtain ⟨m1, m2, ⟨m3, m4, m5⟩, ⟨m6, m7, m8⟩, st, hk, hs, s, e1, e2, e3⟩ := hD.1
            have g1 := pM_chained e1 e2 hA.2.2.1.2 y
            have g2 : fM_X11_ascending (nI i) S' = some (nI (zasn (zct2 (zA kd ky N)) 64 i 0)) := by
              unfold fM_X11_ascending
              rw [zL0]
              exact pM_asc_4 m7 (zC2_ct hA) 64 0 1000 i (by omega) (by omega) (by omega) (by
                have : zsm (zct2 (zA kd ky N)) 64 0 = zaN (zA kd ky N) := zsm_cn _ hA.2.1.1
                omega)
            have t1 := m3 i y
            have t2 := m4 i y
            have t3 := m5 i y
            rcases z6c w with rfl | rfl | rfl | rfl | rfl | rfl
            · simp (disch := omega) only [fM_X11_key, c2, e, h18, c3, t1, ↓zN_eq, zL0, zL1, zL2, zL3, zL4, zL5, zL6, zL7, zL8, zL10, zL16, zL31, zL42, zL63, zL64, zL100, zL200, zL255, zL256, zL1000, zL12345, zL536870912, zI_le, zI_lt, zI_eq, zI_add, zI_sub, zI_mul, zI_neN, zI_Nne, zI_leN, zI_ltN, zI_Nle, zI_Nlt, zI_pred, zI_clamp, zI_div, zI_rem, zin_t, zgd_t, znz_t, if_pos, if_neg, if_true, if_false, Option.bind_some]; rfl
            · simp (disch := omega) only [fM_X11_key, c2, e, h18, c3, t2, ↓zN_eq, zL0, zL1, zL2, zL3, zL4, zL5, zL6, zL7, zL8, zL10, zL16, zL31, zL42, zL63, zL64, zL100, zL200, zL255, zL256, zL1000, zL12345, zL536870912, zI_le, zI_lt, zI_eq, zI_add, zI_sub, zI_mul, zI_neN, zI_Nne, zI_leN, zI_ltN, zI_Nle, zI_Nlt, zI_pred, zI_clamp, zI_div, zI_rem, zin_t, zgd_t, znz_t, if_pos, if_neg, if_true, if_false, Option.bind_some]; rfl
            · simp (disch := omega) only [fM_X11_key, c2, e, h18, c3, g1, ↓zN_eq, zL0, zL1, zL2, zL3, zL4, zL5, zL6, zL7, zL8, zL10, zL16, zL31, zL42, zL63, zL64, zL100, zL200, zL255, zL256, zL1000, zL12345, zL536870912, zI_le, zI_lt, zI_eq, zI_add, zI_sub, zI_mul, zI_neN, zI_Nne, zI_leN, zI_ltN, zI_Nle, zI_Nlt, zI_pred, zI_clamp, zI_div, zI_rem, zin_t, zgd_t, znz_t, if_pos, if_neg, if_true, if_false, Option.bind_some]; rfl
            · simp (disch := omega) only [fM_X11_key, c2, e, h18, c3, g2, ↓zN_eq, zL0, zL1, zL2, zL3, zL4, zL5, zL6, zL7, zL8, zL10, zL16, zL31, zL42, zL63, zL64, zL100, zL200, zL255, zL256, zL1000, zL12345, zL536870912, zI_le, zI_lt, zI_eq, zI_add, zI_sub, zI_mul, zI_neN, zI_Nne, zI_leN, zI_ltN, zI_Nle, zI_Nlt, zI_pred, zI_clamp, zI_div, zI_rem, zin_t, zgd_t, znz_t, if_pos, if_neg, if_true, if_false, Option.bind_some]; rfl
            · simp (disch := omega) only [fM_X11_key, c2, e, h18, c3, t3, ↓zN_eq, zL0, zL1, zL2, zL3, zL4, zL5, zL6, zL7, zL8, zL10, zL16, zL31, zL42, zL63, zL64, zL100, zL200, zL255, zL256, zL1000, zL12345, zL536870912, zI_le, zI_lt, zI_eq, zI_add, zI_sub, zI_mul, zI_neN, zI_Nne, zI_leN, zI_ltN, zI_Nle, zI_Nlt, zI_pred, zI_clamp, zI_div, zI_rem, zin_t, zgd_t, znz_t, if_pos, if_neg, if_true, if_false, Option.bind_some]; rfl
            · simp (disch := omega) only [fM_X11_key, c2, e, h18, c3, g2, ↓zN_eq, zL0, zL1, zL2, zL3, zL4, zL5, zL6, zL7, zL8, zL10, zL16, zL31, zL42, zL63, zL64, zL100, zL200, zL255, zL256, zL1000, zL12345, zL536870912, zI_le, zI_lt, zI_eq, zI_add, zI_sub, zI_mul, zI_neN, zI_Nne, zI_leN, zI_ltN, zI_Nle, zI_Nlt, zI_pred, zI_clamp, zI_div, zI_rem, zin_t, zgd_t, znz_t, if_pos, if_neg, if_true, if_false, Option.bind_some]; rfl
        · refine ⟨zN, S', ?_, ?_, mk _ hM'⟩
          · simp (disch := omega) only [fX_X10_key, c1, h20, ↓zN_eq, zL0, zL1, zL2, zL3, zL4, zL5, zL6, zL7, zL8, zL10, zL16, zL31, zL42, zL63, zL64, zL100, zL200, zL255, zL256, zL1000, zL12345, zL536870912, zI_le, zI_lt, zI_eq, zI_add, zI_sub, zI_mul, zI_neN, zI_Nne, zI_leN, zI_ltN, zI_Nle, zI_Nlt, zI_pred, zI_clamp, zI_div, zI_rem, zin_t, zgd_t, znz_t, if_pos, if_neg, if_true, if_false, Option.bind_some]
          · by_cases u : zaN (zA kd ky N) = 0
            · have c3 := pM_in_N (S := S') hi
              have h18' : S'.1 18 - nI 1 = zN := by rw [h18, u]; exact zN_0
              simp (disch := omega) only [fM_X11_key, c2, e, h18', c3, ↓zN_eq, zL0, zL1, zL2, zL3, zL4, zL5, zL6, zL7, zL8, zL10, zL16, zL31, zL42, zL63, zL64, zL100, zL200, zL255, zL256, zL1000, zL12345, zL536870912, zI_le, zI_lt, zI_eq, zI_add, zI_sub, zI_mul, zI_neN, zI_Nne, zI_leN, zI_ltN, zI_Nle, zI_Nlt, zI_pred, zI_clamp, zI_div, zI_rem, zin_t, zgd_t, znz_t, if_pos, if_neg, if_true, if_false, Option.bind_some]
            · have c3 := pM_in_f (S := S') (lo := 0) (hi := zaN (zA kd ky N) - 1) hi (by omega) (by omega) (by omega)
              simp (disch := omega) only [fM_X11_key, c2, e, h18, c3, ↓zN_eq, zL0, zL1, zL2, zL3, zL4, zL5, zL6, zL7, zL8, zL10, zL16, zL31, zL42, zL63, zL64, zL100, zL200, zL255, zL256, zL1000, zL12345, zL536870912, zI_le, zI_lt, zI_eq, zI_add, zI_sub, zI_mul, zI_neN, zI_Nne, zI_leN, zI_ltN, zI_Nle, zI_Nlt, zI_pred, zI_clamp, zI_div, zI_rem, zin_t, zgd_t, znz_t, if_pos, if_neg, if_true, if_false, Option.bind_some]
    · have c1 := pX_isShelf_f (S := SX) (show 6 ≤ j by omega) hj
      have c2 := pM_isShelf_f (S := zsI SM 7 (nI 0)) (show 6 ≤ j by omega) hj
      refine ⟨zN, zsI SM 7 (nI 0), ?_, ?_, mk _ hM7⟩
      · simp (disch := omega) only [fX_X10_key, c1, ↓zN_eq, zL0, zL1, zL2, zL3, zL4, zL5, zL6, zL7, zL8, zL10, zL16, zL31, zL42, zL63, zL64, zL100, zL200, zL255, zL256, zL1000, zL12345, zL536870912, zI_le, zI_lt, zI_eq, zI_add, zI_sub, zI_mul, zI_neN, zI_Nne, zI_leN, zI_ltN, zI_Nle, zI_Nlt, zI_pred, zI_clamp, zI_div, zI_rem, zin_t, zgd_t, znz_t, if_pos, if_neg, if_true, if_false, Option.bind_some]
      · simp (disch := omega) only [fM_X11_key, c2, ↓zN_eq, zL0, zL1, zL2, zL3, zL4, zL5, zL6, zL7, zL8, zL10, zL16, zL31, zL42, zL63, zL64, zL100, zL200, zL255, zL256, zL1000, zL12345, zL536870912, zI_le, zI_lt, zI_eq, zI_add, zI_sub, zI_mul, zI_neN, zI_Nne, zI_leN, zI_ltN, zI_Nle, zI_Nlt, zI_pred, zI_clamp, zI_div, zI_rem, zin_t, zgd_t, znz_t, if_pos, if_neg, if_true, if_false, Option.bind_some]
/-! law, set -/
theorem zXI_cg {S S' : zSt} {kd ky : Nat → Nat} {N : Nat} (h : zXI S kd ky N) (h0 : S'.1 0 = S.1 0) (hi : ∀ k, 11 < k → S'.1 k = S.1 k) (hr : ∀ k, k ≠ 32 → k ≠ 22 → k ≠ 23 → k ≠ 24 → k ≠ 25 → k ≠ 26 → k ≠ 27 → S'.2 k = S.2 k) : zXI S' kd ky N := by
  obtain ⟨a1, a2, a3, a4, a5, a6, a7, a8⟩ := h
  refine ⟨h0.trans a1, a2, ?_, ?_, a5, ?_, ?_, fun j hj => zSh_fo hj (a8 j hj) hi (fun k _ _ _ _ q5 q6 q7 q8 q9 q10 q11 => hr k q5 q6 q7 q8 q9 q10 q11) (fun _ _ => ⟨rfl, rfl⟩)⟩
  · rw [hr 28 (by decide) (by decide) (by decide) (by decide) (by decide) (by decide) (by decide)]; exact a3
  · rw [hr 29 (by decide) (by decide) (by decide) (by decide) (by decide) (by decide) (by decide)]; exact a4
  · rw [hr 30 (by decide) (by decide) (by decide) (by decide) (by decide) (by decide) (by decide)]; exact a6
  · rw [hr 31 (by decide) (by decide) (by decide) (by decide) (by decide) (by decide) (by decide)]; exact a7
theorem zXI_2 {S : zSt} {kd ky : Nat → Nat} {N k : Nat} {v w : Int32} (h : zXI S kd ky N) (h0 : k ≠ 0) (h1 : k ≤ 11) : zXI (zsI (zsI S k v) 5 w) kd ky N := zXI_cg h (by rw [zsI_1, if_neg (by decide), zsI_1, if_neg (by omega)]) (fun j hj => by rw [zsI_1, if_neg (by omega), zsI_1, if_neg (by omega)]) (fun _ _ _ _ _ _ _ _ => rfl)
theorem zMT_cI {S : zSt} {kd ky : Nat → Nat} {N k : Nat} {v : Int32} (h : zMT S kd ky N) (hk : k = 3 ∨ k = 4 ∨ k = 5 ∨ k = 6 ∨ k = 7) : zMT (zsI S k v) kd ky N := by
  obtain ⟨a1, a2, a3, a4, a5, a6⟩ := h
  have ne : ∀ j, j ≠ k → (zsI S k v).1 j = S.1 j := fun j hj => by rw [zsI_1, if_neg hj]
  refine ⟨(ne 2 (by omega)).trans a1, a2, a3, a4, a5, ?_⟩
  rcases a6 with q | ⟨q1, q2⟩
  · exact Or.inl ((ne 8 (by omega)).trans q)
  · exact Or.inr ⟨(ne 8 (by omega)).trans q1, zMD_cg q2 (fun j hj => ne j (by
      simp only [List.mem_cons, List.not_mem_nil, or_false] at hj
      omega)) (fun _ _ => rfl)⟩
theorem zt_law {SX SM : zSt} (h : zTp SX SM) (x1 : Int32) {b : Nat} (hb0 : b ≤ 1) : ∃ r SX' SM', fX_X10_law x1 (nI b) SX = some (r, SX') ∧ fM_X11_law x1 (nI b) SM = some (r, SM') ∧ zTp SX' SM' := by
  obtain ⟨kd, ky, N, gu, ac, fe, ea, hb, hX, hM⟩ := h
  have hM7 := zMT2_7 (v := nI 0) hM
  obtain ⟨d1, d2, d3, d4, d5, d6⟩ := hX
  obtain ⟨m1, m2, m3, m4, m5⟩ := hM7
  have hz : zbo (nI b) = true := by rcases z01 hb0 with rfl | rfl <;> decide
  have no : ¬ (1 ≤ x1.toInt ∧ x1.toInt ≤ 2) → ∃ r SX' SM', fX_X10_law x1 (nI b) SX = some (r, SX') ∧ fM_X11_law x1 (nI b) SM = some (r, SM') ∧ zTp SX' SM' := fun q => by
    refine ⟨nI 0, SX, zsI SM 7 (nI 0), ?_, ?_, ⟨kd, ky, N, gu, ac, fe, ea, hb, ⟨d1, d2, d3, d4, d5, d6⟩, ⟨m1, m2, m3, m4, m5⟩⟩⟩
    · rcases zcs x1 with w | ⟨a, ha, rfl⟩
      · obtain ⟨n1, n2, n3, n4, n5⟩ := zneg w
        simp (disch := omega) only [fX_X10_law, n3, ↓zN_eq, zL0, zL1, zL2, zL3, zL4, zL5, zL6, zL7, zL8, zL10, zL16, zL31, zL42, zL63, zL64, zL100, zL200, zL255, zL256, zL1000, zL12345, zL536870912, zI_le, zI_lt, zI_eq, zI_add, zI_sub, zI_mul, zI_neN, zI_Nne, zI_leN, zI_ltN, zI_Nle, zI_Nlt, zI_pred, zI_clamp, zI_div, zI_rem, zin_t, zgd_t, znz_t, if_pos, if_neg, if_true, if_false, Option.bind_some]
      · rw [nI_toInt ha] at q
        simp (disch := omega) only [fX_X10_law, ↓zN_eq, zL0, zL1, zL2, zL3, zL4, zL5, zL6, zL7, zL8, zL10, zL16, zL31, zL42, zL63, zL64, zL100, zL200, zL255, zL256, zL1000, zL12345, zL536870912, zI_le, zI_lt, zI_eq, zI_add, zI_sub, zI_mul, zI_neN, zI_Nne, zI_leN, zI_ltN, zI_Nle, zI_Nlt, zI_pred, zI_clamp, zI_div, zI_rem, zin_t, zgd_t, znz_t, if_pos, if_neg, if_true, if_false, Option.bind_some]
    · rcases zcs x1 with w | ⟨a, ha, rfl⟩
      · have c := pM_in_n (S := zsI SM 7 (nI 0)) (hi := nI 2) (lo := 1) w (by omega)
        simp (disch := omega) only [fM_X11_law, c, ↓zN_eq, zL0, zL1, zL2, zL3, zL4, zL5, zL6, zL7, zL8, zL10, zL16, zL31, zL42, zL63, zL64, zL100, zL200, zL255, zL256, zL1000, zL12345, zL536870912, zI_le, zI_lt, zI_eq, zI_add, zI_sub, zI_mul, zI_neN, zI_Nne, zI_leN, zI_ltN, zI_Nle, zI_Nlt, zI_pred, zI_clamp, zI_div, zI_rem, zin_t, zgd_t, znz_t, if_pos, if_neg, if_true, if_false, Option.bind_some]
      · rw [nI_toInt ha] at q
        have c := pM_in_f (S := zsI SM 7 (nI 0)) (lo := 1) (hi := 2) ha (by omega) (by omega) (by omega)
        simp (disch := omega) only [fM_X11_law, c, ↓zN_eq, zL0, zL1, zL2, zL3, zL4, zL5, zL6, zL7, zL8, zL10, zL16, zL31, zL42, zL63, zL64, zL100, zL200, zL255, zL256, zL1000, zL12345, zL536870912, zI_le, zI_lt, zI_eq, zI_add, zI_sub, zI_mul, zI_neN, zI_Nne, zI_leN, zI_ltN, zI_Nle, zI_Nlt, zI_pred, zI_clamp, zI_div, zI_rem, zin_t, zgd_t, znz_t, if_pos, if_neg, if_true, if_false, Option.bind_some]
  by_cases q : 1 ≤ x1.toInt ∧ x1.toInt ≤ 2
  · obtain ⟨a, ha, rfl⟩ := zof (x := x1) (by omega)
    rw [nI_toInt ha] at q
    have q' : a = 1 ∨ a = 2 := by omega
    rcases q' with rfl | rfl
    · refine ⟨nI 1, zsI (zsI SX 1 (nI b)) 5 (nI 0), zsI (zsI SM 7 (nI 0)) 3 (nI b), ?_, ?_, ⟨kd, ky, N, b, ac, fe, ea, ⟨hb0, hb.2⟩, ⟨zXI_2 d1 (by decide) (by decide), rfl, d3, d4, d5, Or.inl rfl⟩, ⟨zMT_cI m1 (by omega), rfl, m3, m4, m5⟩⟩⟩
      · simp (disch := omega) only [fX_X10_law, fX_X10_law_12, fX_X10_law_30, hz, ↓zN_eq, zL0, zL1, zL2, zL3, zL4, zL5, zL6, zL7, zL8, zL10, zL16, zL31, zL42, zL63, zL64, zL100, zL200, zL255, zL256, zL1000, zL12345, zL536870912, zI_le, zI_lt, zI_eq, zI_add, zI_sub, zI_mul, zI_neN, zI_Nne, zI_leN, zI_ltN, zI_Nle, zI_Nlt, zI_pred, zI_clamp, zI_div, zI_rem, zin_t, zgd_t, znz_t, if_pos, if_neg, if_true, if_false, Option.bind_some]
      · have c := pM_in_t (S := zsI SM 7 (nI 0)) (a := 1) (lo := 1) (hi := 2) (by omega) (by omega) (by omega) (by omega)
        simp (disch := omega) only [fM_X11_law, c, hz, ↓zN_eq, zL0, zL1, zL2, zL3, zL4, zL5, zL6, zL7, zL8, zL10, zL16, zL31, zL42, zL63, zL64, zL100, zL200, zL255, zL256, zL1000, zL12345, zL536870912, zI_le, zI_lt, zI_eq, zI_add, zI_sub, zI_mul, zI_neN, zI_Nne, zI_leN, zI_ltN, zI_Nle, zI_Nlt, zI_pred, zI_clamp, zI_div, zI_rem, zin_t, zgd_t, znz_t, if_pos, if_neg, if_true, if_false, Option.bind_some]
    · refine ⟨nI 1, zsI (zsI SX 2 (nI b)) 5 (nI 0), zsI (zsI SM 7 (nI 0)) 4 (nI b), ?_, ?_, ⟨kd, ky, N, gu, b, fe, ea, ⟨hb.1, hb0, hb.2.2⟩, ⟨zXI_2 d1 (by decide) (by decide), d2, rfl, d4, d5, Or.inl rfl⟩, ⟨zMT_cI m1 (by omega), m2, rfl, m4, m5⟩⟩⟩
      · simp (disch := omega) only [fX_X10_law, fX_X10_law_12, fX_X10_law_30, hz, ↓zN_eq, zL0, zL1, zL2, zL3, zL4, zL5, zL6, zL7, zL8, zL10, zL16, zL31, zL42, zL63, zL64, zL100, zL200, zL255, zL256, zL1000, zL12345, zL536870912, zI_le, zI_lt, zI_eq, zI_add, zI_sub, zI_mul, zI_neN, zI_Nne, zI_leN, zI_ltN, zI_Nle, zI_Nlt, zI_pred, zI_clamp, zI_div, zI_rem, zin_t, zgd_t, znz_t, if_pos, if_neg, if_true, if_false, Option.bind_some]
      · have c := pM_in_t (S := zsI SM 7 (nI 0)) (a := 2) (lo := 1) (hi := 2) (by omega) (by omega) (by omega) (by omega)
        simp (disch := omega) only [fM_X11_law, c, hz, ↓zN_eq, zL0, zL1, zL2, zL3, zL4, zL5, zL6, zL7, zL8, zL10, zL16, zL31, zL42, zL63, zL64, zL100, zL200, zL255, zL256, zL1000, zL12345, zL536870912, zI_le, zI_lt, zI_eq, zI_add, zI_sub, zI_mul, zI_neN, zI_Nne, zI_leN, zI_ltN, zI_Nle, zI_Nlt, zI_pred, zI_clamp, zI_div, zI_rem, zin_t, zgd_t, znz_t, if_pos, if_neg, if_true, if_false, Option.bind_some]
  · exact no q
theorem zt_set {SX SM : zSt} (h : zTp SX SM) (x1 x2 : Int32) : ∃ r SX' SM', fX_X10_set x1 x2 SX = some (r, SX') ∧ fM_X11_set x1 x2 SM = some (r, SM') ∧ zTp SX' SM' := by
  have h' := h
  obtain ⟨kd, ky, N, gu, ac, fe, ea, hb, hX, hM⟩ := h'
  have hM7 := zMT2_7 (v := nI 0) hM
  have o3 := hM.2.2.2.1
  have o4 := hM.2.2.2.2
  obtain ⟨d1, d2, d3, d4, d5, d6⟩ := hX
  obtain ⟨m1, m2, m3, m4, m5⟩ := hM7
  have fin : zTp SX (zsI SM 7 (nI 0)) := ⟨kd, ky, N, gu, ac, fe, ea, hb, ⟨d1, d2, d3, d4, d5, d6⟩, ⟨m1, m2, m3, m4, m5⟩⟩
  rcases zcs x1 with w | ⟨a, ha, rfl⟩
  · obtain ⟨n1, n2, n3, n4, n5⟩ := zneg w
    have c := pM_in_n (S := zsI SM 7 (nI 0)) (hi := nI 1) (lo := 0) w (by omega)
    refine ⟨zN, SX, zsI SM 7 (nI 0), ?_, ?_, fin⟩
    · simp (disch := omega) only [fX_X10_set, n5, ↓zN_eq, zL0, zL1, zL2, zL3, zL4, zL5, zL6, zL7, zL8, zL10, zL16, zL31, zL42, zL63, zL64, zL100, zL200, zL255, zL256, zL1000, zL12345, zL536870912, zI_le, zI_lt, zI_eq, zI_add, zI_sub, zI_mul, zI_neN, zI_Nne, zI_leN, zI_ltN, zI_Nle, zI_Nlt, zI_pred, zI_clamp, zI_div, zI_rem, zin_t, zgd_t, znz_t, if_pos, if_neg, if_true, if_false, Option.bind_some]
    · simp (disch := omega) only [fM_X11_set, c, ↓zN_eq, zL0, zL1, zL2, zL3, zL4, zL5, zL6, zL7, zL8, zL10, zL16, zL31, zL42, zL63, zL64, zL100, zL200, zL255, zL256, zL1000, zL12345, zL536870912, zI_le, zI_lt, zI_eq, zI_add, zI_sub, zI_mul, zI_neN, zI_Nne, zI_leN, zI_ltN, zI_Nle, zI_Nlt, zI_pred, zI_clamp, zI_div, zI_rem, zin_t, zgd_t, znz_t, if_pos, if_neg, if_true, if_false, Option.bind_some]
  · by_cases y : a ≤ 1
    · have c := pM_in_t (S := zsI SM 7 (nI 0)) (lo := 0) (hi := 1) ha (by omega) (by omega) y
      rcases zcs x2 with w | ⟨v, hv, rfl⟩
      · obtain ⟨n1, n2, n3, n4, n5⟩ := zneg w
        have c2 := pM_in_n (S := zsI SM 7 (nI 0)) (hi := nI 1000) (lo := 0) w (by omega)
        refine ⟨zN, SX, zsI SM 7 (nI 0), ?_, ?_, fin⟩
        · simp (disch := omega) only [fX_X10_set, n5, ↓zN_eq, zL0, zL1, zL2, zL3, zL4, zL5, zL6, zL7, zL8, zL10, zL16, zL31, zL42, zL63, zL64, zL100, zL200, zL255, zL256, zL1000, zL12345, zL536870912, zI_le, zI_lt, zI_eq, zI_add, zI_sub, zI_mul, zI_neN, zI_Nne, zI_leN, zI_ltN, zI_Nle, zI_Nlt, zI_pred, zI_clamp, zI_div, zI_rem, zin_t, zgd_t, znz_t, if_pos, if_neg, if_true, if_false, Option.bind_some]
        · simp (disch := omega) only [fM_X11_set, c, c2, ↓zN_eq, zL0, zL1, zL2, zL3, zL4, zL5, zL6, zL7, zL8, zL10, zL16, zL31, zL42, zL63, zL64, zL100, zL200, zL255, zL256, zL1000, zL12345, zL536870912, zI_le, zI_lt, zI_eq, zI_add, zI_sub, zI_mul, zI_neN, zI_Nne, zI_leN, zI_ltN, zI_Nle, zI_Nlt, zI_pred, zI_clamp, zI_div, zI_rem, zin_t, zgd_t, znz_t, if_pos, if_neg, if_true, if_false, Option.bind_some]
      · by_cases z : v ≤ 1000
        · have c2 := pM_in_t (S := zsI SM 7 (nI 0)) (lo := 0) (hi := 1000) hv (by omega) (by omega) z
          rcases z01 y with rfl | rfl
          · refine ⟨nI fe, zsI (zsI SX 3 (nI v)) 5 (nI 0), zsI (zsI SM 7 (nI 0)) 5 (nI v), ?_, ?_, ⟨kd, ky, N, gu, ac, v, ea, ⟨hb.1, hb.2.1, z, hb.2.2.2⟩, ⟨zXI_2 d1 (by decide) (by decide), d2, d3, rfl, d5, Or.inl rfl⟩, ⟨zMT_cI m1 (by omega), m2, m3, rfl, m5⟩⟩⟩
            · simp (disch := omega) only [fX_X10_set, fX_X10_set_37, fX_X10_set_55, d4, ↓zN_eq, zL0, zL1, zL2, zL3, zL4, zL5, zL6, zL7, zL8, zL10, zL16, zL31, zL42, zL63, zL64, zL100, zL200, zL255, zL256, zL1000, zL12345, zL536870912, zI_le, zI_lt, zI_eq, zI_add, zI_sub, zI_mul, zI_neN, zI_Nne, zI_leN, zI_ltN, zI_Nle, zI_Nlt, zI_pred, zI_clamp, zI_div, zI_rem, zin_t, zgd_t, znz_t, if_pos, if_neg, if_true, if_false, Option.bind_some]
            · simp (disch := omega) only [fM_X11_set, fM_X11_set_42, c, c2, o3, ↓zN_eq, zL0, zL1, zL2, zL3, zL4, zL5, zL6, zL7, zL8, zL10, zL16, zL31, zL42, zL63, zL64, zL100, zL200, zL255, zL256, zL1000, zL12345, zL536870912, zI_le, zI_lt, zI_eq, zI_add, zI_sub, zI_mul, zI_neN, zI_Nne, zI_leN, zI_ltN, zI_Nle, zI_Nlt, zI_pred, zI_clamp, zI_div, zI_rem, zin_t, zgd_t, znz_t, if_pos, if_neg, if_true, if_false, Option.bind_some]
          · refine ⟨nI ea, zsI (zsI SX 4 (nI v)) 5 (nI 0), zsI (zsI SM 7 (nI 0)) 6 (nI v), ?_, ?_, ⟨kd, ky, N, gu, ac, fe, v, ⟨hb.1, hb.2.1, hb.2.2.1, z⟩, ⟨zXI_2 d1 (by decide) (by decide), d2, d3, d4, rfl, Or.inl rfl⟩, ⟨zMT_cI m1 (by omega), m2, m3, m4, rfl⟩⟩⟩
            · simp (disch := omega) only [fX_X10_set, fX_X10_set_37, fX_X10_set_55, d5, ↓zN_eq, zL0, zL1, zL2, zL3, zL4, zL5, zL6, zL7, zL8, zL10, zL16, zL31, zL42, zL63, zL64, zL100, zL200, zL255, zL256, zL1000, zL12345, zL536870912, zI_le, zI_lt, zI_eq, zI_add, zI_sub, zI_mul, zI_neN, zI_Nne, zI_leN, zI_ltN, zI_Nle, zI_Nlt, zI_pred, zI_clamp, zI_div, zI_rem, zin_t, zgd_t, znz_t, if_pos, if_neg, if_true, if_false, Option.bind_some]
            · simp (disch := omega) only [fM_X11_set, fM_X11_set_42, c, c2, o4, ↓zN_eq, zL0, zL1, zL2, zL3, zL4, zL5, zL6, zL7, zL8, zL10, zL16, zL31, zL42, zL63, zL64, zL100, zL200, zL255, zL256, zL1000, zL12345, zL536870912, zI_le, zI_lt, zI_eq, zI_add, zI_sub, zI_mul, zI_neN, zI_Nne, zI_leN, zI_ltN, zI_Nle, zI_Nlt, zI_pred, zI_clamp, zI_div, zI_rem, zin_t, zgd_t, znz_t, if_pos, if_neg, if_true, if_false, Option.bind_some]
        · have c2 := pM_in_f (S := zsI SM 7 (nI 0)) (lo := 0) (hi := 1000) hv (by omega) (by omega) (by omega)
          refine ⟨zN, SX, zsI SM 7 (nI 0), ?_, ?_, fin⟩
          · simp (disch := omega) only [fX_X10_set, ↓zN_eq, zL0, zL1, zL2, zL3, zL4, zL5, zL6, zL7, zL8, zL10, zL16, zL31, zL42, zL63, zL64, zL100, zL200, zL255, zL256, zL1000, zL12345, zL536870912, zI_le, zI_lt, zI_eq, zI_add, zI_sub, zI_mul, zI_neN, zI_Nne, zI_leN, zI_ltN, zI_Nle, zI_Nlt, zI_pred, zI_clamp, zI_div, zI_rem, zin_t, zgd_t, znz_t, if_pos, if_neg, if_true, if_false, Option.bind_some]
          · simp (disch := omega) only [fM_X11_set, c, c2, ↓zN_eq, zL0, zL1, zL2, zL3, zL4, zL5, zL6, zL7, zL8, zL10, zL16, zL31, zL42, zL63, zL64, zL100, zL200, zL255, zL256, zL1000, zL12345, zL536870912, zI_le, zI_lt, zI_eq, zI_add, zI_sub, zI_mul, zI_neN, zI_Nne, zI_leN, zI_ltN, zI_Nle, zI_Nlt, zI_pred, zI_clamp, zI_div, zI_rem, zin_t, zgd_t, znz_t, if_pos, if_neg, if_true, if_false, Option.bind_some]
    · have c := pM_in_f (S := zsI SM 7 (nI 0)) (lo := 0) (hi := 1) ha (by omega) (by omega) (by omega)
      refine ⟨zN, SX, zsI SM 7 (nI 0), ?_, ?_, fin⟩
      · simp (disch := omega) only [fX_X10_set, ↓zN_eq, zL0, zL1, zL2, zL3, zL4, zL5, zL6, zL7, zL8, zL10, zL16, zL31, zL42, zL63, zL64, zL100, zL200, zL255, zL256, zL1000, zL12345, zL536870912, zI_le, zI_lt, zI_eq, zI_add, zI_sub, zI_mul, zI_neN, zI_Nne, zI_leN, zI_ltN, zI_Nle, zI_Nlt, zI_pred, zI_clamp, zI_div, zI_rem, zin_t, zgd_t, znz_t, if_pos, if_neg, if_true, if_false, Option.bind_some]
      · simp (disch := omega) only [fM_X11_set, c, ↓zN_eq, zL0, zL1, zL2, zL3, zL4, zL5, zL6, zL7, zL8, zL10, zL16, zL31, zL42, zL63, zL64, zL100, zL200, zL255, zL256, zL1000, zL12345, zL536870912, zI_le, zI_lt, zI_eq, zI_add, zI_sub, zI_mul, zI_neN, zI_Nne, zI_leN, zI_ltN, zI_Nle, zI_Nlt, zI_pred, zI_clamp, zI_div, zI_rem, zin_t, zgd_t, znz_t, if_pos, if_neg, if_true, if_false, Option.bind_some]

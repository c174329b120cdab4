/-! ROW: what a call does -/
def zfd (g : Nat → Nat) (n k : Nat) : Prop := zpl g k n 0 < n
def zcap (kd n c : Nat) : Nat := if kd = 0 then (if n = c then c * 2 else c) else c
def znx (kd : Nat) (b : Prop) [Decidable b] (n : Nat) : Nat := if kd = 0 then n + 1 else if kd = 2 then (if b then n - 1 else n) else n
def zgr (n c : Nat) : Nat := if n = c then n else 0
def zrwG (kd ky n : Nat) (g : Nat → Nat) : Nat → Nat := if kd = 0 then zins g n ky else if kd = 2 then (if zpl g ky n 0 < n then zdel g (zpl g ky n 0) else g) else g
def zrwC (kd ky n c : Nat) (g : Nat → Nat) : Nat := if kd = 0 then zgr n c + 1 else if kd = 1 then (if zpl g ky n 0 < n then zpl g ky n 0 + 1 else n) else if kd = 6 then 1 else n
theorem z8 {k : Nat} (h : k < 8) : k = 0 ∨ k = 1 ∨ k = 2 ∨ k = 3 ∨ k = 4 ∨ k = 5 ∨ k = 6 ∨ k = 7 := by omega
theorem zfr_i {S S' : zSt} {is rs : List Nat} (h : zfr S S' is rs) {k : Nat} (hk : k ∉ is) : S'.1 k = S.1 k := h.1 k hk
theorem zfr_r {S S' : zSt} {is rs : List Nat} (h : zfr S S' is rs) {k : Nat} (hk : k ∉ rs) : S'.2 k = S.2 k := h.2 k hk
theorem pX_Row_step {S : zSt} {n c kd ky : Nat} {g : Nat → Nat} (hz : S.1 20 = nI n) (hw : S.1 19 = nI c) (hn : n ≤ 200) (hc : c < 1000) (hr : zRp (S.2 33) n g) (hg : zK64 g n) (hd : kd < 8) (hk : ky < 64) (h0 : kd = 0 → n < 200) :
    ∃ S', fX_X6_step (nI kd) (nI ky) S = some (nI (zrwC kd ky n c g), S') ∧ S'.1 20 = nI (znx kd (zpl g ky n 0 < n) n) ∧ S'.1 19 = nI (zcap kd n c) ∧ zRp (S'.2 33) (znx kd (zpl g ky n 0 < n) n) (zrwG kd ky n g) ∧ zfr S S' [20, 19] [33] := by
  have hp := pX_placeOf_Row hz hn hr hg hk
  have hle := (zpl_le g ky n 0).2
  rcases z8 hd with rfl | rfl | rfl | rfl | rfl | rfl | rfl | rfl
  · obtain ⟨S1, e1, a1, b1⟩ := pX_grow_Row hz hw hn hc
    have h3 : S1.1 20 = nI n := (zfr_i b1 (by decide)).trans hz
    have h4 : zRp (S1.2 33) n g := by rw [zfr_r b1 (by decide)]; exact hr
    obtain ⟨S2, e2, a2, b2, c2⟩ := pX_insert_Row (k := ky) h3 (h0 rfl) h4 (Nat.le_refl n)
    refine ⟨S2, ?_, a2, ?_, b2, ?_⟩
    · simp (disch := omega) only [fX_X6_step, fX_X4_append_Row, e1, Option.bind_some, h3, e2, zrwC, zgr, ↓zN_eq, zL0, zL1, zL2, zL3, zL4, zL5, zL6, zL7, zL8, zL10, zL16, zL31, zL42, zL63, zL64, zL100, zL200, zL255, zL256, zL1000, zL12345, zL536870912, zI_le, zI_lt, zI_eq, zI_add, zI_sub, zI_mul, zI_neN, zI_Nne, zI_leN, zI_ltN, zI_Nle, zI_Nlt, zI_pred, zI_clamp, zI_div, zI_rem, zin_t, zgd_t, znz_t, if_pos, if_neg, if_true, if_false, Option.bind_some]
    · rw [zfr_i c2 (by decide), a1]; rfl
    · exact zfr_tr (zfr_mono b1 (by decide) (by decide)) (zfr_mono c2 (by decide) (by decide))
  · refine ⟨S, ?_, hz, hw, hr, zfr_rf⟩
    by_cases h : zpl g ky n 0 < n
    · rw [if_pos h] at hp
      simp (disch := omega) only [fX_X6_step, fX_X4_stepsTo_Row, hp, Option.bind_some, zrwC, ↓zN_eq, zL0, zL1, zL2, zL3, zL4, zL5, zL6, zL7, zL8, zL10, zL16, zL31, zL42, zL63, zL64, zL100, zL200, zL255, zL256, zL1000, zL12345, zL536870912, zI_le, zI_lt, zI_eq, zI_add, zI_sub, zI_mul, zI_neN, zI_Nne, zI_leN, zI_ltN, zI_Nle, zI_Nlt, zI_pred, zI_clamp, zI_div, zI_rem, zin_t, zgd_t, znz_t, if_pos, if_neg, if_true, if_false, Option.bind_some]
    · rw [if_neg h] at hp
      simp (disch := omega) only [fX_X6_step, fX_X4_stepsTo_Row, hp, Option.bind_some, zrwC, hz, ↓zN_eq, zL0, zL1, zL2, zL3, zL4, zL5, zL6, zL7, zL8, zL10, zL16, zL31, zL42, zL63, zL64, zL100, zL200, zL255, zL256, zL1000, zL12345, zL536870912, zI_le, zI_lt, zI_eq, zI_add, zI_sub, zI_mul, zI_neN, zI_Nne, zI_leN, zI_ltN, zI_Nle, zI_Nlt, zI_pred, zI_clamp, zI_div, zI_rem, zin_t, zgd_t, znz_t, if_pos, if_neg, if_true, if_false, Option.bind_some]
  · by_cases h : zpl g ky n 0 < n
    · rw [if_pos h] at hp
      obtain ⟨S1, e1, a1, b1, c1⟩ := pX_remove_Row hz hn hr h
      refine ⟨S1, ?_, ?_, ?_, ?_, zfr_mono c1 (by decide) (by decide)⟩
      · simp (disch := omega) only [fX_X6_step, fX_X6_strike, fX_X4_stepsTo_Row, hp, Option.bind_some, zrwC, e1, a1, ↓zN_eq, zL0, zL1, zL2, zL3, zL4, zL5, zL6, zL7, zL8, zL10, zL16, zL31, zL42, zL63, zL64, zL100, zL200, zL255, zL256, zL1000, zL12345, zL536870912, zI_le, zI_lt, zI_eq, zI_add, zI_sub, zI_mul, zI_neN, zI_Nne, zI_leN, zI_ltN, zI_Nle, zI_Nlt, zI_pred, zI_clamp, zI_div, zI_rem, zin_t, zgd_t, znz_t, if_pos, if_neg, if_true, if_false, Option.bind_some]
        congr 3; omega
      · simp (disch := omega) only [znx, a1, if_pos, if_neg, if_true, if_false]
      · rw [zfr_i c1 (by decide), hw]; rfl
      · simp (disch := omega) only [znx, zrwG, if_pos, if_neg, if_true, if_false]; exact b1
    · rw [if_neg h] at hp
      refine ⟨S, ?_, ?_, hw, ?_, zfr_rf⟩
      · simp (disch := omega) only [fX_X6_step, fX_X6_strike, fX_X4_stepsTo_Row, hp, Option.bind_some, zrwC, hz, ↓zN_eq, zL0, zL1, zL2, zL3, zL4, zL5, zL6, zL7, zL8, zL10, zL16, zL31, zL42, zL63, zL64, zL100, zL200, zL255, zL256, zL1000, zL12345, zL536870912, zI_le, zI_lt, zI_eq, zI_add, zI_sub, zI_mul, zI_neN, zI_Nne, zI_leN, zI_ltN, zI_Nle, zI_Nlt, zI_pred, zI_clamp, zI_div, zI_rem, zin_t, zgd_t, znz_t, if_pos, if_neg, if_true, if_false, Option.bind_some]
      · simp (disch := omega) only [znx, hz, if_pos, if_neg, if_true, if_false]
      · simp (disch := omega) only [znx, zrwG, if_pos, if_neg, if_true, if_false]; exact hr
  all_goals
    refine ⟨S, ?_, hz, hw, hr, zfr_rf⟩
    simp (disch := omega) only [fX_X6_step, zrwC, hz, ↓zN_eq, zL0, zL1, zL2, zL3, zL4, zL5, zL6, zL7, zL8, zL10, zL16, zL31, zL42, zL63, zL64, zL100, zL200, zL255, zL256, zL1000, zL12345, zL536870912, zI_le, zI_lt, zI_eq, zI_add, zI_sub, zI_mul, zI_neN, zI_Nne, zI_leN, zI_ltN, zI_Nle, zI_Nlt, zI_pred, zI_clamp, zI_div, zI_rem, zin_t, zgd_t, znz_t, if_pos, if_neg, if_true, if_false, Option.bind_some]
/-! the reference's row -/
theorem pM_placeIn_row_2 {S : zSt} {n k : Nat} {g : Nat → Nat} (hn : n ≤ 200) (hr : zRp (S.2 14) n g) (hg : zK64 g n) (hk : k < 64) : ∀ r i m, r < m → i + r = n → fM_X11_placeIn_row_2 m (nI n) (nI k) (nI i) S = some (if zpl g k r i < n then nI (zpl g k r i) else zN) := by
  intro r
  induction r with
  | zero =>
    intro i m hm hi
    obtain ⟨m, rfl⟩ : ∃ m', m = m' + 1 := ⟨m - 1, by omega⟩
    rw [show zpl g k 0 i = i from rfl, if_neg (show ¬ i < n by omega)]
    simp (disch := omega) only [fM_X11_placeIn_row_2, ↓zN_eq, zL0, zL1, zL2, zL3, zL4, zL5, zL6, zL7, zL8, zL10, zL16, zL31, zL42, zL63, zL64, zL100, zL200, zL255, zL256, zL1000, zL12345, zL536870912, zI_le, zI_lt, zI_eq, zI_add, zI_sub, zI_mul, zI_neN, zI_Nne, zI_leN, zI_ltN, zI_Nle, zI_Nlt, zI_pred, zI_clamp, zI_div, zI_rem, zin_t, zgd_t, znz_t, if_pos, if_neg, if_true, if_false, Option.bind_some]
  | succ r ih =>
    intro i m hm hi
    obtain ⟨m, rfl⟩ : ∃ m', m = m' + 1 := ⟨m - 1, by omega⟩
    have h1 := hg i (by omega)
    have hr' : ∀ j, j < n → S.2 14 j = nI (g j) := hr
    simp (disch := omega) only [fM_X11_placeIn_row_2, zpl, hr', ↓zN_eq, zL0, zL1, zL2, zL3, zL4, zL5, zL6, zL7, zL8, zL10, zL16, zL31, zL42, zL63, zL64, zL100, zL200, zL255, zL256, zL1000, zL12345, zL536870912, zI_le, zI_lt, zI_eq, zI_add, zI_sub, zI_mul, zI_neN, zI_Nne, zI_leN, zI_ltN, zI_Nle, zI_Nlt, zI_pred, zI_clamp, zI_div, zI_rem, zin_t, zgd_t, znz_t, if_pos, if_neg, if_true, if_false, Option.bind_some]
    by_cases h : g i = k
    · simp (disch := omega) only [↓zN_eq, zL0, zL1, zL2, zL3, zL4, zL5, zL6, zL7, zL8, zL10, zL16, zL31, zL42, zL63, zL64, zL100, zL200, zL255, zL256, zL1000, zL12345, zL536870912, zI_le, zI_lt, zI_eq, zI_add, zI_sub, zI_mul, zI_neN, zI_Nne, zI_leN, zI_ltN, zI_Nle, zI_Nlt, zI_pred, zI_clamp, zI_div, zI_rem, zin_t, zgd_t, znz_t, if_pos, if_neg, if_true, if_false, Option.bind_some]
    · simp (disch := omega) only [↓zN_eq, zL0, zL1, zL2, zL3, zL4, zL5, zL6, zL7, zL8, zL10, zL16, zL31, zL42, zL63, zL64, zL100, zL200, zL255, zL256, zL1000, zL12345, zL536870912, zI_le, zI_lt, zI_eq, zI_add, zI_sub, zI_mul, zI_neN, zI_Nne, zI_leN, zI_ltN, zI_Nle, zI_Nlt, zI_pred, zI_clamp, zI_div, zI_rem, zin_t, zgd_t, znz_t, if_pos, if_neg, if_true, if_false, Option.bind_some]
      exact ih (i + 1) m (by omega) (by omega)
theorem pM_placeIn_row {S : zSt} {n k : Nat} {g : Nat → Nat} (hn : n ≤ 200) (hr : zRp (S.2 14) n g) (hg : zK64 g n) (hk : k < 64) : fM_X11_placeIn_row (nI n) (nI k) S = some (if zpl g k n 0 < n then nI (zpl g k n 0) else zN) := by
  unfold fM_X11_placeIn_row
  exact pM_placeIn_row_2 hn hr hg hk n 0 1000 (by omega) (by omega)
theorem pM_find_row {S : zSt} {n k : Nat} {g : Nat → Nat} (hz : S.1 18 = nI n) (hn : n ≤ 200) (hr : zRp (S.2 14) n g) (hg : zK64 g n) (hk : k < 64) : fM_X11_find_row (nI k) S = some (nI (if zpl g k n 0 < n then zpl g k n 0 + 1 else n)) := by
  have hp := pM_placeIn_row hn hr hg hk
  have hle := (zpl_le g k n 0).2
  by_cases h : zpl g k n 0 < n
  · rw [if_pos h] at hp ⊢
    simp (disch := omega) only [fM_X11_find_row, hz, hp, Option.bind_some, ↓zN_eq, zL0, zL1, zL2, zL3, zL4, zL5, zL6, zL7, zL8, zL10, zL16, zL31, zL42, zL63, zL64, zL100, zL200, zL255, zL256, zL1000, zL12345, zL536870912, zI_le, zI_lt, zI_eq, zI_add, zI_sub, zI_mul, zI_neN, zI_Nne, zI_leN, zI_ltN, zI_Nle, zI_Nlt, zI_pred, zI_clamp, zI_div, zI_rem, zin_t, zgd_t, znz_t, if_pos, if_neg, if_true, if_false, Option.bind_some]
  · rw [if_neg h] at hp ⊢
    simp (disch := omega) only [fM_X11_find_row, hz, hp, Option.bind_some, ↓zN_eq, zL0, zL1, zL2, zL3, zL4, zL5, zL6, zL7, zL8, zL10, zL16, zL31, zL42, zL63, zL64, zL100, zL200, zL255, zL256, zL1000, zL12345, zL536870912, zI_le, zI_lt, zI_eq, zI_add, zI_sub, zI_mul, zI_neN, zI_Nne, zI_leN, zI_ltN, zI_Nle, zI_Nlt, zI_pred, zI_clamp, zI_div, zI_rem, zin_t, zgd_t, znz_t, if_pos, if_neg, if_true, if_false, Option.bind_some]

theorem pM_placeIn_heap_2 {S : zSt} {n k : Nat} {g : Nat → Nat} (hn : n ≤ 200) (hr : zRp (S.2 16) n g) (hg : zK64 g n) (hk : k < 64) : ∀ r i m, r < m → i + r = n → fM_X11_placeIn_heap_2 m (nI n) (nI k) (nI i) S = some (if zpl g k r i < n then nI (zpl g k r i) else zN) := by
  intro r
  induction r with
  | zero =>
    intro i m hm hi
    obtain ⟨m, rfl⟩ : ∃ m', m = m' + 1 := ⟨m - 1, by omega⟩
    rw [show zpl g k 0 i = i from rfl, if_neg (show ¬ i < n by omega)]
    simp (disch := omega) only [fM_X11_placeIn_heap_2, ↓zN_eq, zL0, zL1, zL2, zL3, zL4, zL5, zL6, zL7, zL8, zL10, zL16, zL31, zL42, zL63, zL64, zL100, zL200, zL255, zL256, zL1000, zL12345, zL536870912, zI_le, zI_lt, zI_eq, zI_add, zI_sub, zI_mul, zI_neN, zI_Nne, zI_leN, zI_ltN, zI_Nle, zI_Nlt, zI_pred, zI_clamp, zI_div, zI_rem, zin_t, zgd_t, znz_t, if_pos, if_neg, if_true, if_false, Option.bind_some]
  | succ r ih =>
    intro i m hm hi
    obtain ⟨m, rfl⟩ : ∃ m', m = m' + 1 := ⟨m - 1, by omega⟩
    have h1 := hg i (by omega)
    have hr' : ∀ j, j < n → S.2 16 j = nI (g j) := hr
    simp (disch := omega) only [fM_X11_placeIn_heap_2, zpl, hr', ↓zN_eq, zL0, zL1, zL2, zL3, zL4, zL5, zL6, zL7, zL8, zL10, zL16, zL31, zL42, zL63, zL64, zL100, zL200, zL255, zL256, zL1000, zL12345, zL536870912, zI_le, zI_lt, zI_eq, zI_add, zI_sub, zI_mul, zI_neN, zI_Nne, zI_leN, zI_ltN, zI_Nle, zI_Nlt, zI_pred, zI_clamp, zI_div, zI_rem, zin_t, zgd_t, znz_t, if_pos, if_neg, if_true, if_false, Option.bind_some]
    by_cases h : g i = k
    · simp (disch := omega) only [↓zN_eq, zL0, zL1, zL2, zL3, zL4, zL5, zL6, zL7, zL8, zL10, zL16, zL31, zL42, zL63, zL64, zL100, zL200, zL255, zL256, zL1000, zL12345, zL536870912, zI_le, zI_lt, zI_eq, zI_add, zI_sub, zI_mul, zI_neN, zI_Nne, zI_leN, zI_ltN, zI_Nle, zI_Nlt, zI_pred, zI_clamp, zI_div, zI_rem, zin_t, zgd_t, znz_t, if_pos, if_neg, if_true, if_false, Option.bind_some]
    · simp (disch := omega) only [↓zN_eq, zL0, zL1, zL2, zL3, zL4, zL5, zL6, zL7, zL8, zL10, zL16, zL31, zL42, zL63, zL64, zL100, zL200, zL255, zL256, zL1000, zL12345, zL536870912, zI_le, zI_lt, zI_eq, zI_add, zI_sub, zI_mul, zI_neN, zI_Nne, zI_leN, zI_ltN, zI_Nle, zI_Nlt, zI_pred, zI_clamp, zI_div, zI_rem, zin_t, zgd_t, znz_t, if_pos, if_neg, if_true, if_false, Option.bind_some]
      exact ih (i + 1) m (by omega) (by omega)
theorem pM_placeIn_heap {S : zSt} {n k : Nat} {g : Nat → Nat} (hn : n ≤ 200) (hr : zRp (S.2 16) n g) (hg : zK64 g n) (hk : k < 64) : fM_X11_placeIn_heap (nI n) (nI k) S = some (if zpl g k n 0 < n then nI (zpl g k n 0) else zN) := by
  unfold fM_X11_placeIn_heap
  exact pM_placeIn_heap_2 hn hr hg hk n 0 1000 (by omega) (by omega)
theorem pM_find_heap {S : zSt} {n k : Nat} {g : Nat → Nat} (hz : S.1 18 = nI n) (hn : n ≤ 200) (hr : zRp (S.2 16) n g) (hg : zK64 g n) (hk : k < 64) : fM_X11_find_heap (nI k) S = some (nI (if zpl g k n 0 < n then zpl g k n 0 + 1 else n)) := by
  have hp := pM_placeIn_heap hn hr hg hk
  have hle := (zpl_le g k n 0).2
  by_cases h : zpl g k n 0 < n
  · rw [if_pos h] at hp ⊢
    simp (disch := omega) only [fM_X11_find_heap, hz, hp, Option.bind_some, ↓zN_eq, zL0, zL1, zL2, zL3, zL4, zL5, zL6, zL7, zL8, zL10, zL16, zL31, zL42, zL63, zL64, zL100, zL200, zL255, zL256, zL1000, zL12345, zL536870912, zI_le, zI_lt, zI_eq, zI_add, zI_sub, zI_mul, zI_neN, zI_Nne, zI_leN, zI_ltN, zI_Nle, zI_Nlt, zI_pred, zI_clamp, zI_div, zI_rem, zin_t, zgd_t, znz_t, if_pos, if_neg, if_true, if_false, Option.bind_some]
  · rw [if_neg h] at hp ⊢
    simp (disch := omega) only [fM_X11_find_heap, hz, hp, Option.bind_some, ↓zN_eq, zL0, zL1, zL2, zL3, zL4, zL5, zL6, zL7, zL8, zL10, zL16, zL31, zL42, zL63, zL64, zL100, zL200, zL255, zL256, zL1000, zL12345, zL536870912, zI_le, zI_lt, zI_eq, zI_add, zI_sub, zI_mul, zI_neN, zI_Nne, zI_leN, zI_ltN, zI_Nle, zI_Nlt, zI_pred, zI_clamp, zI_div, zI_rem, zin_t, zgd_t, znz_t, if_pos, if_neg, if_true, if_false, Option.bind_some]

theorem pM_takeOut_row_2 {n : Nat} (hn : n ≤ 200) (h1 : 0 < n) : ∀ r i m S, r < m → i + r + 1 = n → ∃ S', fM_X11_takeOut_row_2 m (nI n) (nI i) S = some S' ∧ (∀ j, j < n - 1 → S'.2 14 j = if i ≤ j then S.2 14 (j + 1) else S.2 14 j) ∧ zfr S S' [] [14] := by
  intro r
  induction r with
  | zero =>
    intro i m S hm hi
    obtain ⟨m, rfl⟩ : ∃ m', m = m' + 1 := ⟨m - 1, by omega⟩
    refine ⟨S, ?_, ?_, zfr_rf⟩
    · simp (disch := omega) only [fM_X11_takeOut_row_2, ↓zN_eq, zL0, zL1, zL2, zL3, zL4, zL5, zL6, zL7, zL8, zL10, zL16, zL31, zL42, zL63, zL64, zL100, zL200, zL255, zL256, zL1000, zL12345, zL536870912, zI_le, zI_lt, zI_eq, zI_add, zI_sub, zI_mul, zI_neN, zI_Nne, zI_leN, zI_ltN, zI_Nle, zI_Nlt, zI_pred, zI_clamp, zI_div, zI_rem, zin_t, zgd_t, znz_t, if_pos, if_neg, if_true, if_false, Option.bind_some]
    · intro j hj; rw [if_neg (by omega)]
  | succ r ih =>
    intro i m S hm hi
    obtain ⟨m, rfl⟩ : ∃ m', m = m' + 1 := ⟨m - 1, by omega⟩
    obtain ⟨S', e, a, b⟩ := ih (i + 1) m (zsR S 14 i (S.2 14 (i + 1))) (by omega) (by omega)
    refine ⟨S', ?_, ?_, zfr_tr (S' := zsR S 14 i (S.2 14 (i + 1))) ⟨fun _ _ => rfl, fun k hk => ?_⟩ b⟩
    · simp (disch := omega) only [fM_X11_takeOut_row_2, ↓zN_eq, zL0, zL1, zL2, zL3, zL4, zL5, zL6, zL7, zL8, zL10, zL16, zL31, zL42, zL63, zL64, zL100, zL200, zL255, zL256, zL1000, zL12345, zL536870912, zI_le, zI_lt, zI_eq, zI_add, zI_sub, zI_mul, zI_neN, zI_Nne, zI_leN, zI_ltN, zI_Nle, zI_Nlt, zI_pred, zI_clamp, zI_div, zI_rem, zin_t, zgd_t, znz_t, if_pos, if_neg, if_true, if_false, Option.bind_some]
      exact e
    · intro j hj
      rw [a j hj]
      show (if i + 1 ≤ j then upd (S.2 14) i _ (j + 1) else upd (S.2 14) i _ j) = _
      by_cases h2 : i + 1 ≤ j
      · rw [if_pos h2, if_pos (by omega), pk_un (by omega)]
      · rw [if_neg h2]
        by_cases h3 : j = i
        · rw [h3, pk_us, if_pos (by omega)]
        · rw [pk_un h3, if_neg (by omega)]
    · show (if k = 14 then _ else S.2 k) = _; rw [if_neg (fun e => hk (by rw [e]; exact List.mem_cons_self))]
theorem pM_takeOut_row {S : zSt} {n p : Nat} {g : Nat → Nat} (hn : n ≤ 200) (hp : p < n) (hr : zRp (S.2 14) n g) : ∃ S', fM_X11_takeOut_row (nI n) (nI p) S = some S' ∧ zRp (S'.2 14) (n - 1) (zdel g p) ∧ zfr S S' [] [14] := by
  obtain ⟨S', e, a, b⟩ := pM_takeOut_row_2 hn (by omega) (n - 1 - p) p 1000 S (by omega) (by omega)
  refine ⟨S', by unfold fM_X11_takeOut_row; exact e, ?_, b⟩
  intro j hj
  rw [a j hj]
  unfold zdel
  by_cases h : j < p
  · rw [if_pos h, if_neg (by omega)]; exact hr j (by omega)
  · rw [if_neg h, if_pos (by omega)]; exact hr (j + 1) (by omega)

theorem pM_takeOut_sorted_2 {n : Nat} (hn : n ≤ 200) (h1 : 0 < n) : ∀ r i m S, r < m → i + r + 1 = n → ∃ S', fM_X11_takeOut_sorted_2 m (nI n) (nI i) S = some S' ∧ (∀ j, j < n - 1 → S'.2 15 j = if i ≤ j then S.2 15 (j + 1) else S.2 15 j) ∧ zfr S S' [] [15] := by
  intro r
  induction r with
  | zero =>
    intro i m S hm hi
    obtain ⟨m, rfl⟩ : ∃ m', m = m' + 1 := ⟨m - 1, by omega⟩
    refine ⟨S, ?_, ?_, zfr_rf⟩
    · simp (disch := omega) only [fM_X11_takeOut_sorted_2, ↓zN_eq, zL0, zL1, zL2, zL3, zL4, zL5, zL6, zL7, zL8, zL10, zL16, zL31, zL42, zL63, zL64, zL100, zL200, zL255, zL256, zL1000, zL12345, zL536870912, zI_le, zI_lt, zI_eq, zI_add, zI_sub, zI_mul, zI_neN, zI_Nne, zI_leN, zI_ltN, zI_Nle, zI_Nlt, zI_pred, zI_clamp, zI_div, zI_rem, zin_t, zgd_t, znz_t, if_pos, if_neg, if_true, if_false, Option.bind_some]
    · intro j hj; rw [if_neg (by omega)]
  | succ r ih =>
    intro i m S hm hi
    obtain ⟨m, rfl⟩ : ∃ m', m = m' + 1 := ⟨m - 1, by omega⟩
    obtain ⟨S', e, a, b⟩ := ih (i + 1) m (zsR S 15 i (S.2 15 (i + 1))) (by omega) (by omega)
    refine ⟨S', ?_, ?_, zfr_tr (S' := zsR S 15 i (S.2 15 (i + 1))) ⟨fun _ _ => rfl, fun k hk => ?_⟩ b⟩
    · simp (disch := omega) only [fM_X11_takeOut_sorted_2, ↓zN_eq, zL0, zL1, zL2, zL3, zL4, zL5, zL6, zL7, zL8, zL10, zL16, zL31, zL42, zL63, zL64, zL100, zL200, zL255, zL256, zL1000, zL12345, zL536870912, zI_le, zI_lt, zI_eq, zI_add, zI_sub, zI_mul, zI_neN, zI_Nne, zI_leN, zI_ltN, zI_Nle, zI_Nlt, zI_pred, zI_clamp, zI_div, zI_rem, zin_t, zgd_t, znz_t, if_pos, if_neg, if_true, if_false, Option.bind_some]
      exact e
    · intro j hj
      rw [a j hj]
      show (if i + 1 ≤ j then upd (S.2 15) i _ (j + 1) else upd (S.2 15) i _ j) = _
      by_cases h2 : i + 1 ≤ j
      · rw [if_pos h2, if_pos (by omega), pk_un (by omega)]
      · rw [if_neg h2]
        by_cases h3 : j = i
        · rw [h3, pk_us, if_pos (by omega)]
        · rw [pk_un h3, if_neg (by omega)]
    · show (if k = 15 then _ else S.2 k) = _; rw [if_neg (fun e => hk (by rw [e]; exact List.mem_cons_self))]
theorem pM_takeOut_sorted {S : zSt} {n p : Nat} {g : Nat → Nat} (hn : n ≤ 200) (hp : p < n) (hr : zRp (S.2 15) n g) : ∃ S', fM_X11_takeOut_sorted (nI n) (nI p) S = some S' ∧ zRp (S'.2 15) (n - 1) (zdel g p) ∧ zfr S S' [] [15] := by
  obtain ⟨S', e, a, b⟩ := pM_takeOut_sorted_2 hn (by omega) (n - 1 - p) p 1000 S (by omega) (by omega)
  refine ⟨S', by unfold fM_X11_takeOut_sorted; exact e, ?_, b⟩
  intro j hj
  rw [a j hj]
  unfold zdel
  by_cases h : j < p
  · rw [if_pos h, if_neg (by omega)]; exact hr j (by omega)
  · rw [if_neg h, if_pos (by omega)]; exact hr (j + 1) (by omega)

theorem pM_takeOut_hashKey_2 {n : Nat} (hn : n ≤ 200) (h1 : 0 < n) : ∀ r i m S, r < m → i + r + 1 = n → ∃ S', fM_X11_takeOut_hashKey_2 m (nI n) (nI i) S = some S' ∧ (∀ j, j < n - 1 → S'.2 19 j = if i ≤ j then S.2 19 (j + 1) else S.2 19 j) ∧ zfr S S' [] [19] := by
  intro r
  induction r with
  | zero =>
    intro i m S hm hi
    obtain ⟨m, rfl⟩ : ∃ m', m = m' + 1 := ⟨m - 1, by omega⟩
    refine ⟨S, ?_, ?_, zfr_rf⟩
    · simp (disch := omega) only [fM_X11_takeOut_hashKey_2, ↓zN_eq, zL0, zL1, zL2, zL3, zL4, zL5, zL6, zL7, zL8, zL10, zL16, zL31, zL42, zL63, zL64, zL100, zL200, zL255, zL256, zL1000, zL12345, zL536870912, zI_le, zI_lt, zI_eq, zI_add, zI_sub, zI_mul, zI_neN, zI_Nne, zI_leN, zI_ltN, zI_Nle, zI_Nlt, zI_pred, zI_clamp, zI_div, zI_rem, zin_t, zgd_t, znz_t, if_pos, if_neg, if_true, if_false, Option.bind_some]
    · intro j hj; rw [if_neg (by omega)]
  | succ r ih =>
    intro i m S hm hi
    obtain ⟨m, rfl⟩ : ∃ m', m = m' + 1 := ⟨m - 1, by omega⟩
    obtain ⟨S', e, a, b⟩ := ih (i + 1) m (zsR S 19 i (S.2 19 (i + 1))) (by omega) (by omega)
    refine ⟨S', ?_, ?_, zfr_tr (S' := zsR S 19 i (S.2 19 (i + 1))) ⟨fun _ _ => rfl, fun k hk => ?_⟩ b⟩
    · simp (disch := omega) only [fM_X11_takeOut_hashKey_2, ↓zN_eq, zL0, zL1, zL2, zL3, zL4, zL5, zL6, zL7, zL8, zL10, zL16, zL31, zL42, zL63, zL64, zL100, zL200, zL255, zL256, zL1000, zL12345, zL536870912, zI_le, zI_lt, zI_eq, zI_add, zI_sub, zI_mul, zI_neN, zI_Nne, zI_leN, zI_ltN, zI_Nle, zI_Nlt, zI_pred, zI_clamp, zI_div, zI_rem, zin_t, zgd_t, znz_t, if_pos, if_neg, if_true, if_false, Option.bind_some]
      exact e
    · intro j hj
      rw [a j hj]
      show (if i + 1 ≤ j then upd (S.2 19) i _ (j + 1) else upd (S.2 19) i _ j) = _
      by_cases h2 : i + 1 ≤ j
      · rw [if_pos h2, if_pos (by omega), pk_un (by omega)]
      · rw [if_neg h2]
        by_cases h3 : j = i
        · rw [h3, pk_us, if_pos (by omega)]
        · rw [pk_un h3, if_neg (by omega)]
    · show (if k = 19 then _ else S.2 k) = _; rw [if_neg (fun e => hk (by rw [e]; exact List.mem_cons_self))]
theorem pM_takeOut_hashKey {S : zSt} {n p : Nat} {g : Nat → Nat} (hn : n ≤ 200) (hp : p < n) (hr : zRp (S.2 19) n g) : ∃ S', fM_X11_takeOut_hashKey (nI n) (nI p) S = some S' ∧ zRp (S'.2 19) (n - 1) (zdel g p) ∧ zfr S S' [] [19] := by
  obtain ⟨S', e, a, b⟩ := pM_takeOut_hashKey_2 hn (by omega) (n - 1 - p) p 1000 S (by omega) (by omega)
  refine ⟨S', by unfold fM_X11_takeOut_hashKey; exact e, ?_, b⟩
  intro j hj
  rw [a j hj]
  unfold zdel
  by_cases h : j < p
  · rw [if_pos h, if_neg (by omega)]; exact hr j (by omega)
  · rw [if_neg h, if_pos (by omega)]; exact hr (j + 1) (by omega)

theorem pM_takeOut_hashStamp_2 {n : Nat} (hn : n ≤ 200) (h1 : 0 < n) : ∀ r i m S, r < m → i + r + 1 = n → ∃ S', fM_X11_takeOut_hashStamp_2 m (nI n) (nI i) S = some S' ∧ (∀ j, j < n - 1 → S'.2 20 j = if i ≤ j then S.2 20 (j + 1) else S.2 20 j) ∧ zfr S S' [] [20] := by
  intro r
  induction r with
  | zero =>
    intro i m S hm hi
    obtain ⟨m, rfl⟩ : ∃ m', m = m' + 1 := ⟨m - 1, by omega⟩
    refine ⟨S, ?_, ?_, zfr_rf⟩
    · simp (disch := omega) only [fM_X11_takeOut_hashStamp_2, ↓zN_eq, zL0, zL1, zL2, zL3, zL4, zL5, zL6, zL7, zL8, zL10, zL16, zL31, zL42, zL63, zL64, zL100, zL200, zL255, zL256, zL1000, zL12345, zL536870912, zI_le, zI_lt, zI_eq, zI_add, zI_sub, zI_mul, zI_neN, zI_Nne, zI_leN, zI_ltN, zI_Nle, zI_Nlt, zI_pred, zI_clamp, zI_div, zI_rem, zin_t, zgd_t, znz_t, if_pos, if_neg, if_true, if_false, Option.bind_some]
    · intro j hj; rw [if_neg (by omega)]
  | succ r ih =>
    intro i m S hm hi
    obtain ⟨m, rfl⟩ : ∃ m', m = m' + 1 := ⟨m - 1, by omega⟩
    obtain ⟨S', e, a, b⟩ := ih (i + 1) m (zsR S 20 i (S.2 20 (i + 1))) (by omega) (by omega)
    refine ⟨S', ?_, ?_, zfr_tr (S' := zsR S 20 i (S.2 20 (i + 1))) ⟨fun _ _ => rfl, fun k hk => ?_⟩ b⟩
    · simp (disch := omega) only [fM_X11_takeOut_hashStamp_2, ↓zN_eq, zL0, zL1, zL2, zL3, zL4, zL5, zL6, zL7, zL8, zL10, zL16, zL31, zL42, zL63, zL64, zL100, zL200, zL255, zL256, zL1000, zL12345, zL536870912, zI_le, zI_lt, zI_eq, zI_add, zI_sub, zI_mul, zI_neN, zI_Nne, zI_leN, zI_ltN, zI_Nle, zI_Nlt, zI_pred, zI_clamp, zI_div, zI_rem, zin_t, zgd_t, znz_t, if_pos, if_neg, if_true, if_false, Option.bind_some]
      exact e
    · intro j hj
      rw [a j hj]
      show (if i + 1 ≤ j then upd (S.2 20) i _ (j + 1) else upd (S.2 20) i _ j) = _
      by_cases h2 : i + 1 ≤ j
      · rw [if_pos h2, if_pos (by omega), pk_un (by omega)]
      · rw [if_neg h2]
        by_cases h3 : j = i
        · rw [h3, pk_us, if_pos (by omega)]
        · rw [pk_un h3, if_neg (by omega)]
    · show (if k = 20 then _ else S.2 k) = _; rw [if_neg (fun e => hk (by rw [e]; exact List.mem_cons_self))]
theorem pM_takeOut_hashStamp {S : zSt} {n p : Nat} {g : Nat → Nat} (hn : n ≤ 200) (hp : p < n) (hr : zRp (S.2 20) n g) : ∃ S', fM_X11_takeOut_hashStamp (nI n) (nI p) S = some S' ∧ zRp (S'.2 20) (n - 1) (zdel g p) ∧ zfr S S' [] [20] := by
  obtain ⟨S', e, a, b⟩ := pM_takeOut_hashStamp_2 hn (by omega) (n - 1 - p) p 1000 S (by omega) (by omega)
  refine ⟨S', by unfold fM_X11_takeOut_hashStamp; exact e, ?_, b⟩
  intro j hj
  rw [a j hj]
  unfold zdel
  by_cases h : j < p
  · rw [if_pos h, if_neg (by omega)]; exact hr j (by omega)
  · rw [if_neg h, if_pos (by omega)]; exact hr (j + 1) (by omega)

theorem pM_grow {S : zSt} {n c s : Nat} (hz : S.1 18 = nI n) (hw : S.2 17 s = nI c) (hs : s < 6) (hn : n ≤ 200) (hnc : n ≤ c) (hc : c < 1000) : ∃ S', fM_X11_grow (nI s) S = some (nI (zgr n c), S') ∧ S'.2 17 s = nI (if n = c then c * 2 else c) ∧ (∀ j, j ≠ s → S'.2 17 j = S.2 17 j) ∧ zfr S S' [] [17] := by
  by_cases h : n = c
  · refine ⟨zsR S 17 s (nI (c * 2)), ?_, ?_, ?_, fun _ _ => rfl, ?_⟩
    · simp (disch := omega) only [fM_X11_grow, hz, hw, zgr, ↓zN_eq, zL0, zL1, zL2, zL3, zL4, zL5, zL6, zL7, zL8, zL10, zL16, zL31, zL42, zL63, zL64, zL100, zL200, zL255, zL256, zL1000, zL12345, zL536870912, zI_le, zI_lt, zI_eq, zI_add, zI_sub, zI_mul, zI_neN, zI_Nne, zI_leN, zI_ltN, zI_Nle, zI_Nlt, zI_pred, zI_clamp, zI_div, zI_rem, zin_t, zgd_t, znz_t, if_pos, if_neg, if_true, if_false, Option.bind_some]
    · rw [if_pos h]; exact pk_us
    · intro j hj; exact pk_un hj
    · intro k hk; show (if k = 17 then _ else S.2 k) = _; rw [if_neg (fun e => hk (by rw [e]; exact List.mem_cons_self))]
  · refine ⟨S, ?_, ?_, fun _ _ => rfl, zfr_rf⟩
    · simp (disch := omega) only [fM_X11_grow, hz, hw, zgr, ↓zN_eq, zL0, zL1, zL2, zL3, zL4, zL5, zL6, zL7, zL8, zL10, zL16, zL31, zL42, zL63, zL64, zL100, zL200, zL255, zL256, zL1000, zL12345, zL536870912, zI_le, zI_lt, zI_eq, zI_add, zI_sub, zI_mul, zI_neN, zI_Nne, zI_leN, zI_ltN, zI_Nle, zI_Nlt, zI_pred, zI_clamp, zI_div, zI_rem, zin_t, zgd_t, znz_t, if_pos, if_neg, if_true, if_false, Option.bind_some]
    · rw [if_neg h, hw]
theorem pM_onRow {S : zSt} {n c kd ky : Nat} {g : Nat → Nat} (hz : S.1 18 = nI n) (hw : S.2 17 0 = nI c) (hn : n ≤ 200) (hnc : n ≤ c) (hc : c < 1000) (hr : zRp (S.2 14) n g) (hg : zK64 g n) (hd : kd < 8) (hk : ky < 64) (h0 : kd = 0 → n < 200) :
    ∃ S', fM_X11_onRow (nI kd) (nI ky) S = some (nI (zrwC kd ky n c g), S') ∧ S'.2 17 0 = nI (zcap kd n c) ∧ (∀ j, j ≠ 0 → S'.2 17 j = S.2 17 j) ∧ zRp (S'.2 14) (znx kd (zpl g ky n 0 < n) n) (zrwG kd ky n g) ∧ zfr S S' [] [14, 17] := by
  have hp := pM_placeIn_row hn hr hg hk
  have hle := (zpl_le g ky n 0).2
  rcases z8 hd with rfl | rfl | rfl | rfl | rfl | rfl | rfl | rfl
  · obtain ⟨S1, e1, a1, b1, c1⟩ := pM_grow hz hw (by omega) hn hnc hc
    have h3 : S1.1 18 = nI n := (zfr_i c1 (by decide)).trans hz
    have h4 : zRp (S1.2 14) n g := by rw [zfr_r c1 (by decide)]; exact hr
    have h5 := h0 rfl
    refine ⟨zsR S1 14 n (nI ky), ?_, a1, b1, ?_, ?_⟩
    · simp (disch := omega) only [fM_X11_onRow, hz, hp, Option.bind_some, zrwC, ↓zN_eq, zL0, zL1, zL2, zL3, zL4, zL5, zL6, zL7, zL8, zL10, zL16, zL31, zL42, zL63, zL64, zL100, zL200, zL255, zL256, zL1000, zL12345, zL536870912, zI_le, zI_lt, zI_eq, zI_add, zI_sub, zI_mul, zI_neN, zI_Nne, zI_leN, zI_ltN, zI_Nle, zI_Nlt, zI_pred, zI_clamp, zI_div, zI_rem, zin_t, zgd_t, znz_t, if_pos, if_neg, if_true, if_false, Option.bind_some]

      simp (disch := omega) only [e1, Option.bind_some, h3, ↓zN_eq, zL0, zL1, zL2, zL3, zL4, zL5, zL6, zL7, zL8, zL10, zL16, zL31, zL42, zL63, zL64, zL100, zL200, zL255, zL256, zL1000, zL12345, zL536870912, zI_le, zI_lt, zI_eq, zI_add, zI_sub, zI_mul, zI_neN, zI_Nne, zI_leN, zI_ltN, zI_Nle, zI_Nlt, zI_pred, zI_clamp, zI_div, zI_rem, zin_t, zgd_t, znz_t, if_pos, if_neg, if_true, if_false, Option.bind_some]
    · intro j hj
      show upd (S1.2 14) n (nI ky) j = nI (zins g n ky j)
      have hj2 : j < n + 1 := hj
      unfold zins
      by_cases h : j = n
      · subst h; rw [pk_us, if_neg (by omega), if_pos rfl]
      · rw [pk_un h, if_pos (by omega)]; exact h4 j (by omega)
    · refine zfr_tr (zfr_mono c1 (by decide) (by decide)) ⟨fun _ _ => rfl, fun k hk => ?_⟩
      show (if k = 14 then _ else S1.2 k) = _
      rw [if_neg (fun e => hk (by rw [e]; exact List.mem_cons_self))]
  · refine ⟨S, ?_, hw, fun _ _ => rfl, hr, zfr_rf⟩
    have hf := pM_find_row hz hn hr hg hk
    simp (disch := omega) only [fM_X11_onRow, hz, hp, hf, Option.bind_some, zrwC, ↓zN_eq, zL0, zL1, zL2, zL3, zL4, zL5, zL6, zL7, zL8, zL10, zL16, zL31, zL42, zL63, zL64, zL100, zL200, zL255, zL256, zL1000, zL12345, zL536870912, zI_le, zI_lt, zI_eq, zI_add, zI_sub, zI_mul, zI_neN, zI_Nne, zI_leN, zI_ltN, zI_Nle, zI_Nlt, zI_pred, zI_clamp, zI_div, zI_rem, zin_t, zgd_t, znz_t, if_pos, if_neg, if_true, if_false, Option.bind_some]
  · by_cases h : zpl g ky n 0 < n
    · rw [if_pos h] at hp
      obtain ⟨S1, e1, a1, b1⟩ := pM_takeOut_row hn h hr
      have h3 : S1.1 18 = nI n := (zfr_i b1 (by decide)).trans hz
      refine ⟨S1, ?_, ?_, ?_, ?_, zfr_mono b1 (by decide) (by decide)⟩
      · simp (disch := omega) only [fM_X11_onRow, hz, hp, e1, Option.bind_some, zrwC, h3, ↓zN_eq, zL0, zL1, zL2, zL3, zL4, zL5, zL6, zL7, zL8, zL10, zL16, zL31, zL42, zL63, zL64, zL100, zL200, zL255, zL256, zL1000, zL12345, zL536870912, zI_le, zI_lt, zI_eq, zI_add, zI_sub, zI_mul, zI_neN, zI_Nne, zI_leN, zI_ltN, zI_Nle, zI_Nlt, zI_pred, zI_clamp, zI_div, zI_rem, zin_t, zgd_t, znz_t, if_pos, if_neg, if_true, if_false, Option.bind_some]
      · rw [zfr_r b1 (by decide), hw]; rfl
      · intro j _; rw [zfr_r b1 (by decide)]
      · simp (disch := omega) only [znx, zrwG, if_pos, if_neg, if_true, if_false]; exact a1
    · rw [if_neg h] at hp
      refine ⟨S, ?_, hw, fun _ _ => rfl, ?_, zfr_rf⟩
      · simp (disch := omega) only [fM_X11_onRow, hz, hp, Option.bind_some, zrwC, ↓zN_eq, zL0, zL1, zL2, zL3, zL4, zL5, zL6, zL7, zL8, zL10, zL16, zL31, zL42, zL63, zL64, zL100, zL200, zL255, zL256, zL1000, zL12345, zL536870912, zI_le, zI_lt, zI_eq, zI_add, zI_sub, zI_mul, zI_neN, zI_Nne, zI_leN, zI_ltN, zI_Nle, zI_Nlt, zI_pred, zI_clamp, zI_div, zI_rem, zin_t, zgd_t, znz_t, if_pos, if_neg, if_true, if_false, Option.bind_some]
      · simp (disch := omega) only [znx, zrwG, if_pos, if_neg, if_true, if_false]; exact hr
  all_goals
    refine ⟨S, ?_, hw, fun _ _ => rfl, hr, zfr_rf⟩
    simp (disch := omega) only [fM_X11_onRow, zrwC, hz, hp, Option.bind_some, ↓zN_eq, zL0, zL1, zL2, zL3, zL4, zL5, zL6, zL7, zL8, zL10, zL16, zL31, zL42, zL63, zL64, zL100, zL200, zL255, zL256, zL1000, zL12345, zL536870912, zI_le, zI_lt, zI_eq, zI_add, zI_sub, zI_mul, zI_neN, zI_Nne, zI_leN, zI_ltN, zI_Nle, zI_Nlt, zI_pred, zI_clamp, zI_div, zI_rem, zin_t, zgd_t, znz_t, if_pos, if_neg, if_true, if_false, Option.bind_some]

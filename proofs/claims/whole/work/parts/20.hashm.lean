/-! HASH: the reference's methods -/
def zHM (S : zSt) (n B st : Nat) (hk hs : Nat → Nat) : Prop := S.1 18 = nI n ∧ S.1 21 = nI B ∧ S.1 22 = nI st ∧ zRp (S.2 19) n hk ∧ zRp (S.2 20) n hs ∧ zPw B ∧ n ≤ 200 ∧ zK64 hk n ∧ st < 100000 ∧ ∀ t, t < n → hs t ≤ st
abbrev zbC (hk : Nat → Nat) (B c : Nat) : Nat → Bool := fun t => decide (hk t % B = c)
abbrev zbA (hk hs : Nat → Nat) (B c t : Nat) : Nat → Bool := fun j => decide (hk j % B = c) && decide (hs t < hs j)
theorem zct_le (b : Nat → Bool) : ∀ n, zct b n ≤ n := by
  intro n
  induction n with
  | zero => exact Nat.le_refl _
  | succ n ih =>
    rw [show zct b (n + 1) = zct b n + (if b n = true then 1 else 0) from rfl]
    by_cases h : b n = true
    · rw [if_pos h]; omega
    · rw [if_neg h]; omega
theorem pM_length_4 {S : zSt} {n B st c : Nat} {hk hs : Nat → Nat} (h : zHM S n B st hk hs) (hc : c < 1000) : ∀ r i m, r < m → i + r = n → fM_X11_lengthOf_4 m (nI c) (nI (zct (zbC hk B c) i)) (nI i) S = some (nI (zct (zbC hk B c) n)) := by
  obtain ⟨hz, hB, hst, hr1, hr2, hP, hn, hg, hsb, hmx⟩ := h
  have hb := zPw_b hP
  have hr' : ∀ j, j < n → S.2 19 j = nI (hk j) := hr1
  intro r
  induction r with
  | zero =>
    intro i m hm hi
    obtain ⟨m, rfl⟩ : ∃ m', m = m' + 1 := ⟨m - 1, by omega⟩
    have e : i = n := by omega
    subst e
    simp (disch := omega) only [fM_X11_lengthOf_4, hz, ↓zN_eq, zL0, zL1, zL2, zL3, zL4, zL5, zL6, zL7, zL8, zL10, zL16, zL31, zL42, zL63, zL64, zL100, zL200, zL255, zL256, zL1000, zL12345, zL536870912, zI_le, zI_lt, zI_eq, zI_add, zI_sub, zI_mul, zI_neN, zI_Nne, zI_leN, zI_ltN, zI_Nle, zI_Nlt, zI_pred, zI_clamp, zI_div, zI_rem, zin_t, zgd_t, znz_t, if_pos, if_neg, if_true, if_false, Option.bind_some]
  | succ r ih =>
    intro i m hm hi
    obtain ⟨m, rfl⟩ : ∃ m', m = m' + 1 := ⟨m - 1, by omega⟩
    have h1 := hg i (by omega)
    have h3 : hk i % B < B := Nat.mod_lt _ (by omega)
    have ih1 := ih (i + 1) m (by omega) (by omega)
    rw [show zct (zbC hk B c) (i + 1) = zct (zbC hk B c) i + (if decide (hk i % B = c) = true then 1 else 0) from rfl] at ih1
    by_cases h4 : hk i % B = c
    · rw [if_pos (decide_eq_true h4)] at ih1
      simp (disch := omega) only [fM_X11_lengthOf_4, hz, hB, hr', ↓zN_eq, zL0, zL1, zL2, zL3, zL4, zL5, zL6, zL7, zL8, zL10, zL16, zL31, zL42, zL63, zL64, zL100, zL200, zL255, zL256, zL1000, zL12345, zL536870912, zI_le, zI_lt, zI_eq, zI_add, zI_sub, zI_mul, zI_neN, zI_Nne, zI_leN, zI_ltN, zI_Nle, zI_Nlt, zI_pred, zI_clamp, zI_div, zI_rem, zin_t, zgd_t, znz_t, if_pos, if_neg, if_true, if_false, Option.bind_some]
      exact ih1
    · rw [if_neg (fun q => h4 (of_decide_eq_true q))] at ih1
      simp (disch := omega) only [fM_X11_lengthOf_4, hz, hB, hr', ↓zN_eq, zL0, zL1, zL2, zL3, zL4, zL5, zL6, zL7, zL8, zL10, zL16, zL31, zL42, zL63, zL64, zL100, zL200, zL255, zL256, zL1000, zL12345, zL536870912, zI_le, zI_lt, zI_eq, zI_add, zI_sub, zI_mul, zI_neN, zI_Nne, zI_leN, zI_ltN, zI_Nle, zI_Nlt, zI_pred, zI_clamp, zI_div, zI_rem, zin_t, zgd_t, znz_t, if_pos, if_neg, if_true, if_false, Option.bind_some]
      exact ih1
theorem pM_length {S : zSt} {n B st c : Nat} {hk hs : Nat → Nat} (h : zHM S n B st hk hs) (hc : c < 1000) : fM_X11_lengthOf (nI c) S = some (nI (zct (zbC hk B c) n)) := by
  have h1 := pM_length_4 h hc n 0 1000 (by have := h.2.2.2.2.2.2.1; omega) (by omega)
  unfold fM_X11_lengthOf
  rw [zL0]
  exact h1
theorem pM_ahead_62 {S : zSt} {n B st k t : Nat} {hk hs : Nat → Nat} (h : zHM S n B st hk hs) (hkk : k < 64) (ht : t < n) : ∀ r i m, r < m → i + r = n → fM_X11_aheadIn_62 m (nI k) (nI t) (nI (zct (zbA hk hs B (k % B) t) i)) (nI i) S = some (nI (zct (zbA hk hs B (k % B) t) n)) := by
  obtain ⟨hz, hB, hst, hr1, hr2, hP, hn, hg, hsb, hmx⟩ := h
  have hb := zPw_b hP
  have hr' : ∀ j, j < n → S.2 19 j = nI (hk j) := hr1
  have hq' : ∀ j, j < n → S.2 20 j = nI (hs j) := hr2
  have m1 := hmx t ht
  intro r
  induction r with
  | zero =>
    intro i m hm hi
    obtain ⟨m, rfl⟩ : ∃ m', m = m' + 1 := ⟨m - 1, by omega⟩
    have e : i = n := by omega
    subst e
    simp (disch := omega) only [fM_X11_aheadIn_62, hz, ↓zN_eq, zL0, zL1, zL2, zL3, zL4, zL5, zL6, zL7, zL8, zL10, zL16, zL31, zL42, zL63, zL64, zL100, zL200, zL255, zL256, zL1000, zL12345, zL536870912, zI_le, zI_lt, zI_eq, zI_add, zI_sub, zI_mul, zI_neN, zI_Nne, zI_leN, zI_ltN, zI_Nle, zI_Nlt, zI_pred, zI_clamp, zI_div, zI_rem, zin_t, zgd_t, znz_t, if_pos, if_neg, if_true, if_false, Option.bind_some]
  | succ r ih =>
    intro i m hm hi
    obtain ⟨m, rfl⟩ : ∃ m', m = m' + 1 := ⟨m - 1, by omega⟩
    have h1 := hg i (by omega)
    have m2 := hmx i (by omega)
    have h3 : hk i % B < B := Nat.mod_lt _ (by omega)
    have h5 : k % B < B := Nat.mod_lt _ (by omega)
    have ih1 := ih (i + 1) m (by omega) (by omega)
    rw [show zct (zbA hk hs B (k % B) t) (i + 1) = zct (zbA hk hs B (k % B) t) i + (if (decide (hk i % B = k % B) && decide (hs t < hs i)) = true then 1 else 0) from rfl] at ih1
    by_cases h4 : hk i % B = k % B
    · by_cases h6 : hs i ≤ hs t
      · rw [if_neg (by simp [h4]; omega)] at ih1
        simp (disch := omega) only [fM_X11_aheadIn_62, hz, hB, hr', hq', ↓zN_eq, zL0, zL1, zL2, zL3, zL4, zL5, zL6, zL7, zL8, zL10, zL16, zL31, zL42, zL63, zL64, zL100, zL200, zL255, zL256, zL1000, zL12345, zL536870912, zI_le, zI_lt, zI_eq, zI_add, zI_sub, zI_mul, zI_neN, zI_Nne, zI_leN, zI_ltN, zI_Nle, zI_Nlt, zI_pred, zI_clamp, zI_div, zI_rem, zin_t, zgd_t, znz_t, if_pos, if_neg, if_true, if_false, Option.bind_some]
        exact ih1
      · rw [if_pos (by simp [h4]; omega)] at ih1
        simp (disch := omega) only [fM_X11_aheadIn_62, hz, hB, hr', hq', ↓zN_eq, zL0, zL1, zL2, zL3, zL4, zL5, zL6, zL7, zL8, zL10, zL16, zL31, zL42, zL63, zL64, zL100, zL200, zL255, zL256, zL1000, zL12345, zL536870912, zI_le, zI_lt, zI_eq, zI_add, zI_sub, zI_mul, zI_neN, zI_Nne, zI_leN, zI_ltN, zI_Nle, zI_Nlt, zI_pred, zI_clamp, zI_div, zI_rem, zin_t, zgd_t, znz_t, if_pos, if_neg, if_true, if_false, Option.bind_some]
        exact ih1
    · rw [if_neg (by simp [h4])] at ih1
      simp (disch := omega) only [fM_X11_aheadIn_62, hz, hB, hr', ↓zN_eq, zL0, zL1, zL2, zL3, zL4, zL5, zL6, zL7, zL8, zL10, zL16, zL31, zL42, zL63, zL64, zL100, zL200, zL255, zL256, zL1000, zL12345, zL536870912, zI_le, zI_lt, zI_eq, zI_add, zI_sub, zI_mul, zI_neN, zI_Nne, zI_leN, zI_ltN, zI_Nle, zI_Nlt, zI_pred, zI_clamp, zI_div, zI_rem, zin_t, zgd_t, znz_t, if_pos, if_neg, if_true, if_false, Option.bind_some]
      exact ih1
/-- the thing of a key with the greatest stamp: 0, or its place and 1 -/
def zfst (hk hs : Nat → Nat) (k : Nat) : Nat → Nat
  | 0 => 0
  | i + 1 => if hk i = k then (if zfst hk hs k i = 0 then i + 1 else if hs i ≤ hs (zfst hk hs k i - 1) then zfst hk hs k i else i + 1) else zfst hk hs k i
theorem zfst_le (hk hs : Nat → Nat) (k : Nat) : ∀ n, zfst hk hs k n ≤ n := by
  intro n
  induction n with
  | zero => exact Nat.le_refl _
  | succ n ih =>
    unfold zfst
    by_cases a : hk n = k
    · rw [if_pos a]
      by_cases b : zfst hk hs k n = 0
      · rw [if_pos b]; omega
      · rw [if_neg b]
        by_cases c : hs n ≤ hs (zfst hk hs k n - 1)
        · rw [if_pos c]; omega
        · rw [if_neg c]; omega
    · rw [if_neg a]; omega
theorem zfst_p (hk hs : Nat → Nat) (k : Nat) : ∀ n, (zfst hk hs k n = 0 → ∀ t, t < n → hk t ≠ k) ∧ (zfst hk hs k n ≠ 0 → hk (zfst hk hs k n - 1) = k ∧ ∀ t, t < n → hk t = k → hs t ≤ hs (zfst hk hs k n - 1)) := by
  intro n
  induction n with
  | zero => exact ⟨fun _ t ht => absurd ht (by omega), fun h => absurd rfl h⟩
  | succ n ih =>
    unfold zfst
    by_cases a : hk n = k
    · rw [if_pos a]
      by_cases b : zfst hk hs k n = 0
      · rw [if_pos b]
        refine ⟨fun h => absurd h (by omega), fun _ => ⟨a, fun t ht e => ?_⟩⟩
        by_cases c : t = n
        · rw [c]; exact Nat.le_refl _
        · exact absurd e (ih.1 b t (by omega))
      · rw [if_neg b]
        by_cases c : hs n ≤ hs (zfst hk hs k n - 1)
        · rw [if_pos c]
          refine ⟨fun h => absurd h b, fun _ => ⟨(ih.2 b).1, fun t ht e => ?_⟩⟩
          by_cases d : t = n
          · rw [d]; exact c
          · exact (ih.2 b).2 t (by omega) e
        · rw [if_neg c]
          refine ⟨fun h => absurd h (by omega), fun _ => ⟨a, fun t ht e => ?_⟩⟩
          by_cases d : t = n
          · rw [d]; exact Nat.le_refl _
          · have := (ih.2 b).2 t (by omega) e
            show hs t ≤ hs n
            omega
    · rw [if_neg a]
      refine ⟨fun h t ht => ?_, fun h => ⟨(ih.2 h).1, fun t ht e => ?_⟩⟩
      · by_cases d : t = n
        · rw [d]; exact a
        · exact ih.1 h t (by omega)
      · by_cases d : t = n
        · rw [d] at e; exact absurd e a
        · exact (ih.2 h).2 t (by omega) e
theorem pM_ahead_4 {S : zSt} {n B st k : Nat} {hk hs : Nat → Nat} (h : zHM S n B st hk hs) (hkk : k < 64) : ∀ r i m, r < m → i + r = n → fM_X11_aheadIn_4 m (nI k) (if zfst hk hs k i = 0 then zN else nI (zfst hk hs k i - 1)) (nI i) S = some (if zfst hk hs k n = 0 then zN else nI (zct (zbA hk hs B (k % B) (zfst hk hs k n - 1)) n)) := by
  have h62 := fun t (ht : t < n) => pM_ahead_62 (k := k) h hkk ht n 0 1000 (by have := h.2.2.2.2.2.2.1; omega) (by omega)
  obtain ⟨hz, hB, hst, hr1, hr2, hP, hn, hg, hsb, hmx⟩ := h
  have hb := zPw_b hP
  have hr' : ∀ j, j < n → S.2 19 j = nI (hk j) := hr1
  have hq' : ∀ j, j < n → S.2 20 j = nI (hs j) := hr2
  intro r
  induction r with
  | zero =>
    intro i m hm hi
    obtain ⟨m, rfl⟩ : ∃ m', m = m' + 1 := ⟨m - 1, by omega⟩
    have e : i = n := by omega
    subst e
    have hl := zfst_le hk hs k i
    by_cases a : zfst hk hs k i = 0
    · rw [if_pos a, if_pos a]
      simp (disch := omega) only [fM_X11_aheadIn_4, hz, ↓zN_eq, zL0, zL1, zL2, zL3, zL4, zL5, zL6, zL7, zL8, zL10, zL16, zL31, zL42, zL63, zL64, zL100, zL200, zL255, zL256, zL1000, zL12345, zL536870912, zI_le, zI_lt, zI_eq, zI_add, zI_sub, zI_mul, zI_neN, zI_Nne, zI_leN, zI_ltN, zI_Nle, zI_Nlt, zI_pred, zI_clamp, zI_div, zI_rem, zin_t, zgd_t, znz_t, if_pos, if_neg, if_true, if_false, Option.bind_some]
    · rw [if_neg a, if_neg a, ← h62 (zfst hk hs k i - 1) (by omega)]
      rw [show zct (zbA hk hs B (k % B) (zfst hk hs k i - 1)) 0 = 0 from rfl]
      simp (disch := omega) only [fM_X11_aheadIn_4, hz, ↓zN_eq, zL0, zL1, zL2, zL3, zL4, zL5, zL6, zL7, zL8, zL10, zL16, zL31, zL42, zL63, zL64, zL100, zL200, zL255, zL256, zL1000, zL12345, zL536870912, zI_le, zI_lt, zI_eq, zI_add, zI_sub, zI_mul, zI_neN, zI_Nne, zI_leN, zI_ltN, zI_Nle, zI_Nlt, zI_pred, zI_clamp, zI_div, zI_rem, zin_t, zgd_t, znz_t, if_pos, if_neg, if_true, if_false, Option.bind_some]
  | succ r ih =>
    intro i m hm hi
    obtain ⟨m, rfl⟩ : ∃ m', m = m' + 1 := ⟨m - 1, by omega⟩
    have h1 := hg i (by omega)
    have m1 := hmx i (by omega)
    have hl := zfst_le hk hs k i
    have ih1 := ih (i + 1) m (by omega) (by omega)
    rw [show zfst hk hs k (i + 1) = if hk i = k then (if zfst hk hs k i = 0 then i + 1 else if hs i ≤ hs (zfst hk hs k i - 1) then zfst hk hs k i else i + 1) else zfst hk hs k i from rfl] at ih1
    by_cases a : hk i = k
    · rw [if_pos a] at ih1
      by_cases b : zfst hk hs k i = 0
      · rw [if_pos b, if_neg (show ¬ i + 1 = 0 by omega), show i + 1 - 1 = i by omega] at ih1
        rw [if_pos b]
        simp (disch := omega) only [fM_X11_aheadIn_4, fM_X11_aheadIn_42, hz, hr', ↓zN_eq, zL0, zL1, zL2, zL3, zL4, zL5, zL6, zL7, zL8, zL10, zL16, zL31, zL42, zL63, zL64, zL100, zL200, zL255, zL256, zL1000, zL12345, zL536870912, zI_le, zI_lt, zI_eq, zI_add, zI_sub, zI_mul, zI_neN, zI_Nne, zI_leN, zI_ltN, zI_Nle, zI_Nlt, zI_pred, zI_clamp, zI_div, zI_rem, zin_t, zgd_t, znz_t, if_pos, if_neg, if_true, if_false, Option.bind_some]
        exact ih1
      · have m2 := hmx (zfst hk hs k i - 1) (by omega)
        rw [if_neg b] at ih1 ⊢
        by_cases c : hs i ≤ hs (zfst hk hs k i - 1)
        · rw [if_pos c, if_neg b] at ih1
          simp (disch := omega) only [fM_X11_aheadIn_4, fM_X11_aheadIn_42, hz, hr', hq', ↓zN_eq, zL0, zL1, zL2, zL3, zL4, zL5, zL6, zL7, zL8, zL10, zL16, zL31, zL42, zL63, zL64, zL100, zL200, zL255, zL256, zL1000, zL12345, zL536870912, zI_le, zI_lt, zI_eq, zI_add, zI_sub, zI_mul, zI_neN, zI_Nne, zI_leN, zI_ltN, zI_Nle, zI_Nlt, zI_pred, zI_clamp, zI_div, zI_rem, zin_t, zgd_t, znz_t, if_pos, if_neg, if_true, if_false, Option.bind_some]
          exact ih1
        · rw [if_neg c, if_neg (show ¬ i + 1 = 0 by omega), show i + 1 - 1 = i by omega] at ih1
          simp (disch := omega) only [fM_X11_aheadIn_4, fM_X11_aheadIn_42, hz, hr', hq', ↓zN_eq, zL0, zL1, zL2, zL3, zL4, zL5, zL6, zL7, zL8, zL10, zL16, zL31, zL42, zL63, zL64, zL100, zL200, zL255, zL256, zL1000, zL12345, zL536870912, zI_le, zI_lt, zI_eq, zI_add, zI_sub, zI_mul, zI_neN, zI_Nne, zI_leN, zI_ltN, zI_Nle, zI_Nlt, zI_pred, zI_clamp, zI_div, zI_rem, zin_t, zgd_t, znz_t, if_pos, if_neg, if_true, if_false, Option.bind_some]
          exact ih1
    · rw [if_neg a] at ih1
      by_cases b : zfst hk hs k i = 0
      · rw [if_pos b] at ih1 ⊢
        simp (disch := omega) only [fM_X11_aheadIn_4, hz, hr', ↓zN_eq, zL0, zL1, zL2, zL3, zL4, zL5, zL6, zL7, zL8, zL10, zL16, zL31, zL42, zL63, zL64, zL100, zL200, zL255, zL256, zL1000, zL12345, zL536870912, zI_le, zI_lt, zI_eq, zI_add, zI_sub, zI_mul, zI_neN, zI_Nne, zI_leN, zI_ltN, zI_Nle, zI_Nlt, zI_pred, zI_clamp, zI_div, zI_rem, zin_t, zgd_t, znz_t, if_pos, if_neg, if_true, if_false, Option.bind_some]
        exact ih1
      · rw [if_neg b] at ih1 ⊢
        simp (disch := omega) only [fM_X11_aheadIn_4, hz, hr', ↓zN_eq, zL0, zL1, zL2, zL3, zL4, zL5, zL6, zL7, zL8, zL10, zL16, zL31, zL42, zL63, zL64, zL100, zL200, zL255, zL256, zL1000, zL12345, zL536870912, zI_le, zI_lt, zI_eq, zI_add, zI_sub, zI_mul, zI_neN, zI_Nne, zI_leN, zI_ltN, zI_Nle, zI_Nlt, zI_pred, zI_clamp, zI_div, zI_rem, zin_t, zgd_t, znz_t, if_pos, if_neg, if_true, if_false, Option.bind_some]
        exact ih1
theorem zfst_s {hk hs : Nat → Nat} {n B k : Nat} {g s : Nat → Nat} (h : zHR hk hs n B g s) : (zpl g k n 0 < n → zfst hk hs k n = s (zpl g k n 0) + 1) ∧ (¬ zpl g k n 0 < n → zfst hk hs k n = 0) := by
  have hp := zfst_p hk hs k n
  have hl := zfst_le hk hs k n
  constructor
  · intro hq
    have e1 := zpl_at g k n 0 (by omega)
    have e2 := h.1 _ hq
    have hne : zfst hk hs k n ≠ 0 := fun e => hp.1 e _ e2.1 (by rw [e2.2]; exact e1)
    obtain ⟨p1, p2⟩ := hp.2 hne
    obtain ⟨j, hj, e⟩ := h.2.1 (zfst hk hs k n - 1) (show _ < n by omega)
    have gj : g j = k := by rw [← (h.1 j hj).2, e]; exact p1
    have c1 : ¬ j < zpl g k n 0 := fun q => zpl_ne g k n 0 j (by omega) q gj
    have c2 : ¬ zpl g k n 0 < j := fun q => by
      have q1 := h.2.2 _ _ q hj (by rw [e1, gj])
      have q2 := p2 (s (zpl g k n 0)) e2.1 (by rw [e2.2]; exact e1)
      rw [e] at q1
      omega
    have c3 : j = zpl g k n 0 := by omega
    rw [← c3, e]; omega
  · intro hq
    rcases Nat.eq_zero_or_pos (zfst hk hs k n) with q | q
    · exact q
    · obtain ⟨p1, p2⟩ := hp.2 (by omega)
      obtain ⟨j, hj, e⟩ := h.2.1 (zfst hk hs k n - 1) (show _ < n by omega)
      have gj : g j = k := by rw [← (h.1 j hj).2, e]; exact p1
      have := (zpl_le g k n 0).2
      exact absurd gj (zpl_ne g k n 0 j (by omega) (by omega))
theorem pM_aheadIn {S : zSt} {n B st k : Nat} {hk hs g s : Nat → Nat} (h : zHM S n B st hk hs) (hR : zHR hk hs n B g s) (hc : zchn g B n) (hkk : k < 64) : fM_X11_aheadIn (nI k) S = some (if zpl g k n 0 < n then nI (zpl g k n 0 - zHd g B n (k % B)) else zN) := by
  have h1 := pM_ahead_4 h hkk n 0 1000 (by have := h.2.2.2.2.2.2.1; omega) (by omega)
  rw [show zfst hk hs k 0 = 0 from rfl, if_pos rfl] at h1
  unfold fM_X11_aheadIn
  rw [zN_eq, zL0, h1]
  by_cases a : zpl g k n 0 < n
  · rw [if_pos a, (zfst_s hR).1 a, if_neg (by omega), show s (zpl g k n 0) + 1 - 1 = s (zpl g k n 0) by omega]
    have e := zpl_at g k n 0 (by omega)
    have h2 := zHR_ahead hR hc a
    rw [e] at h2
    rw [← h2]
  · rw [if_neg a, (zfst_s hR).2 a, if_pos rfl]
theorem pM_thing_34 {S : zSt} {n B st c p t : Nat} {hk hs : Nat → Nat} (K : Int32 → Int32 → Int32 → Int32 → zSt → Option Int32) (h : zHM S n B st hk hs) (hc : c < 1000) (hp : p < 1000) (ht : t < n) : ∀ r i m, r < m → i + r = n → fM_X11_thingAt_34 K m (nI c) (nI p) (nI n) (nI t) (nI (zct (zbA hk hs B c t) i)) (nI i) S = (if zct (zbA hk hs B c t) n = p then some (nI t) else K (nI c) (nI p) (nI n) (nI (t + 1)) S) := by
  obtain ⟨hz, hB, hst, hr1, hr2, hP, hn, hg, hsb, hmx⟩ := h
  have hb := zPw_b hP
  have hr' : ∀ j, j < n → S.2 19 j = nI (hk j) := hr1
  have hq' : ∀ j, j < n → S.2 20 j = nI (hs j) := hr2
  have m1 := hmx t ht
  intro r
  induction r with
  | zero =>
    intro i m hm hi
    obtain ⟨m, rfl⟩ : ∃ m', m = m' + 1 := ⟨m - 1, by omega⟩
    have e : i = n := by omega
    subst e
    have hle := zct_le (zbA hk hs B c t) i
    by_cases a : zct (zbA hk hs B c t) i = p
    · simp (disch := omega) only [fM_X11_thingAt_34, ↓zN_eq, zL0, zL1, zL2, zL3, zL4, zL5, zL6, zL7, zL8, zL10, zL16, zL31, zL42, zL63, zL64, zL100, zL200, zL255, zL256, zL1000, zL12345, zL536870912, zI_le, zI_lt, zI_eq, zI_add, zI_sub, zI_mul, zI_neN, zI_Nne, zI_leN, zI_ltN, zI_Nle, zI_Nlt, zI_pred, zI_clamp, zI_div, zI_rem, zin_t, zgd_t, znz_t, if_pos, if_neg, if_true, if_false, Option.bind_some]
    · simp (disch := omega) only [fM_X11_thingAt_34, ↓zN_eq, zL0, zL1, zL2, zL3, zL4, zL5, zL6, zL7, zL8, zL10, zL16, zL31, zL42, zL63, zL64, zL100, zL200, zL255, zL256, zL1000, zL12345, zL536870912, zI_le, zI_lt, zI_eq, zI_add, zI_sub, zI_mul, zI_neN, zI_Nne, zI_leN, zI_ltN, zI_Nle, zI_Nlt, zI_pred, zI_clamp, zI_div, zI_rem, zin_t, zgd_t, znz_t, if_pos, if_neg, if_true, if_false, Option.bind_some]
  | succ r ih =>
    intro i m hm hi
    obtain ⟨m, rfl⟩ : ∃ m', m = m' + 1 := ⟨m - 1, by omega⟩
    have h1 := hg i (by omega)
    have m2 := hmx i (by omega)
    have h3 : hk i % B < B := Nat.mod_lt _ (by omega)
    have ih1 := ih (i + 1) m (by omega) (by omega)
    rw [show zct (zbA hk hs B c t) (i + 1) = zct (zbA hk hs B c t) i + (if (decide (hk i % B = c) && decide (hs t < hs i)) = true then 1 else 0) from rfl] at ih1
    by_cases h4 : hk i % B = c
    · by_cases h6 : hs i ≤ hs t
      · rw [if_neg (by simp [h4]; omega)] at ih1
        rw [← ih1]
        simp (disch := omega) only [fM_X11_thingAt_34, hB, hr', hq', Nat.add_zero, ↓zN_eq, zL0, zL1, zL2, zL3, zL4, zL5, zL6, zL7, zL8, zL10, zL16, zL31, zL42, zL63, zL64, zL100, zL200, zL255, zL256, zL1000, zL12345, zL536870912, zI_le, zI_lt, zI_eq, zI_add, zI_sub, zI_mul, zI_neN, zI_Nne, zI_leN, zI_ltN, zI_Nle, zI_Nlt, zI_pred, zI_clamp, zI_div, zI_rem, zin_t, zgd_t, znz_t, if_pos, if_neg, if_true, if_false, Option.bind_some]
      · rw [if_pos (by simp [h4]; omega)] at ih1
        rw [← ih1]
        simp (disch := omega) only [fM_X11_thingAt_34, hB, hr', hq', ↓zN_eq, zL0, zL1, zL2, zL3, zL4, zL5, zL6, zL7, zL8, zL10, zL16, zL31, zL42, zL63, zL64, zL100, zL200, zL255, zL256, zL1000, zL12345, zL536870912, zI_le, zI_lt, zI_eq, zI_add, zI_sub, zI_mul, zI_neN, zI_Nne, zI_leN, zI_ltN, zI_Nle, zI_Nlt, zI_pred, zI_clamp, zI_div, zI_rem, zin_t, zgd_t, znz_t, if_pos, if_neg, if_true, if_false, Option.bind_some]
    · rw [if_neg (by simp [h4])] at ih1
      rw [← ih1]
      simp (disch := omega) only [fM_X11_thingAt_34, hB, hr', Nat.add_zero, ↓zN_eq, zL0, zL1, zL2, zL3, zL4, zL5, zL6, zL7, zL8, zL10, zL16, zL31, zL42, zL63, zL64, zL100, zL200, zL255, zL256, zL1000, zL12345, zL536870912, zI_le, zI_lt, zI_eq, zI_add, zI_sub, zI_mul, zI_neN, zI_Nne, zI_leN, zI_ltN, zI_Nle, zI_Nlt, zI_pred, zI_clamp, zI_div, zI_rem, zin_t, zgd_t, znz_t, if_pos, if_neg, if_true, if_false, Option.bind_some]
theorem pM_thing_3 {S : zSt} {n B st P : Nat} {hk hs g s : Nat → Nat} (h : zHM S n B st hk hs) (hR : zHR hk hs n B g s) (hc : zchn g B n) (hP : P < n) : ∀ r i m, r < m → i + r = s P → fM_X11_thingAt_3 m (nI (g P % B)) (nI (P - zHd g B n (g P % B))) (nI n) (nI i) S = some (nI (s P)) := by
  have h34 := fun K t (ht : t < n) (hcb : g P % B < 1000) => pM_thing_34 (c := g P % B) (p := P - zHd g B n (g P % B)) (t := t) K h hcb (by have := h.2.2.2.2.2.2.1; omega) ht n 0 1000 (by have := h.2.2.2.2.2.2.1; omega) (by omega)
  obtain ⟨hz, hB, hst, hr1, hr2, hPw, hn, hg, hsb, hmx⟩ := h
  have hb := zPw_b hPw
  have hr' : ∀ j, j < n → S.2 19 j = nI (hk j) := hr1
  have hsP := (hR.1 P hP).1
  have hgP : g P % B < B := Nat.mod_lt _ (by omega)
  have hH := zHd_ch (c := g P % B) hc
  have hHP : zHd g B n (g P % B) ≤ P := by
    rcases Nat.lt_or_ge P (zHd g B n (g P % B)) with q | q
    · have := hH.1 P q; omega
    · exact q
  intro r
  induction r with
  | zero =>
    intro i m hm hi
    obtain ⟨m, rfl⟩ : ∃ m', m = m' + 1 := ⟨m - 1, by omega⟩
    have e : i = s P := by omega
    subst e
    have h1 := hg (s P) hsP
    have h2 : hk (s P) = g P := (hR.1 P hP).2
    have h3 := h34 (fM_X11_thingAt_3 m) (s P) hsP (by omega)
    rw [if_pos (zHR_ahead hR hc hP), show zct (zbA hk hs B (g P % B) (s P)) 0 = 0 from rfl] at h3
    rw [h2] at h1
    have h4 : hk (s P) % B = g P % B := by rw [h2]
    rw [← h3]
    simp (disch := omega) only [fM_X11_thingAt_3, hB, hr', h2, ↓zN_eq, zL0, zL1, zL2, zL3, zL4, zL5, zL6, zL7, zL8, zL10, zL16, zL31, zL42, zL63, zL64, zL100, zL200, zL255, zL256, zL1000, zL12345, zL536870912, zI_le, zI_lt, zI_eq, zI_add, zI_sub, zI_mul, zI_neN, zI_Nne, zI_leN, zI_ltN, zI_Nle, zI_Nlt, zI_pred, zI_clamp, zI_div, zI_rem, zin_t, zgd_t, znz_t, if_pos, if_neg, if_true, if_false, Option.bind_some]
  | succ r ih =>
    intro i m hm hi
    obtain ⟨m, rfl⟩ : ∃ m', m = m' + 1 := ⟨m - 1, by omega⟩
    have h1 := hg i (by omega)
    have h3 : hk i % B < B := Nat.mod_lt _ (by omega)
    have ih1 := ih (i + 1) m (by omega) (by omega)
    by_cases a : hk i % B = g P % B
    · obtain ⟨j, hj, e⟩ := hR.2.1 i (show i < n by omega)
      have gj : g j % B = g P % B := by rw [← (hR.1 j hj).2, e]; exact a
      have hcnt := zHR_ahead hR hc hj
      rw [gj, e] at hcnt
      have hne : j ≠ P := fun q => by rw [q] at e; omega
      have hHj : zHd g B n (g P % B) ≤ j := by
        rcases Nat.lt_or_ge j (zHd g B n (g P % B)) with q | q
        · have := hH.1 j q; omega
        · exact q
      have h4 := h34 (fM_X11_thingAt_3 m) i (by omega) (by omega)
      rw [if_neg (by rw [hcnt]; omega), show zct (zbA hk hs B (g P % B) i) 0 = 0 from rfl] at h4
      rw [← ih1, ← h4]
      simp (disch := omega) only [fM_X11_thingAt_3, hB, hr', ↓zN_eq, zL0, zL1, zL2, zL3, zL4, zL5, zL6, zL7, zL8, zL10, zL16, zL31, zL42, zL63, zL64, zL100, zL200, zL255, zL256, zL1000, zL12345, zL536870912, zI_le, zI_lt, zI_eq, zI_add, zI_sub, zI_mul, zI_neN, zI_Nne, zI_leN, zI_ltN, zI_Nle, zI_Nlt, zI_pred, zI_clamp, zI_div, zI_rem, zin_t, zgd_t, znz_t, if_pos, if_neg, if_true, if_false, Option.bind_some]
    · rw [← ih1]
      simp (disch := omega) only [fM_X11_thingAt_3, hB, hr', ↓zN_eq, zL0, zL1, zL2, zL3, zL4, zL5, zL6, zL7, zL8, zL10, zL16, zL31, zL42, zL63, zL64, zL100, zL200, zL255, zL256, zL1000, zL12345, zL536870912, zI_le, zI_lt, zI_eq, zI_add, zI_sub, zI_mul, zI_neN, zI_Nne, zI_leN, zI_ltN, zI_Nle, zI_Nlt, zI_pred, zI_clamp, zI_div, zI_rem, zin_t, zgd_t, znz_t, if_pos, if_neg, if_true, if_false, Option.bind_some]
theorem pM_thingAt {S : zSt} {n B st P : Nat} {hk hs g s : Nat → Nat} (h : zHM S n B st hk hs) (hR : zHR hk hs n B g s) (hc : zchn g B n) (hP : P < n) : fM_X11_thingAt (nI (g P % B)) (nI (P - zHd g B n (g P % B))) (nI n) S = some (nI (s P)) := by
  have h1 := pM_thing_3 h hR hc hP (s P) 0 1000 (by have := (hR.1 P hP).1; have := h.2.2.2.2.2.2.1; omega) (by omega)
  unfold fM_X11_thingAt
  rw [zL0]
  exact h1

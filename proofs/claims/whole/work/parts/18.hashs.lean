/-! HASH: what a call does to the line -/
theorem zchn_ins {g : Nat → Nat} {B n k : Nat} (hs : zchn g B n) : zchn (zins g (zHd g B n (k % B)) k) B (n + 1) := by
  have h1 := zHd_ch (c := k % B) hs
  have h2 := zHd_le g B n (k % B)
  generalize zHd g B n (k % B) = p at h1 h2
  intro i j hij hj
  unfold zins
  by_cases a : i < p
  · rw [if_pos a]
    by_cases b : j < p
    · rw [if_pos b]; exact hs i j hij (by omega)
    · rw [if_neg b]
      by_cases c : j = p
      · rw [if_pos c]; have := h1.1 i a; omega
      · rw [if_neg c]; exact hs i (j - 1) (by omega) (by omega)
  · rw [if_neg a, if_neg (show ¬ j < p by omega)]
    by_cases b : i = p
    · rw [if_pos b]
      by_cases c : j = p
      · rw [if_pos c]; exact Nat.le_refl _
      · rw [if_neg c]; exact h1.2 (j - 1) (by omega) (by omega)
    · rw [if_neg b, if_neg (show ¬ j = p by omega)]
      exact hs (i - 1) (j - 1) (by omega) (by omega)
theorem zchn_del {g : Nat → Nat} {B n p : Nat} (hs : zchn g B n) : zchn (zdel g p) B (n - 1) := by
  intro i j hij hj
  unfold zdel
  by_cases a : i < p
  · rw [if_pos a]
    by_cases b : j < p
    · rw [if_pos b]; exact hs i j hij (by omega)
    · rw [if_neg b]; exact hs i (j + 1) (by omega) (by omega)
  · rw [if_neg a, if_neg (show ¬ j < p by omega)]; exact hs (i + 1) (j + 1) (by omega) (by omega)
theorem zchn_sp {g : Nat → Nat} {B : Nat} : ∀ i, zchn (zsp g B i) B i := by
  intro i
  induction i with
  | zero => intro a b _ h; omega
  | succ i ih => exact zchn_ins ih
def zhaB (kd n B : Nat) : Nat := if kd = 0 then (if n = 2 * B then B * 2 else B) else B
def zha1 (n B : Nat) (g : Nat → Nat) : Nat → Nat := if n = 2 * B then zsp g (B * 2) n else g
def zhaG (kd ky n B : Nat) (g : Nat → Nat) : Nat → Nat := if kd = 0 then zins (zha1 n B g) (zHd (zha1 n B g) (zhaB 0 n B) n (ky % zhaB 0 n B)) ky else if kd = 2 then (if zpl g ky n 0 < n then zdel g (zpl g ky n 0) else g) else g
def zhaC (kd ky n B : Nat) (g : Nat → Nat) : Nat := if kd = 0 then (if n = 2 * B then n else 0) + 1 else if kd = 1 then zhsK ky n B g else if kd = 2 then zhsK ky n B g else if kd = 6 then 0 else if kd = 7 then 1 + zEn g B n (ky % B) - zHd g B n (ky % B) else B + n
theorem zha1_ch {n B : Nat} {g : Nat → Nat} (hs : zchn g B n) : zchn (zha1 n B g) (zhaB 0 n B) n := by
  unfold zha1 zhaB
  rw [if_pos rfl]
  by_cases h : n = 2 * B
  · rw [if_pos h, if_pos h]; exact zchn_sp n
  · rw [if_neg h, if_neg h]; exact hs
theorem zhaB_pw {kd n B : Nat} (hB : zPw B) (hn : n < 200) : zPw (zhaB kd n B) := by
  unfold zhaB
  by_cases h : kd = 0
  · rw [if_pos h]
    by_cases h2 : n = 2 * B
    · rw [if_pos h2]; unfold zPw at hB ⊢; omega
    · rw [if_neg h2]; exact hB
  · rw [if_neg h]; exact hB
theorem zK64_ha1 {n B : Nat} {g : Nat → Nat} (hg : zK64 g n) : zK64 (zha1 n B g) n := by
  unfold zha1
  by_cases h : n = 2 * B
  · rw [if_pos h]; exact zK64_sp hg n (Nat.le_refl n)
  · rw [if_neg h]; exact hg
theorem zhaG_ch {kd ky n B : Nat} {g : Nat → Nat} (hs : zchn g B n) : zchn (zhaG kd ky n B g) (zhaB kd n B) (znx kd (zpl g ky n 0 < n) n) := by
  unfold zhaG znx
  by_cases h0 : kd = 0
  · subst h0
    rw [if_pos rfl, if_pos rfl]
    exact zchn_ins (zha1_ch hs)
  · rw [if_neg h0, if_neg h0]
    have hBe : zhaB kd n B = B := by unfold zhaB; rw [if_neg h0]
    rw [hBe]
    by_cases h2 : kd = 2
    · rw [if_pos h2, if_pos h2]
      by_cases h : zpl g ky n 0 < n
      · rw [if_pos h, if_pos h]; exact zchn_del hs
      · rw [if_neg h, if_neg h]; exact hs
    · rw [if_neg h2, if_neg h2]; exact hs
theorem zhaG_64 {kd ky n B : Nat} {g : Nat → Nat} (hg : zK64 g n) (hk : ky < 64) : zK64 (zhaG kd ky n B g) (znx kd (zpl g ky n 0 < n) n) := by
  unfold zhaG znx
  by_cases h0 : kd = 0
  · rw [if_pos h0, if_pos h0]
    exact zK64_ins (zK64_ha1 hg) (zHd_le _ _ _ _) hk
  · rw [if_neg h0, if_neg h0]
    by_cases h2 : kd = 2
    · rw [if_pos h2, if_pos h2]
      by_cases h : zpl g ky n 0 < n
      · rw [if_pos h, if_pos h]; exact zK64_del hg
      · rw [if_neg h, if_neg h]; exact hg
    · rw [if_neg h2, if_neg h2]; exact hg
theorem zcn_sp {g : Nat → Nat} {B k : Nat} : ∀ i, zcn (zsp g B i) k i = zcn g k i := by
  intro i
  induction i with
  | zero => rfl
  | succ i ih =>
    rw [show zsp g B (i + 1) = zins (zsp g B i) (zHd (zsp g B i) B i (g i % B)) (g i) from rfl, zcn_ins _ _ _ _ _ (zHd_le _ _ _ _), ih]
    rfl
theorem pX_Hash_step {S : zSt} {n B kd ky : Nat} {g : Nat → Nat} (hz : S.1 27 = nI n) (hw : S.1 26 = nI B) (hB : zPw B) (hn : n ≤ 200) (hr : zRp (S.2 35) n g) (hg : zK64 g n) (hs : zchn g B n) (hd : kd < 8) (hk : ky < 64) (h0 : kd = 0 → n < 200) :
    ∃ S', fX_X2_step (nI kd) (nI ky) S = some (nI (zhaC kd ky n B g), S') ∧ S'.1 27 = nI (znx kd (zpl g ky n 0 < n) n) ∧ S'.1 26 = nI (zhaB kd n B) ∧ zRp (S'.2 35) (znx kd (zpl g ky n 0 < n) n) (zhaG kd ky n B g) ∧ zfr S S' [27, 26] [35, 37] := by
  have hb := zPw_b hB
  have hseek := fun (_ : True) => pX_seek hz hw hB hn hr hg hs hk
  have hp := pX_placeOf_Hash hz hn hr hg hk
  have hen := zEn_le g B n (ky % B)
  rcases z8 hd with rfl | rfl | rfl | rfl | rfl | rfl | rfl | rfl
  · have h5 := h0 rfl
    obtain ⟨S1, e1, a1, b1, c1, d1⟩ := pX_spread hz hw hB h5 hr hg
    have hB2 : zPw (zhaB 0 n B) := zhaB_pw hB h5
    obtain ⟨S2, e2, a2, b2, c2⟩ := pX_putAtHead (B := zhaB 0 n B) (g := zha1 n B g) a1 b1 hB2 h5 c1 (zK64_ha1 hg) hk
    refine ⟨S2, ?_, a2, (zfr_i c2 (by decide)).trans b1, b2, zfr_tr d1 (zfr_mono c2 (by decide) (by decide))⟩
    simp (disch := omega) only [fX_X2_step, e1, e2, zhaC, ↓zN_eq, zL0, zL1, zL2, zL3, zL4, zL5, zL6, zL7, zL8, zL10, zL16, zL31, zL42, zL63, zL64, zL100, zL200, zL255, zL256, zL1000, zL12345, zL536870912, zI_le, zI_lt, zI_eq, zI_add, zI_sub, zI_mul, zI_neN, zI_Nne, zI_leN, zI_ltN, zI_Nle, zI_Nlt, zI_pred, zI_clamp, zI_div, zI_rem, zin_t, zgd_t, znz_t, if_pos, if_neg, if_true, if_false, Option.bind_some]
  · refine ⟨S, ?_, hz, hw, hr, zfr_rf⟩
    have h1 := hseek trivial
    simp (disch := omega) only [fX_X2_step, h1, zhaC, ↓zN_eq, zL0, zL1, zL2, zL3, zL4, zL5, zL6, zL7, zL8, zL10, zL16, zL31, zL42, zL63, zL64, zL100, zL200, zL255, zL256, zL1000, zL12345, zL536870912, zI_le, zI_lt, zI_eq, zI_add, zI_sub, zI_mul, zI_neN, zI_Nne, zI_leN, zI_ltN, zI_Nle, zI_Nlt, zI_pred, zI_clamp, zI_div, zI_rem, zin_t, zgd_t, znz_t, if_pos, if_neg, if_true, if_false, Option.bind_some]
  · have h1 := hseek trivial
    by_cases h : zpl g ky n 0 < n
    · rw [if_pos h] at hp
      obtain ⟨S1, e1, a1, b1, c1⟩ := pX_remove_Hash hz hn hr h
      refine ⟨S1, ?_, ?_, (zfr_i c1 (by decide)).trans hw, ?_, zfr_mono c1 (by decide) (by decide)⟩
      · simp (disch := omega) only [fX_X2_step, fX_X2_strike, h1, hp, e1, zhaC, ↓zN_eq, zL0, zL1, zL2, zL3, zL4, zL5, zL6, zL7, zL8, zL10, zL16, zL31, zL42, zL63, zL64, zL100, zL200, zL255, zL256, zL1000, zL12345, zL536870912, zI_le, zI_lt, zI_eq, zI_add, zI_sub, zI_mul, zI_neN, zI_Nne, zI_leN, zI_ltN, zI_Nle, zI_Nlt, zI_pred, zI_clamp, zI_div, zI_rem, zin_t, zgd_t, znz_t, if_pos, if_neg, if_true, if_false, Option.bind_some]
      · unfold znx; rw [if_neg (by decide), if_pos rfl, if_pos h]; exact a1
      · unfold znx zhaG; rw [if_neg (by decide), if_pos rfl, if_pos h, if_neg (by decide), if_pos rfl, if_pos h]; exact b1
    · rw [if_neg h] at hp
      refine ⟨S, ?_, ?_, hw, ?_, zfr_rf⟩
      · have hrm : fX_X4_remove_Hash zN S = some S := by
          unfold fX_X4_remove_Hash
          exact if_pos (by decide)
        simp (disch := omega) only [fX_X2_step, fX_X2_strike, h1, hp, hrm, zhaC, ↓zN_eq, zL0, zL1, zL2, zL3, zL4, zL5, zL6, zL7, zL8, zL10, zL16, zL31, zL42, zL63, zL64, zL100, zL200, zL255, zL256, zL1000, zL12345, zL536870912, zI_le, zI_lt, zI_eq, zI_add, zI_sub, zI_mul, zI_neN, zI_Nne, zI_leN, zI_ltN, zI_Nle, zI_Nlt, zI_pred, zI_clamp, zI_div, zI_rem, zin_t, zgd_t, znz_t, if_pos, if_neg, if_true, if_false, Option.bind_some]
      · unfold znx; rw [if_neg (by decide), if_pos rfl, if_neg h]; exact hz
      · unfold znx zhaG; rw [if_neg (by decide), if_pos rfl, if_neg h, if_neg (by decide), if_pos rfl, if_neg h]; exact hr
  · exact ⟨S, by simp (disch := omega) only [fX_X2_step, zhaC, hz, hw, ↓zN_eq, zL0, zL1, zL2, zL3, zL4, zL5, zL6, zL7, zL8, zL10, zL16, zL31, zL42, zL63, zL64, zL100, zL200, zL255, zL256, zL1000, zL12345, zL536870912, zI_le, zI_lt, zI_eq, zI_add, zI_sub, zI_mul, zI_neN, zI_Nne, zI_leN, zI_ltN, zI_Nle, zI_Nlt, zI_pred, zI_clamp, zI_div, zI_rem, zin_t, zgd_t, znz_t, if_pos, if_neg, if_true, if_false, Option.bind_some], hz, hw, hr, zfr_rf⟩
  · exact ⟨S, by simp (disch := omega) only [fX_X2_step, zhaC, hz, hw, ↓zN_eq, zL0, zL1, zL2, zL3, zL4, zL5, zL6, zL7, zL8, zL10, zL16, zL31, zL42, zL63, zL64, zL100, zL200, zL255, zL256, zL1000, zL12345, zL536870912, zI_le, zI_lt, zI_eq, zI_add, zI_sub, zI_mul, zI_neN, zI_Nne, zI_leN, zI_ltN, zI_Nle, zI_Nlt, zI_pred, zI_clamp, zI_div, zI_rem, zin_t, zgd_t, znz_t, if_pos, if_neg, if_true, if_false, Option.bind_some], hz, hw, hr, zfr_rf⟩
  · exact ⟨S, by simp (disch := omega) only [fX_X2_step, zhaC, hz, hw, ↓zN_eq, zL0, zL1, zL2, zL3, zL4, zL5, zL6, zL7, zL8, zL10, zL16, zL31, zL42, zL63, zL64, zL100, zL200, zL255, zL256, zL1000, zL12345, zL536870912, zI_le, zI_lt, zI_eq, zI_add, zI_sub, zI_mul, zI_neN, zI_Nne, zI_leN, zI_ltN, zI_Nle, zI_Nlt, zI_pred, zI_clamp, zI_div, zI_rem, zin_t, zgd_t, znz_t, if_pos, if_neg, if_true, if_false, Option.bind_some], hz, hw, hr, zfr_rf⟩
  · exact ⟨S, by simp (disch := omega) only [fX_X2_step, zhaC, hz, hw, ↓zN_eq, zL0, zL1, zL2, zL3, zL4, zL5, zL6, zL7, zL8, zL10, zL16, zL31, zL42, zL63, zL64, zL100, zL200, zL255, zL256, zL1000, zL12345, zL536870912, zI_le, zI_lt, zI_eq, zI_add, zI_sub, zI_mul, zI_neN, zI_Nne, zI_leN, zI_ltN, zI_Nle, zI_Nlt, zI_pred, zI_clamp, zI_div, zI_rem, zin_t, zgd_t, znz_t, if_pos, if_neg, if_true, if_false, Option.bind_some], hz, hw, hr, zfr_rf⟩
  · refine ⟨S, ?_, hz, hw, hr, zfr_rf⟩
    have h3 : ky % B < B := Nat.mod_lt _ (by omega)
    have hc := pX_chainOf hw hB hk
    have hh := pX_head (c := ky % B) hz hw hB hn hr hg (by omega)
    have he := pX_head (c := ky % B + 1) hz hw hB hn hr hg (by omega)
    rw [← zEn_Hd hs] at he
    simp (disch := omega) only [fX_X2_step, hc, hh, he, zhaC, ↓zN_eq, zL0, zL1, zL2, zL3, zL4, zL5, zL6, zL7, zL8, zL10, zL16, zL31, zL42, zL63, zL64, zL100, zL200, zL255, zL256, zL1000, zL12345, zL536870912, zI_le, zI_lt, zI_eq, zI_add, zI_sub, zI_mul, zI_neN, zI_Nne, zI_leN, zI_ltN, zI_Nle, zI_Nlt, zI_pred, zI_clamp, zI_div, zI_rem, zin_t, zgd_t, znz_t, if_pos, if_neg, if_true, if_false, Option.bind_some]

/-! answer -/
theorem zt_answer {SX SM : zSt} (h : zTp SX SM) (x1 : Int32) : (∃ SM' i N, x1 = nI i ∧ i < N ∧ N ≤ 200 ∧ SX.1 0 = nI N ∧ fX_X10_isCall x1 SX = some (nI 1) ∧ fM_X11_answer x1 SM = some (SX.2 30 i, SM') ∧ SM'.1 7 = nI 0 ∧ zTp SX SM') ∨ (∃ SM', fX_X10_isCall x1 SX = some (nI 0) ∧ fM_X11_answer x1 SM = some (nI 0, SM') ∧ SM'.1 7 = nI 1 ∧ zTp SX SM') := by
  obtain ⟨kd, ky, N, gu, ac, fe, ea, hb, hX, hM⟩ := h
  have hM7 := zMT2_7 (v := nI 0) hM
  have hN := hX.1.2.1
  have no : fX_X10_isCall x1 SX = some (nI 0) → fM_X11_isCall x1 (zsI SM 7 (nI 0)) = some (nI 0) → ∃ SM', fX_X10_isCall x1 SX = some (nI 0) ∧ fM_X11_answer x1 SM = some (nI 0, SM') ∧ SM'.1 7 = nI 1 ∧ zTp SX SM' := fun e1 e2 => by
    refine ⟨zsI (zsI SM 7 (nI 0)) 7 (nI 1), e1, ?_, rfl, ⟨kd, ky, N, gu, ac, fe, ea, hb, hX, zMT2_7 hM7⟩⟩
    simp (disch := omega) only [fM_X11_answer, e2, ↓zN_eq, zL0, zL1, zL2, zL3, zL4, zL5, zL6, zL7, zL8, zL10, zL16, zL31, zL42, zL63, zL64, zL100, zL200, zL255, zL256, zL1000, zL12345, zL536870912, zI_le, zI_lt, zI_eq, zI_add, zI_sub, zI_mul, zI_neN, zI_Nne, zI_leN, zI_ltN, zI_Nle, zI_Nlt, zI_pred, zI_clamp, zI_div, zI_rem, zin_t, zgd_t, znz_t, if_pos, if_neg, if_true, if_false, Option.bind_some]
  rcases zcs x1 with g | ⟨i, hi, rfl⟩
  · exact Or.inr (no (pX_isCall_n g) (pM_isCall_n g))
  · by_cases y : i < N
    · have c2 := pM_isCall_t hM7.1.1 hN y
      obtain ⟨S', f1, f2, f3, f4, f5⟩ := pM_doAll hM7.1
      have v := f4.2.1 i y
      have v2 := hX.1.2.2.2.2.2.1 i y
      refine Or.inl ⟨S', i, N, rfl, y, hN, hX.1.1, pX_isCall_t hX.1.1 hN y, ?_, (f5.1 7 (by decide)).trans rfl, ⟨kd, ky, N, gu, ac, fe, ea, hb, hX, ⟨f3, (f5.1 3 (by decide)).trans hM7.2.1, (f5.1 4 (by decide)).trans hM7.2.2.1, (f5.1 5 (by decide)).trans hM7.2.2.2.1, (f5.1 6 (by decide)).trans hM7.2.2.2.2⟩⟩⟩
      rw [v2, ← v]
      simp (disch := omega) only [fM_X11_answer, c2, f1, ↓zN_eq, zL0, zL1, zL2, zL3, zL4, zL5, zL6, zL7, zL8, zL10, zL16, zL31, zL42, zL63, zL64, zL100, zL200, zL255, zL256, zL1000, zL12345, zL536870912, zI_le, zI_lt, zI_eq, zI_add, zI_sub, zI_mul, zI_neN, zI_Nne, zI_leN, zI_ltN, zI_Nle, zI_Nlt, zI_pred, zI_clamp, zI_div, zI_rem, zin_t, zgd_t, znz_t, if_pos, if_neg, if_true, if_false, Option.bind_some]
    · exact Or.inr (no (pX_isCall_f hX.1.1 hN (show N ≤ i by omega) hi) (pM_isCall_f hM7.1.1 hN (show N ≤ i by omega) hi))

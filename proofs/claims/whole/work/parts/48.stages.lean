/-! stages, stage, count -/
theorem zqM_0 {gu ac : Nat} {hf : Bool} (hgu : gu ≤ 1) (hac : ac ≤ 1) : (zqM gu ac hf = 0) ↔ zan (zqO gu ac hf) 6 = false := by
  rcases z01 hgu with rfl | rfl <;> rcases z01 hac with rfl | rfl <;> cases hf <;> decide
theorem zp1_an {kd ky : Nat → Nat} {N gu ac fe ea : Nat} : zan (zpO kd N gu ac) 6 = true ↔ zp1 kd ky N gu ac fe ea ≠ 6 := zan_1 _ _ 6 (Nat.le_refl 6)
theorem zpT_d {kd ky : Nat → Nat} {N gu ac fe ea : Nat} (hN : N ≤ 200) (hb : ∀ t, t < N → kd t < 8 ∧ ky t < 64) (hfe : fe ≤ 1000) (hea : ea ≤ 1000) (h0 : N ≠ 0) (h1 : zp1 kd ky N gu ac fe ea ≠ 6) : nI (zpT kd ky N gu ac fe ea) / 256 = nI (zpQ kd ky N gu ac fe ea N (zp1 kd ky N gu ac fe ea)).1 ∧ zrem (nI (zpT kd ky N gu ac fe ea)) 256 = nI (zpQ kd ky N gu ac fe ea N (zp1 kd ky N gu ac fe ea)).2 := by
  have h6 : zp1 kd ky N gu ac fe ea < 6 := zpX_lt h1 0
  obtain ⟨b1, b2⟩ := zpQ_b (gu := gu) (ac := ac) hN hb hfe hea N (Nat.le_refl N) _ h6
  have e : zpT kd ky N gu ac fe ea = 256 * (zpQ kd ky N gu ac fe ea N (zp1 kd ky N gu ac fe ea)).1 + (zpQ kd ky N gu ac fe ea N (zp1 kd ky N gu ac fe ea)).2 := by
    unfold zpT
    rw [if_neg (by omega)]; rfl
  rw [e, zL256, zI_div (by omega) (by omega) (by omega), zI_rem (by omega) (by omega) (by omega)]
  refine ⟨congrArg nI (by omega), congrArg nI (by omega)⟩
theorem zpT_0 {kd ky : Nat → Nat} {N gu ac fe ea : Nat} (h : N = 0 ∨ zp1 kd ky N gu ac fe ea = 6) : nI (zpT kd ky N gu ac fe ea) / 256 = nI 0 ∧ zrem (nI (zpT kd ky N gu ac fe ea)) 256 = nI 0 := by
  unfold zpT
  rw [if_pos h]
  exact ⟨by decide, by decide⟩
theorem zMp_2 {SX S' : zSt} {kd ky : Nat → Nat} {N gu ac fe ea : Nat} (hb : gu ≤ 1 ∧ ac ≤ 1 ∧ fe ≤ 1000 ∧ ea ≤ 1000) (hX : zXT SX kd ky N gu ac fe ea) (h : zMp S' kd ky N gu ac fe ea) : zTp SX S' := ⟨kd, ky, N, gu, ac, fe, ea, hb, hX, h.1⟩
theorem zt_stages {SX SM : zSt} (h : zTp SX SM) : ∃ r SX' SM', fX_X10_stages SX = some (r, SX') ∧ fM_X11_stages SM = some (r, SM') ∧ zTp SX' SM' := by
  obtain ⟨kd, ky, N, gu, ac, fe, ea, hb, hX, hM⟩ := h
  have hM7 := zMT2_7 (v := nI 0) hM
  have hN := hX.1.2.1
  have hbk := hX.1.2.2.2.2.1
  obtain ⟨S1, e1, p1, w1⟩ := pM_findStages hb.1 hb.2.1 hb.2.2.1 hb.2.2.2 hM7
  have hO := zXT_off hX hb.1 hb.2.1
  have hZ := zqM_0 (gu := gu) (ac := ac) (hf := zqF kd N 0) hb.1 hb.2.1
  have hA := zp1_an (kd := kd) (ky := ky) (N := N) (gu := gu) (ac := ac) (fe := fe) (ea := ea)
  have hZ' : (zqM gu ac (zqF kd N 0) = 0) ↔ zan (zpO kd N gu ac) 6 = false := hZ
  by_cases q : zan (zpO kd N gu ac) 6 = true
  · have h1 := hA.mp q
    have h6 : zp1 kd ky N gu ac fe ea < 6 := zpX_lt h1 0
    obtain ⟨S2, e2, x2, l2⟩ := pX_plan hb.1 hb.2.1 hb.2.2.1 hb.2.2.2 hX
    have fX : fX_X10_stages SX = some (nI (zpT kd ky N gu ac fe ea) / 256, S2) := by
      unfold fX_X10_stages
      rw [hO, Option.bind_some, if_neg (fun e => by rw [hZ'.mp e] at q; exact absurd q (by decide)), e2, Option.bind_some]
      unfold fX_X5_leastSum
      rw [l2.1]; rfl
    have fM1 : fM_X11_stages SM = if S1.1 2 = 0 then some (0, S1) else (fM_X11_firstShelf S1).bind (fun u5 => zgd (zin u5 1206) (some ((S1.2 26 u5.toNatClampNeg), S1))) := by
      unfold fM_X11_stages
      rw [zL0, e1, Option.bind_some, q, zb1_t]
      rfl
    have h2 := p1.1.1.1
    by_cases w : N = 0
    · refine ⟨nI 0, S2, S1, ?_, ?_, zMp_2 hb x2 p1⟩
      · rw [fX, (zpT_0 (Or.inl w)).1]
      · rw [fM1, if_pos (by rw [h2, w]; rfl)]; rfl
    · have hf := pM_first hb.1 hb.2.1 hb.2.2.1 hb.2.2.2 p1 w1
      rw [ze6_n h1] at hf
      have hl := zpB_lt (zpO kd N gu ac) (fun s => zpW (zpQ kd ky N gu ac fe ea N s)) 6
      have ho : zpO kd N gu ac (zp1 kd ky N gu ac fe ea) = true := by
        rcases hl with u | u
        · exact absurd u h1
        · exact u.2
      have v := (w1 0 (Nat.le_refl 0) (Nat.zero_le N) _ h6 ho).1
      rw [show 6 * 0 + zp1 kd ky N gu ac fe ea = zp1 kd ky N gu ac fe ea by omega] at v
      refine ⟨_, S2, S1, fX, ?_, zMp_2 hb x2 p1⟩
      rw [fM1, if_neg (by rw [h2, zL0, zI_eq (by omega) (by omega)]; exact w), hf, Option.bind_some, zin_t (by omega) (by omega), zgd_t, zI_clamp (by omega), v, (zpT_d hN hbk hb.2.2.1 hb.2.2.2 w h1).1]; rfl
  · have q' := Bool.eq_false_iff.mpr q
    refine ⟨zN, SX, S1, ?_, ?_, zMp_2 hb hX p1⟩
    · unfold fX_X10_stages
      rw [hO, Option.bind_some, if_pos (hZ'.mpr q')]; rfl
    · unfold fM_X11_stages
      rw [zL0, e1, Option.bind_some, q', zb1_f]
      rfl
theorem pM_stage_29 {S : zSt} {kd ky : Nat → Nat} {N gu ac fe ea i : Nat} (hgu : gu ≤ 1) (hac : ac ≤ 1) (hfe : fe ≤ 1000) (hea : ea ≤ 1000) (h : zMp S kd ky N gu ac fe ea) (hW : zMw S kd ky N gu ac fe ea 0) (h1 : zp1 kd ky N gu ac fe ea ≠ 6) (hi : i < N) : ∀ r k u, r < u → k + r = i → fM_X11_stage_29 u (nI i) (nI (zpX kd ky N gu ac fe ea k)) (nI k) S = some (nI (zpX kd ky N gu ac fe ea i), S) := by
  have hN := h.1.1.2.1
  have hb := h.1.1.2.2.2.2.1
  intro r
  induction r with
  | zero =>
    intro k u hu hk
    obtain ⟨u, rfl⟩ : ∃ u', u = u' + 1 := ⟨u - 1, by omega⟩
    have e : k = i := by omega
    rw [e, fM_X11_stage_29, if_pos (by rw [zI_le (by omega) (by omega)]; omega)]
  | succ r ih =>
    intro k u hu hk
    obtain ⟨u, rfl⟩ : ∃ u', u = u' + 1 := ⟨u - 1, by omega⟩
    have n1 := pM_next (P := zpQ kd ky N gu ac fe ea (N - (k + 1))) hgu hac (zpX_lt h1 k) h (show k + 1 < N by omega) (hW (k + 1) (Nat.zero_le _) (by omega)) (fun t ht => zpQ_b hN hb hfe hea _ (by omega) t ht) (zpV_le hN hb hfe hea (by omega))
    have e : zpB (zpO kd N gu ac) (zpF (zpQ kd ky N gu ac fe ea (N - (k + 1))) (zpV kd ky fe ea k) (zpX kd ky N gu ac fe ea k)) 6 = zpX kd ky N gu ac fe ea (k + 1) := rfl
    have h6 := zpX_lt h1 (k + 1)
    rw [e, ze6_n (by omega)] at n1
    rw [fM_X11_stage_29, if_neg (by rw [zI_le (by omega) (by omega)]; omega), n1, Option.bind_some, zL1, zI_add]
    exact ih (k + 1) u (by omega) (by omega)
theorem zt_stage {SX SM : zSt} (h : zTp SX SM) (x1 : Int32) : ∃ r SX' SM', fX_X10_stage x1 SX = some (r, SX') ∧ fM_X11_stage x1 SM = some (r, SM') ∧ zTp SX' SM' := by
  obtain ⟨kd, ky, N, gu, ac, fe, ea, hb, hX, hM⟩ := h
  have hM7 := zMT2_7 (v := nI 0) hM
  have hN := hX.1.2.1
  have hbk := hX.1.2.2.2.2.1
  have fin : zTp SX (zsI SM 7 (nI 0)) := ⟨kd, ky, N, gu, ac, fe, ea, hb, hX, hM7⟩
  rcases zcs x1 with g | ⟨i, hi2, rfl⟩
  · refine ⟨zN, SX, zsI SM 7 (nI 0), ?_, ?_, fin⟩
    · simp (disch := omega) only [fX_X10_stage, pX_isCall_n g, ↓zN_eq, zL0, zL1, zL2, zL3, zL4, zL5, zL6, zL7, zL8, zL10, zL16, zL31, zL42, zL63, zL64, zL100, zL200, zL255, zL256, zL1000, zL12345, zL536870912, zI_le, zI_lt, zI_eq, zI_add, zI_sub, zI_mul, zI_neN, zI_Nne, zI_leN, zI_ltN, zI_Nle, zI_Nlt, zI_pred, zI_clamp, zI_div, zI_rem, zin_t, zgd_t, znz_t, if_pos, if_neg, if_true, if_false, Option.bind_some]
    · simp (disch := omega) only [fM_X11_stage, pM_isCall_n g, ↓zN_eq, zL0, zL1, zL2, zL3, zL4, zL5, zL6, zL7, zL8, zL10, zL16, zL31, zL42, zL63, zL64, zL100, zL200, zL255, zL256, zL1000, zL12345, zL536870912, zI_le, zI_lt, zI_eq, zI_add, zI_sub, zI_mul, zI_neN, zI_Nne, zI_leN, zI_ltN, zI_Nle, zI_Nlt, zI_pred, zI_clamp, zI_div, zI_rem, zin_t, zgd_t, znz_t, if_pos, if_neg, if_true, if_false, Option.bind_some]
  · by_cases y : i < N
    · have c1 := pX_isCall_t hX.1.1 hN y
      have c2 := pM_isCall_t hM7.1.1 hN y
      obtain ⟨S1, e1, p1, w1⟩ := pM_findStages hb.1 hb.2.1 hb.2.2.1 hb.2.2.2 hM7
      have hO := zXT_off hX hb.1 hb.2.1
      have hA := zp1_an (kd := kd) (ky := ky) (N := N) (gu := gu) (ac := ac) (fe := fe) (ea := ea)
      have hZ' : (zqM gu ac (zqF kd N 0) = 0) ↔ zan (zpO kd N gu ac) 6 = false := zqM_0 hb.1 hb.2.1
      by_cases q : zan (zpO kd N gu ac) 6 = true
      · have h1 := hA.mp q
        have h6 : zp1 kd ky N gu ac fe ea < 6 := zpX_lt h1 0
        obtain ⟨S2, e2, x2, l2⟩ := pX_plan hb.1 hb.2.1 hb.2.2.1 hb.2.2.2 hX
        have hf := pM_first hb.1 hb.2.1 hb.2.2.1 hb.2.2.2 p1 w1
        rw [ze6_n h1] at hf
        have k := pM_stage_29 (i := i) hb.1 hb.2.1 hb.2.2.1 hb.2.2.2 p1 w1 h1 y i 0 1000 (by omega) (by omega)
        refine ⟨nI (zpX kd ky N gu ac fe ea i), S2, S1, ?_, ?_, zMp_2 hb x2 p1⟩
        · unfold fX_X10_stage
          rw [c1, Option.bind_some, if_neg (show ¬ nI 1 = (0 : Int32) by decide), hO, Option.bind_some, if_neg (fun e => by rw [hZ'.mp e] at q; exact absurd q (by decide)), e2, Option.bind_some, zin_t (by omega) (by omega), zgd_t, zI_clamp (by omega), l2.2 h1 i y]
        · unfold fM_X11_stage
          rw [zL0, c2, Option.bind_some, if_neg (show ¬ nI 1 = nI 0 by decide), e1, Option.bind_some, q, zb1_t]
          show (if nI 1 = nI 0 then _ else _) = _
          rw [if_neg (show ¬ nI 1 = nI 0 by decide)]
          show (fM_X11_firstShelf S1).bind _ = _
          rw [hf, Option.bind_some]
          exact k
      · have q' := Bool.eq_false_iff.mpr q
        refine ⟨zN, SX, S1, ?_, ?_, zMp_2 hb hX p1⟩
        · unfold fX_X10_stage
          rw [c1, Option.bind_some, if_neg (show ¬ nI 1 = (0 : Int32) by decide), hO, Option.bind_some, if_pos (hZ'.mpr q')]; rfl
        · unfold fM_X11_stage
          rw [zL0, c2, Option.bind_some, if_neg (show ¬ nI 1 = nI 0 by decide), e1, Option.bind_some, q', zb1_f]
          rfl
    · have c1 := pX_isCall_f hX.1.1 hN (show N ≤ i by omega) hi2
      have c2 := pM_isCall_f hM7.1.1 hN (show N ≤ i by omega) hi2
      refine ⟨zN, SX, zsI SM 7 (nI 0), ?_, ?_, fin⟩
      · simp (disch := omega) only [fX_X10_stage, c1, ↓zN_eq, zL0, zL1, zL2, zL3, zL4, zL5, zL6, zL7, zL8, zL10, zL16, zL31, zL42, zL63, zL64, zL100, zL200, zL255, zL256, zL1000, zL12345, zL536870912, zI_le, zI_lt, zI_eq, zI_add, zI_sub, zI_mul, zI_neN, zI_Nne, zI_leN, zI_ltN, zI_Nle, zI_Nlt, zI_pred, zI_clamp, zI_div, zI_rem, zin_t, zgd_t, znz_t, if_pos, if_neg, if_true, if_false, Option.bind_some]
      · simp (disch := omega) only [fM_X11_stage, c2, ↓zN_eq, zL0, zL1, zL2, zL3, zL4, zL5, zL6, zL7, zL8, zL10, zL16, zL31, zL42, zL63, zL64, zL100, zL200, zL255, zL256, zL1000, zL12345, zL536870912, zI_le, zI_lt, zI_eq, zI_add, zI_sub, zI_mul, zI_neN, zI_Nne, zI_leN, zI_ltN, zI_Nle, zI_Nlt, zI_pred, zI_clamp, zI_div, zI_rem, zin_t, zgd_t, znz_t, if_pos, if_neg, if_true, if_false, Option.bind_some]
theorem zt_count {SX SM : zSt} (h : zTp SX SM) (x1 : Int32) : ∃ r SX' SM', fX_X10_count x1 SX = some (r, SX') ∧ fM_X11_count x1 SM = some (r, SM') ∧ zTp SX' SM' := by
  obtain ⟨kd, ky, N, gu, ac, fe, ea, hb, hX, hM⟩ := h
  have hM7 := zMT2_7 (v := nI 0) hM
  have hN := hX.1.2.1
  have hbk := hX.1.2.2.2.2.1
  have fin : zTp SX (zsI SM 7 (nI 0)) := ⟨kd, ky, N, gu, ac, fe, ea, hb, hX, hM7⟩
  have a0 := hX.1.1
  obtain ⟨_, a1, a2, a3, a4, a5⟩ := hX
  have hX : zXT SX kd ky N gu ac fe ea := ⟨by assumption, a1, a2, a3, a4, a5⟩
  have b0 := hM.1.1
  obtain ⟨_, b1, b2, b3, b4⟩ := hM
  by_cases g0 : x1 = nI 0
  · rw [g0]
    refine ⟨nI N, SX, zsI SM 7 (nI 0), ?_, ?_, fin⟩
    · simp (disch := omega) only [fX_X10_count, a0, ↓zN_eq, zL0, zL1, zL2, zL3, zL4, zL5, zL6, zL7, zL8, zL10, zL16, zL31, zL42, zL63, zL64, zL100, zL200, zL255, zL256, zL1000, zL12345, zL536870912, zI_le, zI_lt, zI_eq, zI_add, zI_sub, zI_mul, zI_neN, zI_Nne, zI_leN, zI_ltN, zI_Nle, zI_Nlt, zI_pred, zI_clamp, zI_div, zI_rem, zin_t, zgd_t, znz_t, if_pos, if_neg, if_true, if_false, Option.bind_some]
    · simp (disch := omega) only [fM_X11_count, b0, ↓zN_eq, zL0, zL1, zL2, zL3, zL4, zL5, zL6, zL7, zL8, zL10, zL16, zL31, zL42, zL63, zL64, zL100, zL200, zL255, zL256, zL1000, zL12345, zL536870912, zI_le, zI_lt, zI_eq, zI_add, zI_sub, zI_mul, zI_neN, zI_Nne, zI_leN, zI_ltN, zI_Nle, zI_Nlt, zI_pred, zI_clamp, zI_div, zI_rem, zin_t, zgd_t, znz_t, if_pos, if_neg, if_true, if_false, Option.bind_some]
  by_cases g1 : x1 = nI 1
  · rw [g1]
    refine ⟨nI fe, SX, zsI SM 7 (nI 0), ?_, ?_, fin⟩
    · simp (disch := omega) only [fX_X10_count, a3, ↓zN_eq, zL0, zL1, zL2, zL3, zL4, zL5, zL6, zL7, zL8, zL10, zL16, zL31, zL42, zL63, zL64, zL100, zL200, zL255, zL256, zL1000, zL12345, zL536870912, zI_le, zI_lt, zI_eq, zI_add, zI_sub, zI_mul, zI_neN, zI_Nne, zI_leN, zI_ltN, zI_Nle, zI_Nlt, zI_pred, zI_clamp, zI_div, zI_rem, zin_t, zgd_t, znz_t, if_pos, if_neg, if_true, if_false, Option.bind_some]
    · simp (disch := omega) only [fM_X11_count, b3, ↓zN_eq, zL0, zL1, zL2, zL3, zL4, zL5, zL6, zL7, zL8, zL10, zL16, zL31, zL42, zL63, zL64, zL100, zL200, zL255, zL256, zL1000, zL12345, zL536870912, zI_le, zI_lt, zI_eq, zI_add, zI_sub, zI_mul, zI_neN, zI_Nne, zI_leN, zI_ltN, zI_Nle, zI_Nlt, zI_pred, zI_clamp, zI_div, zI_rem, zin_t, zgd_t, znz_t, if_pos, if_neg, if_true, if_false, Option.bind_some]
  by_cases g2 : x1 = nI 2
  · rw [g2]
    refine ⟨nI ea, SX, zsI SM 7 (nI 0), ?_, ?_, fin⟩
    · simp (disch := omega) only [fX_X10_count, a4, ↓zN_eq, zL0, zL1, zL2, zL3, zL4, zL5, zL6, zL7, zL8, zL10, zL16, zL31, zL42, zL63, zL64, zL100, zL200, zL255, zL256, zL1000, zL12345, zL536870912, zI_le, zI_lt, zI_eq, zI_add, zI_sub, zI_mul, zI_neN, zI_Nne, zI_leN, zI_ltN, zI_Nle, zI_Nlt, zI_pred, zI_clamp, zI_div, zI_rem, zin_t, zgd_t, znz_t, if_pos, if_neg, if_true, if_false, Option.bind_some]
    · simp (disch := omega) only [fM_X11_count, b4, ↓zN_eq, zL0, zL1, zL2, zL3, zL4, zL5, zL6, zL7, zL8, zL10, zL16, zL31, zL42, zL63, zL64, zL100, zL200, zL255, zL256, zL1000, zL12345, zL536870912, zI_le, zI_lt, zI_eq, zI_add, zI_sub, zI_mul, zI_neN, zI_Nne, zI_leN, zI_ltN, zI_Nle, zI_Nlt, zI_pred, zI_clamp, zI_div, zI_rem, zin_t, zgd_t, znz_t, if_pos, if_neg, if_true, if_false, Option.bind_some]
  by_cases g3 : x1 = nI 3
  · rw [g3]
    obtain ⟨S2, e2, x2, l2⟩ := pX_plan hb.1 hb.2.1 hb.2.2.1 hb.2.2.2 hX
    have fX : fX_X10_count (nI 3) SX = some (zrem (nI (zpT kd ky N gu ac fe ea)) 256, S2) := by
      have lv := l2.1
      unfold fX_X10_count
      rw [if_neg (show ¬ nI 3 = (0 : Int32) by decide), if_neg (show ¬ nI 3 = (1 : Int32) by decide), if_neg (show ¬ nI 3 = (2 : Int32) by decide), if_pos (show nI 3 = (3 : Int32) by decide), e2, Option.bind_some]
      unfold fX_X5_moves
      rw [lv]; rfl
    have fM0 : fM_X11_count (nI 3) SM = if N = 0 then fM_X11_count_69 (zsI SM 7 (nI 0)) else (fM_X11_findStages (zsI SM 7 (nI 0))).bind (fun u3 => if u3.1 = 0 then (fM_X11_count_69 u3.2) else ((fM_X11_firstShelf u3.2).bind (fun u6 => zgd (zin u6 1206) (some ((u3.2.2 27 u6.toNatClampNeg), u3.2))))) := by
      unfold fM_X11_count
      rw [if_neg (show ¬ nI 3 = (0 : Int32) by decide), if_neg (show ¬ nI 3 = (1 : Int32) by decide), if_neg (show ¬ nI 3 = (2 : Int32) by decide), if_pos (show nI 3 = (3 : Int32) by decide), b0]
      by_cases w : N = 0
      · rw [if_pos w, w, if_pos (show nI 0 = (0 : Int32) by decide)]; rfl
      · rw [if_neg w, if_neg (by rw [zL0, zI_eq (by omega) (by omega)]; exact w)]; rfl
    by_cases w : N = 0
    · refine ⟨nI 0, S2, zsI SM 7 (nI 0), ?_, ?_, ⟨kd, ky, N, gu, ac, fe, ea, hb, x2, hM7⟩⟩
      · rw [fX, (zpT_0 (Or.inl w)).2]
      · rw [fM0, if_pos w]; rfl
    · obtain ⟨S1, e1, p1, w1⟩ := pM_findStages hb.1 hb.2.1 hb.2.2.1 hb.2.2.2 hM7
      have hA := zp1_an (kd := kd) (ky := ky) (N := N) (gu := gu) (ac := ac) (fe := fe) (ea := ea)
      rw [if_neg w, e1, Option.bind_some] at fM0
      by_cases q : zan (zpO kd N gu ac) 6 = true
      · have h1 := hA.mp q
        have h6 : zp1 kd ky N gu ac fe ea < 6 := zpX_lt h1 0
        have hf := pM_first hb.1 hb.2.1 hb.2.2.1 hb.2.2.2 p1 w1
        rw [ze6_n h1] at hf
        have hl := zpB_lt (zpO kd N gu ac) (fun s => zpW (zpQ kd ky N gu ac fe ea N s)) 6
        have ho : zpO kd N gu ac (zp1 kd ky N gu ac fe ea) = true := by
          rcases hl with u | u
          · exact absurd u h1
          · exact u.2
        have v := (w1 0 (Nat.le_refl 0) (Nat.zero_le N) _ h6 ho).2
        rw [show 6 * 0 + zp1 kd ky N gu ac fe ea = zp1 kd ky N gu ac fe ea by omega] at v
        refine ⟨_, S2, S1, fX, ?_, zMp_2 hb x2 p1⟩
        rw [fM0, q, zb1_t]
        show (if nI 1 = 0 then _ else (fM_X11_firstShelf S1).bind _) = _
        rw [if_neg (show ¬ nI 1 = (0 : Int32) by decide), hf, Option.bind_some, zin_t (by omega) (by omega), zgd_t, zI_clamp (by omega)]
        show some (S1.2 27 _, S1) = _
        rw [v, (zpT_d hN hbk hb.2.2.1 hb.2.2.2 w h1).2]; rfl
      · have q' := Bool.eq_false_iff.mpr q
        have h6 : zp1 kd ky N gu ac fe ea = 6 := Decidable.byContradiction (fun n => q (hA.mpr n))
        refine ⟨nI 0, S2, S1, ?_, ?_, zMp_2 hb x2 p1⟩
        · rw [fX, (zpT_0 (Or.inr h6)).2]
        · rw [fM0, q', zb1_f]; rfl
  by_cases g4 : x1 = nI 4
  · rw [g4]
    have f1 := zXT_first hX
    have f2 : fM_X11_hasFirst (zsI SM 7 (nI 0)) = some (nI (zb1 (zqF kd N 0))) := pM_hasFirst hN hM7.1.1 hM7.1.2.2.1 (fun t ht => (hbk t ht).1)
    have b1' : (zsI SM 7 (nI 0)).1 4 = nI ac := b2
    refine ⟨nI (gu * 2 + ac * 4 + zb1 (zqF kd N 0) * 8), SX, zsI SM 7 (nI 0), ?_, ?_, fin⟩
    · generalize zqF kd N 0 = hf at *
      rcases z01 hb.1 with rfl | rfl <;> rcases z01 hb.2.1 with rfl | rfl <;> cases hf <;> (first | rw [zb1_f] at f1 ⊢ | rw [zb1_t] at f1 ⊢) <;> (simp (disch := omega) only [fX_X10_count, fX_X10_count_75, fX_X10_count_87, fX_X10_count_101, a1, a2, f1, ↓zN_eq, zL0, zL1, zL2, zL3, zL4, zL5, zL6, zL7, zL8, zL10, zL16, zL31, zL42, zL63, zL64, zL100, zL200, zL255, zL256, zL1000, zL12345, zL536870912, zI_le, zI_lt, zI_eq, zI_add, zI_sub, zI_mul, zI_neN, zI_Nne, zI_leN, zI_ltN, zI_Nle, zI_Nlt, zI_pred, zI_clamp, zI_div, zI_rem, zin_t, zgd_t, znz_t, if_pos, if_neg, if_true, if_false, Option.bind_some])
    · generalize zqF kd N 0 = hf at *
      rcases z01 hb.1 with rfl | rfl <;> rcases z01 hb.2.1 with rfl | rfl <;> cases hf <;> (first | rw [zb1_f] at f2 ⊢ | rw [zb1_t] at f2 ⊢) <;> (simp (disch := omega) only [fM_X11_count, fM_X11_count_95, fM_X11_count_107, fM_X11_count_121, b1, b1', f2, ↓zN_eq, zL0, zL1, zL2, zL3, zL4, zL5, zL6, zL7, zL8, zL10, zL16, zL31, zL42, zL63, zL64, zL100, zL200, zL255, zL256, zL1000, zL12345, zL536870912, zI_le, zI_lt, zI_eq, zI_add, zI_sub, zI_mul, zI_neN, zI_Nne, zI_leN, zI_ltN, zI_Nle, zI_Nlt, zI_pred, zI_clamp, zI_div, zI_rem, zin_t, zgd_t, znz_t, if_pos, if_neg, if_true, if_false, Option.bind_some])
  refine ⟨zN, SX, zsI SM 7 (nI 0), ?_, ?_, fin⟩
  · simp only [fX_X10_count, zL0, zL1, zL2, zL3, zL4, g0, g1, g2, g3, g4, if_false]; rfl
  · simp only [fM_X11_count, zL0, zL1, zL2, zL3, zL4, g0, g1, g2, g3, g4, if_false]; rfl

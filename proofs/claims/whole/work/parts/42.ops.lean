/-! best, drift -/
theorem pX_best_5 {S : zSt} {x1 x2 : Int32} {b : Nat → Bool} (hw : ∀ s, s < 6 → fX_d_isWithin s x1 x2 S = some (nI (zb1 (b s)))) : ∀ r i u, r < u → i + r = 6 → fX_X10_best_5 u x1 x2 (zwm b i) (nI i) S = (fX_X10_offered S).bind (fun u2 => (fX_X10_cheapestSince 0 (u2 &&& zwm b 6) S).bind (fun u4 => some u4)) := by
  intro r
  induction r with
  | zero =>
    intro i u hu hi
    obtain ⟨u, rfl⟩ : ∃ u', u = u' + 1 := ⟨u - 1, by omega⟩
    have e : i = 6 := by omega
    rw [e, fX_X10_best_5, if_pos (show (6 : Int32) ≤ nI 6 by decide)]
  | succ r ih =>
    intro i u hu hi
    obtain ⟨u, rfl⟩ : ∃ u', u = u' + 1 := ⟨u - 1, by omega⟩
    have c6 : ¬ (6 : Int32) ≤ nI i := by rw [zL6, zI_le (by omega) (by omega)]; omega
    have e1 : nI i + 1 = nI (i + 1) := by rw [zL1, zI_add]
    have k := ih (i + 1) u (by omega) (by omega)
    have es : zwm b (i + 1) = if b i = true then zwm b i ||| (1 <<< (nI i &&& 31)) else zwm b i := rfl
    rw [fX_X10_best_5, if_neg c6, zin_t (show i < 6 by omega) (by omega), zgd_t, zI_clamp (by omega)]
    unfold fX_X10_best_19
    rw [hw i (by omega), Option.bind_some]
    unfold fX_X10_best_24
    rw [← k, es, e1]
    by_cases q : b i = true
    · rw [if_pos q, q, zb1_t, if_neg (show ¬ nI 1 = (0 : Int32) by decide)]
    · rw [if_neg q, Bool.eq_false_iff.mpr q, zb1_f, if_pos (show nI 0 = (0 : Int32) by decide)]
theorem pM_best_14 {S : zSt} {kd ky : Nat → Nat} {N gu ac fe ea : Nat} {x1 x2 : Int32} (hM : zMT2 S kd ky N gu ac fe ea) (hD : zMD S kd ky N) (hgu : gu ≤ 1) (hac : ac ≤ 1) : ∀ r i u, r < u → i + r = 6 → fM_X11_best_14 u x1 x2 (ze6 (zqB (fun s => zpO kd N gu ac s && zqI kd ky N x1 x2 s) (fun s => zqS (zqC kd ky s) (N - 0) 0 (nI 0)) i)) (nI i) S = some (ze6 (zqB (fun s => zpO kd N gu ac s && zqI kd ky N x1 x2 s) (fun s => zqS (zqC kd ky s) (N - 0) 0 (nI 0)) 6), S) := by
  generalize hoff : (fun s => zpO kd N gu ac s && zqI kd ky N x1 x2 s) = off
  generalize hf : (fun s => zqS (zqC kd ky s) (N - 0) 0 (nI 0)) = f
  have hN := hM.1.2.1
  have hst : ∀ s, s < 6 → fM_X11_stepsOf (nI s) (nI 0) S = some (f s) := fun s hs => by
    rw [← hf]; exact pM_stepsOf hN hs hM.1.1 (fun t ht => hD.2.2.2.1 t ht s hs) (Nat.zero_le _)
  intro r
  induction r with
  | zero =>
    intro i u hu hi
    obtain ⟨u, rfl⟩ : ∃ u', u = u' + 1 := ⟨u - 1, by omega⟩
    have e : i = 6 := by omega
    rw [e]
    simp (disch := omega) only [fM_X11_best_14, ↓zN_eq, zL0, zL1, zL2, zL3, zL4, zL5, zL6, zL7, zL8, zL10, zL16, zL31, zL42, zL63, zL64, zL100, zL200, zL255, zL256, zL1000, zL12345, zL536870912, zI_le, zI_lt, zI_eq, zI_add, zI_sub, zI_mul, zI_neN, zI_Nne, zI_leN, zI_ltN, zI_Nle, zI_Nlt, zI_pred, zI_clamp, zI_div, zI_rem, zin_t, zgd_t, znz_t, if_pos, if_neg, if_true, if_false, Option.bind_some]
  | succ r ih =>
    intro i u hu hi
    obtain ⟨u, rfl⟩ : ∃ u', u = u' + 1 := ⟨u - 1, by omega⟩
    have hi6 : i < 6 := by omega
    have k := ih (i + 1) u (by omega) (by omega)
    have es : zqB off f (i + 1) = if off i = true then (if zqB off f i = 6 then i else if f (zqB off f i) ≤ f i then zqB off f i else i) else zqB off f i := rfl
    have hl := zqB_lt off f i
    have hw := pM_worstOf (c := zqC kd ky i) hN hi6 hM.1.1 (fun t ht => hD.2.2.2.1 t ht i hi6)
    have ho := zMT2_off hM hgu hac hi6
    have h13 := hD.2.2.2.2.2 i hi6
    have hs1 := hst i hi6
    have w00 := zqW_0 (zqC kd ky i) N hN
    have wl := zqW_lt (zqC kd ky i) N
    have hE := zqI_e (kd := kd) (ky := ky) (N := N) (j := i) (x1 := x1) (x2 := x2)
    have eoff : off i = (zpO kd N gu ac i && zqI kd ky N x1 x2 i) := by rw [← hoff]
    have take : off i = true → fM_X11_best_75 (fM_X11_best_14 u) x1 x2 (ze6 (zqB off f i)) (nI i) S = some (ze6 (zqB off f 6), S) := fun q => by
      rw [if_pos q] at es
      by_cases w : zqB off f i = 6
      · rw [if_pos w] at es
        rw [es, ze6_n (by omega)] at k
        rw [w, ze6_6, ← k]
        simp (disch := omega) only [fM_X11_best_75, fM_X11_best_96, ↓zN_eq, zL0, zL1, zL2, zL3, zL4, zL5, zL6, zL7, zL8, zL10, zL16, zL31, zL42, zL63, zL64, zL100, zL200, zL255, zL256, zL1000, zL12345, zL536870912, zI_le, zI_lt, zI_eq, zI_add, zI_sub, zI_mul, zI_neN, zI_Nne, zI_leN, zI_ltN, zI_Nle, zI_Nlt, zI_pred, zI_clamp, zI_div, zI_rem, zin_t, zgd_t, znz_t, if_pos, if_neg, if_true, if_false, Option.bind_some]
      · rw [if_neg w] at es
        have hs2 := hst (zqB off f i) (by omega)
        rw [ze6_n w]
        by_cases y : f (zqB off f i) ≤ f i
        · rw [if_pos y] at es
          rw [es, ze6_n w] at k
          rw [← k]
          simp (disch := omega) only [fM_X11_best_75, fM_X11_best_96, hs1, hs2, y, ↓zN_eq, zL0, zL1, zL2, zL3, zL4, zL5, zL6, zL7, zL8, zL10, zL16, zL31, zL42, zL63, zL64, zL100, zL200, zL255, zL256, zL1000, zL12345, zL536870912, zI_le, zI_lt, zI_eq, zI_add, zI_sub, zI_mul, zI_neN, zI_Nne, zI_leN, zI_ltN, zI_Nle, zI_Nlt, zI_pred, zI_clamp, zI_div, zI_rem, zin_t, zgd_t, znz_t, if_pos, if_neg, if_true, if_false, Option.bind_some]
        · rw [if_neg y] at es
          rw [es, ze6_n (by omega)] at k
          rw [← k]
          simp (disch := omega) only [fM_X11_best_75, fM_X11_best_96, hs1, hs2, y, ↓zN_eq, zL0, zL1, zL2, zL3, zL4, zL5, zL6, zL7, zL8, zL10, zL16, zL31, zL42, zL63, zL64, zL100, zL200, zL255, zL256, zL1000, zL12345, zL536870912, zI_le, zI_lt, zI_eq, zI_add, zI_sub, zI_mul, zI_neN, zI_Nne, zI_leN, zI_ltN, zI_Nle, zI_Nlt, zI_pred, zI_clamp, zI_div, zI_rem, zin_t, zgd_t, znz_t, if_pos, if_neg, if_true, if_false, Option.bind_some]
    have skip : off i = false → fM_X11_best_14 u x1 x2 (ze6 (zqB off f i)) (nI (i + 1)) S = some (ze6 (zqB off f 6), S) := fun q => by
      rw [if_neg (by rw [q]; decide)] at es
      rw [es] at k
      exact k
    generalize ze6 (zqB off f i) = x3 at *
    rw [fM_X11_best_14]
    by_cases o : zpO kd N gu ac i = true
    · rw [o, zb1_t] at ho
      rw [o, Bool.true_and] at eoff
      by_cases v : x2 < nI (zmr kd ky i N)
      · have := skip (by rw [eoff]; exact Bool.eq_false_iff.mpr (fun e => (hE.mp e).1 v))
        rw [← this]
        simp (disch := omega) only [hw, ho, h13, v, ↓zN_eq, zL0, zL1, zL2, zL3, zL4, zL5, zL6, zL7, zL8, zL10, zL16, zL31, zL42, zL63, zL64, zL100, zL200, zL255, zL256, zL1000, zL12345, zL536870912, zI_le, zI_lt, zI_eq, zI_add, zI_sub, zI_mul, zI_neN, zI_Nne, zI_leN, zI_ltN, zI_Nle, zI_Nlt, zI_pred, zI_clamp, zI_div, zI_rem, zin_t, zgd_t, znz_t, if_pos, if_neg, if_true, if_false, Option.bind_some]
      · by_cases n : N = 0
        · rw [w00.mpr n, show ze2 200 = zN from if_pos rfl] at hw
          have := take (by rw [eoff]; exact hE.mpr ⟨v, Or.inl n⟩)
          rw [← this]
          simp (disch := omega) only [hw, ho, h13, v, ↓zN_eq, zL0, zL1, zL2, zL3, zL4, zL5, zL6, zL7, zL8, zL10, zL16, zL31, zL42, zL63, zL64, zL100, zL200, zL255, zL256, zL1000, zL12345, zL536870912, zI_le, zI_lt, zI_eq, zI_add, zI_sub, zI_mul, zI_neN, zI_Nne, zI_leN, zI_ltN, zI_Nle, zI_Nlt, zI_pred, zI_clamp, zI_div, zI_rem, zin_t, zgd_t, znz_t, if_pos, if_neg, if_true, if_false, Option.bind_some]
        · have u2 : ¬ zqW (zqC kd ky i) N = 200 := fun k => n (w00.mp k)
          rw [show ze2 (zqW (zqC kd ky i) N) = nI (zqW (zqC kd ky i) N) from if_neg u2] at hw
          have h11 : S.2 11 (6 * zqW (zqC kd ky i) N + i) = zqC kd ky i (zqW (zqC kd ky i) N) := hD.2.2.2.1 _ (by omega) i hi6
          by_cases g : x1 < zqC kd ky i (zqW (zqC kd ky i) N)
          · have := skip (by rw [eoff]; exact Bool.eq_false_iff.mpr (fun e => by
              rcases (hE.mp e).2 with y | y
              · exact n y
              · exact y g))
            have g2 : (zqC kd ky i (zqW (zqC kd ky i) N) ≤ x1) = False := eq_false (Int32.not_le.mpr g)
            rw [← this]
            simp (disch := omega) only [hw, ho, h13, v, h11, g2, ↓zN_eq, zL0, zL1, zL2, zL3, zL4, zL5, zL6, zL7, zL8, zL10, zL16, zL31, zL42, zL63, zL64, zL100, zL200, zL255, zL256, zL1000, zL12345, zL536870912, zI_le, zI_lt, zI_eq, zI_add, zI_sub, zI_mul, zI_neN, zI_Nne, zI_leN, zI_ltN, zI_Nle, zI_Nlt, zI_pred, zI_clamp, zI_div, zI_rem, zin_t, zgd_t, znz_t, if_pos, if_neg, if_true, if_false, Option.bind_some]
          · have := take (by rw [eoff]; exact hE.mpr ⟨v, Or.inr g⟩)
            have g2 : (zqC kd ky i (zqW (zqC kd ky i) N) ≤ x1) = True := eq_true (Int32.not_lt.mp g)
            rw [← this]
            simp (disch := omega) only [hw, ho, h13, v, h11, g2, ↓zN_eq, zL0, zL1, zL2, zL3, zL4, zL5, zL6, zL7, zL8, zL10, zL16, zL31, zL42, zL63, zL64, zL100, zL200, zL255, zL256, zL1000, zL12345, zL536870912, zI_le, zI_lt, zI_eq, zI_add, zI_sub, zI_mul, zI_neN, zI_Nne, zI_leN, zI_ltN, zI_Nle, zI_Nlt, zI_pred, zI_clamp, zI_div, zI_rem, zin_t, zgd_t, znz_t, if_pos, if_neg, if_true, if_false, Option.bind_some]
    · have o' := Bool.eq_false_iff.mpr o
      rw [o', zb1_f] at ho
      have := skip (by rw [eoff, o']; rfl)
      rw [← this]
      simp (disch := omega) only [hw, ho, ↓zN_eq, zL0, zL1, zL2, zL3, zL4, zL5, zL6, zL7, zL8, zL10, zL16, zL31, zL42, zL63, zL64, zL100, zL200, zL255, zL256, zL1000, zL12345, zL536870912, zI_le, zI_lt, zI_eq, zI_add, zI_sub, zI_mul, zI_neN, zI_Nne, zI_leN, zI_ltN, zI_Nle, zI_Nlt, zI_pred, zI_clamp, zI_div, zI_rem, zin_t, zgd_t, znz_t, if_pos, if_neg, if_true, if_false, Option.bind_some]
theorem zt_best {SX SM : zSt} (h : zTp SX SM) (x1 x2 : Int32) : ∃ r SM', fX_X10_best x1 x2 SX = some r ∧ fM_X11_best x1 x2 SM = some (r, SM') ∧ zTp SX SM' := by
  obtain ⟨kd, ky, N, gu, ac, fe, ea, hb, hX, hM⟩ := h
  have hM7 := zMT2_7 (v := nI 0) hM
  obtain ⟨S', e, hM', hD⟩ := zMT2_do hM7
  have hN := hX.1.2.1
  have hbk := hX.1.2.2.2.2.1
  have hS := hX.1.2.2.2.2.2.2.2
  refine ⟨ze6 (zqB (fun s => zpO kd N gu ac s && zqI kd ky N x1 x2 s) (fun s => zqS (zqC kd ky s) (N - 0) 0 (nI 0)) 6), S', ?_, ?_, ⟨kd, ky, N, gu, ac, fe, ea, hb, hX, hM'⟩⟩
  · unfold fX_X10_best
    have k := pX_best_5 (S := SX) (b := zqI kd ky N x1 x2) (fun s hs => pX_dwithin (x1 := x1) (x2 := x2) hs hN hbk (hS s hs)) 6 0 1000 (by omega) (by omega)
    have k' : fX_X10_best_5 1000 x1 x2 0 0 SX = (fX_X10_offered SX).bind (fun u2 => (fX_X10_cheapestSince 0 (u2 &&& zwm (zqI kd ky N x1 x2) 6) SX).bind (fun u4 => some u4)) := k
    rw [k', zXT_off hX hb.1 hb.2.1, Option.bind_some, zL0]
    rw [pX_cheap (off := fun s => zpO kd N gu ac s && zqI kd ky N x1 x2 s) (f := fun s => zqS (zqC kd ky s) (N - 0) 0 (nI 0)) (fun s hs => pX_isIn (zwm_is hb.1 hb.2.1 hs)) (fun s hs => pX_dsince hs hN (hS s hs) (Nat.zero_le _)), Option.bind_some]
  · unfold fM_X11_best
    rw [zL0, e, Option.bind_some, zN_eq]
    exact pM_best_14 hM' hD hb.1 hb.2.1 6 0 1000 (by omega) (by omega)
/-- how much another would have saved -/
def zqD (f : Nat → Int32) (j w : Nat) : Int32 := if f j = 0 then 0 else ((f j - f w) * 100) / f j
theorem pM_drift_45 {S : zSt} {x3 : Int32} {off : Nat → Bool} {f : Nat → Int32} {j N n : Nat} (hj : j < 6) (hN : N ≤ 200) (hn : n ≤ N) (h2 : S.1 2 = nI N) (ho : ∀ s, s < 6 → fM_X11_isOffered (nI s) S = some (nI (zb1 (off s)))) (hst : ∀ s, s < 6 → fM_X11_stepsOf (nI s) (nI (N - n)) S = some (f s)) : ∀ r i u, r < u → i + r = 6 → fM_X11_drift_45 u (nI j) (nI n) x3 (ze6 (zqB off f i)) (nI i) S = some (if zqB off f 6 = 6 then zN else if x3 = 0 then nI (zqB off f 6) else zqD f j (zqB off f 6), S) := by
  intro r
  induction r with
  | zero =>
    intro i u hu hi
    obtain ⟨u, rfl⟩ : ∃ u', u = u' + 1 := ⟨u - 1, by omega⟩
    have e : i = 6 := by omega
    have hl := zqB_lt off f 6
    have hs1 := hst j hj
    rw [e, fM_X11_drift_45, if_pos (show (6 : Int32) ≤ nI 6 by decide)]
    by_cases w : zqB off f 6 = 6
    · rw [if_pos w, w, ze6_6, if_pos (show zN = -1 from rfl)]
    · have hs2 := hst (zqB off f 6) (by omega)
      rw [if_neg w, ze6_n w, if_neg (show ¬ nI (zqB off f 6) = -1 by rw [zN_eq, zI_neN (by omega)]; exact fun h => h)]
      by_cases q : x3 = 0
      · rw [if_pos q, if_pos q]
      · rw [if_neg q, if_neg q, h2, zI_sub hn, hs1, Option.bind_some]
        unfold zqD
        by_cases y : f j = 0
        · rw [if_pos y, if_pos y]
        · rw [if_neg y, if_neg y, hs2, Option.bind_some, show znz (f j) = true from decide_eq_true y, zgd_t]
  | succ r ih =>
    intro i u hu hi
    obtain ⟨u, rfl⟩ : ∃ u', u = u' + 1 := ⟨u - 1, by omega⟩
    have hi6 : i < 6 := by omega
    have k := ih (i + 1) u (by omega) (by omega)
    have es : zqB off f (i + 1) = if off i = true then (if zqB off f i = 6 then i else if f (zqB off f i) ≤ f i then zqB off f i else i) else zqB off f i := rfl
    have hl := zqB_lt off f i
    have ho1 := ho i hi6
    have hs1 := hst i hi6
    rw [← k]
    by_cases q : off i = true
    · rw [q, zb1_t] at ho1
      rw [if_pos q] at es
      by_cases w : zqB off f i = 6
      · rw [if_pos w] at es
        rw [es, w, ze6_6, ze6_n (by omega), fM_X11_drift_45]
        simp (disch := omega) only [fM_X11_drift_94, ho1, ↓zN_eq, zL0, zL1, zL2, zL3, zL4, zL5, zL6, zL7, zL8, zL10, zL16, zL31, zL42, zL63, zL64, zL100, zL200, zL255, zL256, zL1000, zL12345, zL536870912, zI_le, zI_lt, zI_eq, zI_add, zI_sub, zI_mul, zI_neN, zI_Nne, zI_leN, zI_ltN, zI_Nle, zI_Nlt, zI_pred, zI_clamp, zI_div, zI_rem, zin_t, zgd_t, znz_t, if_pos, if_neg, if_true, if_false, Option.bind_some]
      · rw [if_neg w] at es
        have hs2 := hst (zqB off f i) (by omega)
        by_cases y : f (zqB off f i) ≤ f i
        · rw [if_pos y] at es
          rw [es, ze6_n w, fM_X11_drift_45]
          simp (disch := omega) only [fM_X11_drift_94, ho1, h2, hs1, hs2, y, ↓zN_eq, zL0, zL1, zL2, zL3, zL4, zL5, zL6, zL7, zL8, zL10, zL16, zL31, zL42, zL63, zL64, zL100, zL200, zL255, zL256, zL1000, zL12345, zL536870912, zI_le, zI_lt, zI_eq, zI_add, zI_sub, zI_mul, zI_neN, zI_Nne, zI_leN, zI_ltN, zI_Nle, zI_Nlt, zI_pred, zI_clamp, zI_div, zI_rem, zin_t, zgd_t, znz_t, if_pos, if_neg, if_true, if_false, Option.bind_some]
        · rw [if_neg y] at es
          rw [es, ze6_n w, ze6_n (by omega), fM_X11_drift_45]
          simp (disch := omega) only [fM_X11_drift_94, ho1, h2, hs1, hs2, y, ↓zN_eq, zL0, zL1, zL2, zL3, zL4, zL5, zL6, zL7, zL8, zL10, zL16, zL31, zL42, zL63, zL64, zL100, zL200, zL255, zL256, zL1000, zL12345, zL536870912, zI_le, zI_lt, zI_eq, zI_add, zI_sub, zI_mul, zI_neN, zI_Nne, zI_leN, zI_ltN, zI_Nle, zI_Nlt, zI_pred, zI_clamp, zI_div, zI_rem, zin_t, zgd_t, znz_t, if_pos, if_neg, if_true, if_false, Option.bind_some]
    · rw [Bool.eq_false_iff.mpr q, zb1_f] at ho1
      rw [if_neg q] at es
      rw [es, fM_X11_drift_45]
      simp (disch := omega) only [ho1, ↓zN_eq, zL0, zL1, zL2, zL3, zL4, zL5, zL6, zL7, zL8, zL10, zL16, zL31, zL42, zL63, zL64, zL100, zL200, zL255, zL256, zL1000, zL12345, zL536870912, zI_le, zI_lt, zI_eq, zI_add, zI_sub, zI_mul, zI_neN, zI_Nne, zI_leN, zI_ltN, zI_Nle, zI_Nlt, zI_pred, zI_clamp, zI_div, zI_rem, zin_t, zgd_t, znz_t, if_pos, if_neg, if_true, if_false, Option.bind_some]
theorem zt_drift {SX SM : zSt} (h : zTp SX SM) (x1 x2 x3 : Int32) : ∃ r SM', fX_X10_drift x1 x2 x3 SX = some r ∧ fM_X11_drift x1 x2 x3 SM = some (r, SM') ∧ zTp SX SM' := by
  obtain ⟨kd, ky, N, gu, ac, fe, ea, hb, hX, hM⟩ := h
  have hM7 := zMT2_7 (v := nI 0) hM
  have mk : ∀ S', zMT2 S' kd ky N gu ac fe ea → zTp SX S' := fun S' h' => ⟨kd, ky, N, gu, ac, fe, ea, hb, hX, h'⟩
  obtain ⟨S', e, hM', hD⟩ := zMT2_do hM7
  have hN := hX.1.2.1
  have h0 := hX.1.1
  have h2 := hM.1.1
  have hS := hX.1.2.2.2.2.2.2.2
  rcases zcs x1 with q | ⟨j, hj, rfl⟩
  · refine ⟨zN, zsI SM 7 (nI 0), ?_, ?_, mk _ hM7⟩
    · simp (disch := omega) only [fX_X10_drift, pX_isShelf_n q, ↓zN_eq, zL0, zL1, zL2, zL3, zL4, zL5, zL6, zL7, zL8, zL10, zL16, zL31, zL42, zL63, zL64, zL100, zL200, zL255, zL256, zL1000, zL12345, zL536870912, zI_le, zI_lt, zI_eq, zI_add, zI_sub, zI_mul, zI_neN, zI_Nne, zI_leN, zI_ltN, zI_Nle, zI_Nlt, zI_pred, zI_clamp, zI_div, zI_rem, zin_t, zgd_t, znz_t, if_pos, if_neg, if_true, if_false, Option.bind_some]
    · simp (disch := omega) only [fM_X11_drift, pM_isShelf_n q, ↓zN_eq, zL0, zL1, zL2, zL3, zL4, zL5, zL6, zL7, zL8, zL10, zL16, zL31, zL42, zL63, zL64, zL100, zL200, zL255, zL256, zL1000, zL12345, zL536870912, zI_le, zI_lt, zI_eq, zI_add, zI_sub, zI_mul, zI_neN, zI_Nne, zI_leN, zI_ltN, zI_Nle, zI_Nlt, zI_pred, zI_clamp, zI_div, zI_rem, zin_t, zgd_t, znz_t, if_pos, if_neg, if_true, if_false, Option.bind_some]
  · by_cases w : j < 6
    · have c1 := pX_isShelf_t (S := SX) w
      have c2 := pM_isShelf_t (S := zsI SM 7 (nI 0)) w
      rcases zcs x2 with q | ⟨n, hn, rfl⟩
      · obtain ⟨n1, n2, n3, n4, n5⟩ := zneg q
        refine ⟨zN, zsI SM 7 (nI 0), ?_, ?_, mk _ hM7⟩
        · simp (disch := omega) only [fX_X10_drift, c1, n5, ↓zN_eq, zL0, zL1, zL2, zL3, zL4, zL5, zL6, zL7, zL8, zL10, zL16, zL31, zL42, zL63, zL64, zL100, zL200, zL255, zL256, zL1000, zL12345, zL536870912, zI_le, zI_lt, zI_eq, zI_add, zI_sub, zI_mul, zI_neN, zI_Nne, zI_leN, zI_ltN, zI_Nle, zI_Nlt, zI_pred, zI_clamp, zI_div, zI_rem, zin_t, zgd_t, znz_t, if_pos, if_neg, if_true, if_false, Option.bind_some]
        · simp (disch := omega) only [fM_X11_drift, c2, pM_in_n q, ↓zN_eq, zL0, zL1, zL2, zL3, zL4, zL5, zL6, zL7, zL8, zL10, zL16, zL31, zL42, zL63, zL64, zL100, zL200, zL255, zL256, zL1000, zL12345, zL536870912, zI_le, zI_lt, zI_eq, zI_add, zI_sub, zI_mul, zI_neN, zI_Nne, zI_leN, zI_ltN, zI_Nle, zI_Nlt, zI_pred, zI_clamp, zI_div, zI_rem, zin_t, zgd_t, znz_t, if_pos, if_neg, if_true, if_false, Option.bind_some]
      · by_cases y : 1 ≤ n ∧ n ≤ N
        · have c3 := pM_in_t (S := zsI SM 7 (nI 0)) (lo := 1) hn (show N < 2147483648 by omega) y.1 y.2
          rcases zcs x3 with q | ⟨b, hb3, rfl⟩
          · obtain ⟨n1, n2, n3, n4, n5⟩ := zneg q
            refine ⟨zN, zsI SM 7 (nI 0), ?_, ?_, mk _ hM7⟩
            · simp (disch := omega) only [fX_X10_drift, c1, h0, n5, ↓zN_eq, zL0, zL1, zL2, zL3, zL4, zL5, zL6, zL7, zL8, zL10, zL16, zL31, zL42, zL63, zL64, zL100, zL200, zL255, zL256, zL1000, zL12345, zL536870912, zI_le, zI_lt, zI_eq, zI_add, zI_sub, zI_mul, zI_neN, zI_Nne, zI_leN, zI_ltN, zI_Nle, zI_Nlt, zI_pred, zI_clamp, zI_div, zI_rem, zin_t, zgd_t, znz_t, if_pos, if_neg, if_true, if_false, Option.bind_some]
            · simp (disch := omega) only [fM_X11_drift, c2, h2, c3, pM_in_n q, ↓zN_eq, zL0, zL1, zL2, zL3, zL4, zL5, zL6, zL7, zL8, zL10, zL16, zL31, zL42, zL63, zL64, zL100, zL200, zL255, zL256, zL1000, zL12345, zL536870912, zI_le, zI_lt, zI_eq, zI_add, zI_sub, zI_mul, zI_neN, zI_Nne, zI_leN, zI_ltN, zI_Nle, zI_Nlt, zI_pred, zI_clamp, zI_div, zI_rem, zin_t, zgd_t, znz_t, if_pos, if_neg, if_true, if_false, Option.bind_some]
          · by_cases z : b ≤ 1
            · have c4 := pM_in_t (S := zsI SM 7 (nI 0)) (lo := 0) hb3 (show 1 < 2147483648 by omega) (by omega) z
              obtain ⟨f, hf⟩ : ∃ f : Nat → Int32, f = fun s => zqS (zqC kd ky s) (N - (N - n)) (N - n) (nI 0) := ⟨_, rfl⟩
              have hfX : ∀ s, s < 6 → fX_d_stepsSince s (nI (N - n)) SX = some (f s) := fun s hs => by rw [hf]; exact pX_dsince hs hN (hS s hs) (by omega)
              have hfM : ∀ s, s < 6 → fM_X11_stepsOf (nI s) (nI (N - n)) S' = some (f s) := fun s hs => by rw [hf]; exact pM_stepsOf hN hs hM'.1.1 (fun t ht => hD.2.2.2.1 t ht s hs) (by omega)
              have kX := pX_cheap (S := SX) (m := zqM gu ac (zqF kd N 0)) (off := zpO kd N gu ac) (fun s hs => pX_isOff hb.1 hb.2.1 hs) hfX
              have kM := pM_drift_45 (x3 := nI b) (j := j) (n := n) w hN y.2 hM'.1.1 (fun s hs => zMT2_off hM' hb.1 hb.2.1 hs) hfM 6 0 1000 (by omega) (by omega)
              have kM' : fM_X11_drift_45 1000 (nI j) (nI n) (nI b) zN (nI 0) S' = _ := kM
              have kO := zXT_off hX hb.1 hb.2.1
              have hl := zqB_lt (zpO kd N gu ac) f 6
              refine ⟨if zqB (zpO kd N gu ac) f 6 = 6 then zN else if nI b = 0 then nI (zqB (zpO kd N gu ac) f 6) else zqD f j (zqB (zpO kd N gu ac) f 6), S', ?_, ?_, mk _ hM'⟩
              · have kXX : fX_X10_drift (nI j) (nI n) (nI b) SX = (if ze6 (zqB (zpO kd N gu ac) f 6) = zN then some (ze6 (zqB (zpO kd N gu ac) f 6)) else if b = 0 then some (ze6 (zqB (zpO kd N gu ac) f 6)) else fX_X10_drift_70 j (nI (N - n)) (ze6 (zqB (zpO kd N gu ac) f 6)) SX) := by
                  simp (disch := omega) only [fX_X10_drift, c1, h0, kO, kX, ↓zN_eq, zL0, zL1, zL2, zL3, zL4, zL5, zL6, zL7, zL8, zL10, zL16, zL31, zL42, zL63, zL64, zL100, zL200, zL255, zL256, zL1000, zL12345, zL536870912, zI_le, zI_lt, zI_eq, zI_add, zI_sub, zI_mul, zI_neN, zI_Nne, zI_leN, zI_ltN, zI_Nle, zI_Nlt, zI_pred, zI_clamp, zI_div, zI_rem, zin_t, zgd_t, znz_t, if_pos, if_neg, if_true, if_false, Option.bind_some]
                rw [kXX]
                by_cases u : zqB (zpO kd N gu ac) f 6 = 6
                · rw [u, ze6_6, if_pos rfl, if_pos rfl]
                · rw [ze6_n u, if_neg (by rw [zI_neN (by omega)]; exact fun h => h), if_neg u]
                  by_cases v : b = 0
                  · rw [if_pos v, v, if_pos (show nI 0 = (0 : Int32) by decide)]
                  · rw [if_neg v, if_neg (show ¬ nI b = 0 by rw [zL0, zI_eq (by omega) (by omega)]; exact v)]
                    unfold fX_X10_drift_70 fX_X10_drift_75
                    rw [hfX j w, Option.bind_some, zin_t (show zqB (zpO kd N gu ac) f 6 < 6 by omega) (by omega), zgd_t, zI_clamp (by omega)]
                    unfold fX_X10_drift_86
                    rw [hfX _ (show zqB (zpO kd N gu ac) f 6 < 6 by omega), Option.bind_some]
                    unfold fX_X10_drift_91 zqD
                    by_cases g : f j = 0
                    · rw [if_pos g, if_pos g]
                    · rw [if_neg g, if_neg g, show znz (f j) = true from decide_eq_true g, zgd_t]
              · have kMM : fM_X11_drift (nI j) (nI n) (nI b) SM = fM_X11_drift_45 1000 (nI j) (nI n) (nI b) zN (nI 0) S' := by
                  unfold fM_X11_drift
                  rw [zN_eq, zL0, zL1, c2, Option.bind_some, if_neg (show ¬ nI 1 = nI 0 by decide), h2, c3, Option.bind_some, if_neg (show ¬ nI 1 = nI 0 by decide), c4, Option.bind_some, if_neg (show ¬ nI 1 = nI 0 by decide), e, Option.bind_some]
                rw [kMM, kM']
            · have c4 := pM_in_f (S := zsI SM 7 (nI 0)) (lo := 0) (hi := 1) hb3 (by omega) (by omega) (by omega)
              refine ⟨zN, zsI SM 7 (nI 0), ?_, ?_, mk _ hM7⟩
              · simp (disch := omega) only [fX_X10_drift, c1, h0, ↓zN_eq, zL0, zL1, zL2, zL3, zL4, zL5, zL6, zL7, zL8, zL10, zL16, zL31, zL42, zL63, zL64, zL100, zL200, zL255, zL256, zL1000, zL12345, zL536870912, zI_le, zI_lt, zI_eq, zI_add, zI_sub, zI_mul, zI_neN, zI_Nne, zI_leN, zI_ltN, zI_Nle, zI_Nlt, zI_pred, zI_clamp, zI_div, zI_rem, zin_t, zgd_t, znz_t, if_pos, if_neg, if_true, if_false, Option.bind_some]
              · simp (disch := omega) only [fM_X11_drift, c2, h2, c3, c4, ↓zN_eq, zL0, zL1, zL2, zL3, zL4, zL5, zL6, zL7, zL8, zL10, zL16, zL31, zL42, zL63, zL64, zL100, zL200, zL255, zL256, zL1000, zL12345, zL536870912, zI_le, zI_lt, zI_eq, zI_add, zI_sub, zI_mul, zI_neN, zI_Nne, zI_leN, zI_ltN, zI_Nle, zI_Nlt, zI_pred, zI_clamp, zI_div, zI_rem, zin_t, zgd_t, znz_t, if_pos, if_neg, if_true, if_false, Option.bind_some]
        · have c3 := pM_in_f (S := zsI SM 7 (nI 0)) (lo := 1) (hi := N) hn (by omega) (by omega) (by omega)
          refine ⟨zN, zsI SM 7 (nI 0), ?_, ?_, mk _ hM7⟩
          · by_cases u : n < 1
            · simp (disch := omega) only [fX_X10_drift, c1, h0, ↓zN_eq, zL0, zL1, zL2, zL3, zL4, zL5, zL6, zL7, zL8, zL10, zL16, zL31, zL42, zL63, zL64, zL100, zL200, zL255, zL256, zL1000, zL12345, zL536870912, zI_le, zI_lt, zI_eq, zI_add, zI_sub, zI_mul, zI_neN, zI_Nne, zI_leN, zI_ltN, zI_Nle, zI_Nlt, zI_pred, zI_clamp, zI_div, zI_rem, zin_t, zgd_t, znz_t, if_pos, if_neg, if_true, if_false, Option.bind_some]
            · simp (disch := omega) only [fX_X10_drift, c1, h0, ↓zN_eq, zL0, zL1, zL2, zL3, zL4, zL5, zL6, zL7, zL8, zL10, zL16, zL31, zL42, zL63, zL64, zL100, zL200, zL255, zL256, zL1000, zL12345, zL536870912, zI_le, zI_lt, zI_eq, zI_add, zI_sub, zI_mul, zI_neN, zI_Nne, zI_leN, zI_ltN, zI_Nle, zI_Nlt, zI_pred, zI_clamp, zI_div, zI_rem, zin_t, zgd_t, znz_t, if_pos, if_neg, if_true, if_false, Option.bind_some]
          · simp (disch := omega) only [fM_X11_drift, c2, h2, c3, ↓zN_eq, zL0, zL1, zL2, zL3, zL4, zL5, zL6, zL7, zL8, zL10, zL16, zL31, zL42, zL63, zL64, zL100, zL200, zL255, zL256, zL1000, zL12345, zL536870912, zI_le, zI_lt, zI_eq, zI_add, zI_sub, zI_mul, zI_neN, zI_Nne, zI_leN, zI_ltN, zI_Nle, zI_Nlt, zI_pred, zI_clamp, zI_div, zI_rem, zin_t, zgd_t, znz_t, if_pos, if_neg, if_true, if_false, Option.bind_some]
    · have c1 := pX_isShelf_f (S := SX) (show 6 ≤ j by omega) hj
      have c2 := pM_isShelf_f (S := zsI SM 7 (nI 0)) (show 6 ≤ j by omega) hj
      refine ⟨zN, zsI SM 7 (nI 0), ?_, ?_, mk _ hM7⟩
      · simp (disch := omega) only [fX_X10_drift, c1, ↓zN_eq, zL0, zL1, zL2, zL3, zL4, zL5, zL6, zL7, zL8, zL10, zL16, zL31, zL42, zL63, zL64, zL100, zL200, zL255, zL256, zL1000, zL12345, zL536870912, zI_le, zI_lt, zI_eq, zI_add, zI_sub, zI_mul, zI_neN, zI_Nne, zI_leN, zI_ltN, zI_Nle, zI_Nlt, zI_pred, zI_clamp, zI_div, zI_rem, zin_t, zgd_t, znz_t, if_pos, if_neg, if_true, if_false, Option.bind_some]
      · simp (disch := omega) only [fM_X11_drift, c2, ↓zN_eq, zL0, zL1, zL2, zL3, zL4, zL5, zL6, zL7, zL8, zL10, zL16, zL31, zL42, zL63, zL64, zL100, zL200, zL255, zL256, zL1000, zL12345, zL536870912, zI_le, zI_lt, zI_eq, zI_add, zI_sub, zI_mul, zI_neN, zI_Nne, zI_leN, zI_ltN, zI_Nle, zI_Nlt, zI_pred, zI_clamp, zI_div, zI_rem, zin_t, zgd_t, znz_t, if_pos, if_neg, if_true, if_false, Option.bind_some]

/-! the plan by numbers; what holds between two calls of the law -/
def zpB (off : Nat → Bool) (f : Nat → Nat) : Nat → Nat
  | 0 => 6
  | r + 1 => if off r = true then (if zpB off f r = 6 then r else if f (zpB off f r) ≤ f r then zpB off f r else r) else zpB off f r
def zpF (P : Nat → Nat × Nat) (mv s t : Nat) : Nat := 256 * ((P t).1 + (if s = t then 0 else mv)) + ((P t).2 + (if s = t then 0 else 1))
def zpS (off : Nat → Bool) (P : Nat → Nat × Nat) (ci mv s : Nat) : Nat × Nat := if zpB off (zpF P mv s) 6 = 6 then (ci, 0) else (ci + (P (zpB off (zpF P mv s) 6)).1 + (if s = zpB off (zpF P mv s) 6 then 0 else mv), (P (zpB off (zpF P mv s) 6)).2 + (if s = zpB off (zpF P mv s) 6 then 0 else 1))
def zpP (off : Nat → Bool) (c : Nat → Nat → Nat) (mv : Nat → Nat) (N : Nat) : Nat → Nat → Nat × Nat
  | 0, _ => (0, 0)
  | k + 1, s => if k = 0 then (c (N - 1) s, 0) else zpS off (zpP off c mv N k) (c (N - (k + 1)) s) (mv (N - (k + 1))) s
def zpW (p : Nat × Nat) : Nat := 256 * p.1 + p.2
def zpV (kd ky : Nat → Nat) (fe ea i : Nat) : Nat := fe + ea * zaN (zA kd ky (i + 1))
def zpC (kd ky : Nat → Nat) (i s : Nat) : Nat := zac s (kd i) (ky i) (zA kd ky i)
def zpO (kd : Nat → Nat) (N gu ac : Nat) : Nat → Bool := zqO gu ac (zqF kd N 0)
def zpQ (kd ky : Nat → Nat) (N gu ac fe ea : Nat) : Nat → Nat → Nat × Nat := zpP (zpO kd N gu ac) (zpC kd ky) (zpV kd ky fe ea) N
def zp1 (kd ky : Nat → Nat) (N gu ac fe ea : Nat) : Nat := zpB (zpO kd N gu ac) (fun s => zpW (zpQ kd ky N gu ac fe ea N s)) 6
def zpX (kd ky : Nat → Nat) (N gu ac fe ea : Nat) : Nat → Nat
  | 0 => zp1 kd ky N gu ac fe ea
  | i + 1 => zpB (zpO kd N gu ac) (zpF (zpQ kd ky N gu ac fe ea (N - (i + 1))) (zpV kd ky fe ea i) (zpX kd ky N gu ac fe ea i)) 6
def zpT (kd ky : Nat → Nat) (N gu ac fe ea : Nat) : Nat := if N = 0 ∨ zp1 kd ky N gu ac fe ea = 6 then 0 else zpW (zpQ kd ky N gu ac fe ea N (zp1 kd ky N gu ac fe ea))
/-- the class's plan is up to date -/
def zPL (S : zSt) (kd ky : Nat → Nat) (N gu ac fe ea : Nat) : Prop := S.1 10 = nI (zpT kd ky N gu ac fe ea) ∧ (zp1 kd ky N gu ac fe ea ≠ 6 → ∀ i, i < N → S.2 32 i = nI (zpX kd ky N gu ac fe ea i))
def zXT (S : zSt) (kd ky : Nat → Nat) (N gu ac fe ea : Nat) : Prop := zXI S kd ky N ∧ S.1 1 = nI gu ∧ S.1 2 = nI ac ∧ S.1 3 = nI fe ∧ S.1 4 = nI ea ∧ (S.1 5 = nI 0 ∨ (S.1 5 = nI 1 ∧ zPL S kd ky N gu ac fe ea))
def zMT2 (S : zSt) (kd ky : Nat → Nat) (N gu ac fe ea : Nat) : Prop := zMT S kd ky N ∧ S.1 3 = nI gu ∧ S.1 4 = nI ac ∧ S.1 5 = nI fe ∧ S.1 6 = nI ea
def zTp (SX SM : zSt) : Prop := ∃ kd ky N gu ac fe ea, (gu ≤ 1 ∧ ac ≤ 1 ∧ fe ≤ 1000 ∧ ea ≤ 1000) ∧ zXT SX kd ky N gu ac fe ea ∧ zMT2 SM kd ky N gu ac fe ea
theorem zMD_cg {S S' : zSt} {kd ky : Nat → Nat} {N : Nat} (h : zMD S kd ky N) (hi : ∀ k, k ∈ [18, 21, 22, 25] → S'.1 k = S.1 k) (hr : ∀ k, k ∈ [9, 10, 11, 12, 13, 14, 15, 16, 17, 19, 20, 23, 24] → S'.2 k = S.2 k) : zMD S' kd ky N := by
  obtain ⟨a, b, c, d, e, f⟩ := h
  refine ⟨zMR_cg a hi (fun k hk => hr k (by
    simp only [List.mem_cons, List.not_mem_nil, or_false] at hk ⊢
    omega)), ?_, ?_, ?_, ?_, ?_⟩
  · rw [hr 9 (by decide)]; exact b
  · rw [hr 10 (by decide)]; exact c
  · rw [hr 11 (by decide)]; exact d
  · rw [hr 12 (by decide)]; exact e
  · rw [hr 13 (by decide)]; exact f
theorem zMT2_cg {S S' : zSt} {kd ky : Nat → Nat} {N gu ac fe ea : Nat} (h : zMT2 S kd ky N gu ac fe ea) (hi : ∀ k, k ∈ [2, 3, 4, 5, 6, 8, 18, 21, 22, 25] → S'.1 k = S.1 k) (hr : ∀ k, k ∈ [0, 1, 9, 10, 11, 12, 13, 14, 15, 16, 17, 19, 20, 23, 24] → S'.2 k = S.2 k) : zMT2 S' kd ky N gu ac fe ea := by
  obtain ⟨⟨a1, a2, a3, a4, a5, a6⟩, b, c, d, e⟩ := h
  refine ⟨⟨(hi 2 (by decide)).trans a1, a2, by rw [hr 0 (by decide)]; exact a3, by rw [hr 1 (by decide)]; exact a4, a5, ?_⟩, (hi 3 (by decide)).trans b, (hi 4 (by decide)).trans c, (hi 5 (by decide)).trans d, (hi 6 (by decide)).trans e⟩
  rcases a6 with q | ⟨q1, q2⟩
  · exact Or.inl ((hi 8 (by decide)).trans q)
  · exact Or.inr ⟨(hi 8 (by decide)).trans q1, zMD_cg q2 (fun k hk => hi k (by
      simp only [List.mem_cons, List.not_mem_nil, or_false] at hk ⊢
      omega)) (fun k hk => hr k (by
      simp only [List.mem_cons, List.not_mem_nil, or_false] at hk ⊢
      omega))⟩
theorem zMT2_7 {S : zSt} {kd ky : Nat → Nat} {N gu ac fe ea : Nat} {v : Int32} (h : zMT2 S kd ky N gu ac fe ea) : zMT2 (zsI S 7 v) kd ky N gu ac fe ea := zMT2_cg h (fun k hk => by rw [zsI_1, if_neg (fun e => by rw [e] at hk; exact absurd hk (by decide))]) (fun _ _ => rfl)
theorem zMT2_do {S : zSt} {kd ky : Nat → Nat} {N gu ac fe ea : Nat} (h : zMT2 S kd ky N gu ac fe ea) : ∃ S', fM_X11_doAll S = some S' ∧ zMT2 S' kd ky N gu ac fe ea ∧ zMD S' kd ky N := by
  obtain ⟨a, b, c, d, e⟩ := h
  obtain ⟨S', f1, f2, f3, f4, f5⟩ := pM_doAll a
  exact ⟨S', f1, ⟨f3, (f5.1 3 (by decide)).trans b, (f5.1 4 (by decide)).trans c, (f5.1 5 (by decide)).trans d, (f5.1 6 (by decide)).trans e⟩, f4⟩
theorem zMT2_off {S : zSt} {kd ky : Nat → Nat} {N gu ac fe ea j : Nat} (h : zMT2 S kd ky N gu ac fe ea) (hgu : gu ≤ 1) (hac : ac ≤ 1) (hj : j < 6) : fM_X11_isOffered (nI j) S = some (nI (zb1 (zpO kd N gu ac j))) := by
  obtain ⟨⟨a1, a2, a3, a4, a5, a6⟩, b, c, d, e⟩ := h
  exact pM_isOffered hgu hac hj b c (pM_hasFirst a2 a1 a3 (fun t ht => (a5 t ht).1))
theorem zXT_first {S : zSt} {kd ky : Nat → Nat} {N gu ac fe ea : Nat} (h : zXT S kd ky N gu ac fe ea) : fX_X10_asksFirst S = some (nI (zb1 (zqF kd N 0))) := by
  obtain ⟨⟨a1, a2, a3, a4, a5, a6⟩, _⟩ := h
  exact pX_asksFirst a2 a1 a3 (fun t ht => (a5 t ht).1)
theorem zXT_off {S : zSt} {kd ky : Nat → Nat} {N gu ac fe ea : Nat} (h : zXT S kd ky N gu ac fe ea) (hgu : gu ≤ 1) (hac : ac ≤ 1) : fX_X10_offered S = some (zqM gu ac (zqF kd N 0)) := pX_offered hgu hac h.2.1 h.2.2.1 (zXT_first h)
/-! told, cost, sum -/
theorem zt_told {SX SM : zSt} (h : zTp SX SM) (x1 x2 : Int32) : ∃ r SM', fX_X10_told x1 x2 SX = some r ∧ fM_X11_told x1 x2 SM = some (r, SM') ∧ zTp SX SM' := by
  obtain ⟨kd, ky, N, gu, ac, fe, ea, hb, hX, hM⟩ := h
  have hM7 := zMT2_7 (v := nI 0) hM
  have mk : ∀ S', zMT2 S' kd ky N gu ac fe ea → zTp SX S' := fun S' h' => ⟨kd, ky, N, gu, ac, fe, ea, hb, hX, h'⟩
  obtain ⟨S', e, hM', hD⟩ := zMT2_do hM7
  have hN := hX.1.2.1
  have h0 := hX.1.1
  rcases zcs x1 with q | ⟨a, ha, rfl⟩
  · refine ⟨zN, zsI SM 7 (nI 0), ?_, ?_, mk _ hM7⟩
    · simp (disch := omega) only [fX_X10_told, pX_isCall_n q, ↓zN_eq, zL0, zL1, zL2, zL3, zL4, zL5, zL6, zL7, zL8, zL10, zL16, zL31, zL42, zL63, zL64, zL100, zL200, zL255, zL256, zL1000, zL12345, zL536870912, zI_le, zI_lt, zI_eq, zI_add, zI_sub, zI_mul, zI_neN, zI_Nne, zI_leN, zI_ltN, zI_Nle, zI_Nlt, zI_pred, zI_clamp, zI_div, zI_rem, zin_t, zgd_t, znz_t, if_pos, if_neg, if_true, if_false, Option.bind_some]
    · simp (disch := omega) only [fM_X11_told, pM_isCall_n q, ↓zN_eq, zL0, zL1, zL2, zL3, zL4, zL5, zL6, zL7, zL8, zL10, zL16, zL31, zL42, zL63, zL64, zL100, zL200, zL255, zL256, zL1000, zL12345, zL536870912, zI_le, zI_lt, zI_eq, zI_add, zI_sub, zI_mul, zI_neN, zI_Nne, zI_leN, zI_ltN, zI_Nle, zI_Nlt, zI_pred, zI_clamp, zI_div, zI_rem, zin_t, zgd_t, znz_t, if_pos, if_neg, if_true, if_false, Option.bind_some]
  · by_cases w : a < N
    · have c1 := pX_isCall_t h0 hN w
      have c2 := pM_isCall_t hM7.1.1 hN w
      rcases zcs x2 with q | ⟨b, hb2, rfl⟩
      · obtain ⟨n1, n2, n3, n4, n5⟩ := zneg q
        refine ⟨zN, zsI SM 7 (nI 0), ?_, ?_, mk _ hM7⟩
        · simp (disch := omega) only [fX_X10_told, c1, n3, ↓zN_eq, zL0, zL1, zL2, zL3, zL4, zL5, zL6, zL7, zL8, zL10, zL16, zL31, zL42, zL63, zL64, zL100, zL200, zL255, zL256, zL1000, zL12345, zL536870912, zI_le, zI_lt, zI_eq, zI_add, zI_sub, zI_mul, zI_neN, zI_Nne, zI_leN, zI_ltN, zI_Nle, zI_Nlt, zI_pred, zI_clamp, zI_div, zI_rem, zin_t, zgd_t, znz_t, if_pos, if_neg, if_true, if_false, Option.bind_some]
        · simp (disch := omega) only [fM_X11_told, c2, pM_in_n q, ↓zN_eq, zL0, zL1, zL2, zL3, zL4, zL5, zL6, zL7, zL8, zL10, zL16, zL31, zL42, zL63, zL64, zL100, zL200, zL255, zL256, zL1000, zL12345, zL536870912, zI_le, zI_lt, zI_eq, zI_add, zI_sub, zI_mul, zI_neN, zI_Nne, zI_leN, zI_ltN, zI_Nle, zI_Nlt, zI_pred, zI_clamp, zI_div, zI_rem, zin_t, zgd_t, znz_t, if_pos, if_neg, if_true, if_false, Option.bind_some]
      · by_cases y : b ≤ 2
        · have c3 := pM_in_t (S := zsI SM 7 (nI 0)) (lo := 0) hb2 (show 2 < 2147483648 by omega) (by omega) y
          have y3 : b = 0 ∨ b = 1 ∨ b = 2 := by omega
          rcases y3 with rfl | rfl | rfl
          · have v1 := hX.1.2.2.1 a w
            have v2 := hM'.1.2.2.1 a w
            refine ⟨nI (kd a), S', ?_, ?_, mk _ hM'⟩
            · simp (disch := omega) only [fX_X10_told, c1, v1, ↓zN_eq, zL0, zL1, zL2, zL3, zL4, zL5, zL6, zL7, zL8, zL10, zL16, zL31, zL42, zL63, zL64, zL100, zL200, zL255, zL256, zL1000, zL12345, zL536870912, zI_le, zI_lt, zI_eq, zI_add, zI_sub, zI_mul, zI_neN, zI_Nne, zI_leN, zI_ltN, zI_Nle, zI_Nlt, zI_pred, zI_clamp, zI_div, zI_rem, zin_t, zgd_t, znz_t, if_pos, if_neg, if_true, if_false, Option.bind_some]
            · simp (disch := omega) only [fM_X11_told, c2, c3, e, v2, ↓zN_eq, zL0, zL1, zL2, zL3, zL4, zL5, zL6, zL7, zL8, zL10, zL16, zL31, zL42, zL63, zL64, zL100, zL200, zL255, zL256, zL1000, zL12345, zL536870912, zI_le, zI_lt, zI_eq, zI_add, zI_sub, zI_mul, zI_neN, zI_Nne, zI_leN, zI_ltN, zI_Nle, zI_Nlt, zI_pred, zI_clamp, zI_div, zI_rem, zin_t, zgd_t, znz_t, if_pos, if_neg, if_true, if_false, Option.bind_some]
          · have v1 := hX.1.2.2.2.1 a w
            have v2 := hM'.1.2.2.2.1 a w
            refine ⟨nI (ky a), S', ?_, ?_, mk _ hM'⟩
            · simp (disch := omega) only [fX_X10_told, c1, v1, ↓zN_eq, zL0, zL1, zL2, zL3, zL4, zL5, zL6, zL7, zL8, zL10, zL16, zL31, zL42, zL63, zL64, zL100, zL200, zL255, zL256, zL1000, zL12345, zL536870912, zI_le, zI_lt, zI_eq, zI_add, zI_sub, zI_mul, zI_neN, zI_Nne, zI_leN, zI_ltN, zI_Nle, zI_Nlt, zI_pred, zI_clamp, zI_div, zI_rem, zin_t, zgd_t, znz_t, if_pos, if_neg, if_true, if_false, Option.bind_some]
            · simp (disch := omega) only [fM_X11_told, c2, c3, e, v2, ↓zN_eq, zL0, zL1, zL2, zL3, zL4, zL5, zL6, zL7, zL8, zL10, zL16, zL31, zL42, zL63, zL64, zL100, zL200, zL255, zL256, zL1000, zL12345, zL536870912, zI_le, zI_lt, zI_eq, zI_add, zI_sub, zI_mul, zI_neN, zI_Nne, zI_leN, zI_ltN, zI_Nle, zI_Nlt, zI_pred, zI_clamp, zI_div, zI_rem, zin_t, zgd_t, znz_t, if_pos, if_neg, if_true, if_false, Option.bind_some]
          · have v1 := hX.1.2.2.2.2.2.2.1 a w
            have v2 := hD.2.2.1 a w
            refine ⟨nI (zaN (zA kd ky (a + 1))), S', ?_, ?_, mk _ hM'⟩
            · simp (disch := omega) only [fX_X10_told, c1, v1, ↓zN_eq, zL0, zL1, zL2, zL3, zL4, zL5, zL6, zL7, zL8, zL10, zL16, zL31, zL42, zL63, zL64, zL100, zL200, zL255, zL256, zL1000, zL12345, zL536870912, zI_le, zI_lt, zI_eq, zI_add, zI_sub, zI_mul, zI_neN, zI_Nne, zI_leN, zI_ltN, zI_Nle, zI_Nlt, zI_pred, zI_clamp, zI_div, zI_rem, zin_t, zgd_t, znz_t, if_pos, if_neg, if_true, if_false, Option.bind_some]
            · simp (disch := omega) only [fM_X11_told, c2, c3, e, v2, ↓zN_eq, zL0, zL1, zL2, zL3, zL4, zL5, zL6, zL7, zL8, zL10, zL16, zL31, zL42, zL63, zL64, zL100, zL200, zL255, zL256, zL1000, zL12345, zL536870912, zI_le, zI_lt, zI_eq, zI_add, zI_sub, zI_mul, zI_neN, zI_Nne, zI_leN, zI_ltN, zI_Nle, zI_Nlt, zI_pred, zI_clamp, zI_div, zI_rem, zin_t, zgd_t, znz_t, if_pos, if_neg, if_true, if_false, Option.bind_some]
        · have c3 := pM_in_f (S := zsI SM 7 (nI 0)) (lo := 0) (hi := 2) hb2 (by omega) (by omega) (by omega)
          refine ⟨zN, zsI SM 7 (nI 0), ?_, ?_, mk _ hM7⟩
          · simp (disch := omega) only [fX_X10_told, c1, ↓zN_eq, zL0, zL1, zL2, zL3, zL4, zL5, zL6, zL7, zL8, zL10, zL16, zL31, zL42, zL63, zL64, zL100, zL200, zL255, zL256, zL1000, zL12345, zL536870912, zI_le, zI_lt, zI_eq, zI_add, zI_sub, zI_mul, zI_neN, zI_Nne, zI_leN, zI_ltN, zI_Nle, zI_Nlt, zI_pred, zI_clamp, zI_div, zI_rem, zin_t, zgd_t, znz_t, if_pos, if_neg, if_true, if_false, Option.bind_some]
          · simp (disch := omega) only [fM_X11_told, c2, c3, ↓zN_eq, zL0, zL1, zL2, zL3, zL4, zL5, zL6, zL7, zL8, zL10, zL16, zL31, zL42, zL63, zL64, zL100, zL200, zL255, zL256, zL1000, zL12345, zL536870912, zI_le, zI_lt, zI_eq, zI_add, zI_sub, zI_mul, zI_neN, zI_Nne, zI_leN, zI_ltN, zI_Nle, zI_Nlt, zI_pred, zI_clamp, zI_div, zI_rem, zin_t, zgd_t, znz_t, if_pos, if_neg, if_true, if_false, Option.bind_some]
    · have c1 := pX_isCall_f h0 hN (show N ≤ a by omega) ha
      have c2 := pM_isCall_f hM7.1.1 hN (show N ≤ a by omega) ha
      refine ⟨zN, zsI SM 7 (nI 0), ?_, ?_, mk _ hM7⟩
      · simp (disch := omega) only [fX_X10_told, c1, ↓zN_eq, zL0, zL1, zL2, zL3, zL4, zL5, zL6, zL7, zL8, zL10, zL16, zL31, zL42, zL63, zL64, zL100, zL200, zL255, zL256, zL1000, zL12345, zL536870912, zI_le, zI_lt, zI_eq, zI_add, zI_sub, zI_mul, zI_neN, zI_Nne, zI_leN, zI_ltN, zI_Nle, zI_Nlt, zI_pred, zI_clamp, zI_div, zI_rem, zin_t, zgd_t, znz_t, if_pos, if_neg, if_true, if_false, Option.bind_some]
      · simp (disch := omega) only [fM_X11_told, c2, ↓zN_eq, zL0, zL1, zL2, zL3, zL4, zL5, zL6, zL7, zL8, zL10, zL16, zL31, zL42, zL63, zL64, zL100, zL200, zL255, zL256, zL1000, zL12345, zL536870912, zI_le, zI_lt, zI_eq, zI_add, zI_sub, zI_mul, zI_neN, zI_Nne, zI_leN, zI_ltN, zI_Nle, zI_Nlt, zI_pred, zI_clamp, zI_div, zI_rem, zin_t, zgd_t, znz_t, if_pos, if_neg, if_true, if_false, Option.bind_some]
theorem zt_cost {SX SM : zSt} (h : zTp SX SM) (x1 x2 : Int32) : ∃ r SM', fX_X10_cost x1 x2 SX = some r ∧ fM_X11_cost x1 x2 SM = some (r, SM') ∧ zTp SX SM' := by
  obtain ⟨kd, ky, N, gu, ac, fe, ea, hb, hX, hM⟩ := h
  have hM7 := zMT2_7 (v := nI 0) hM
  have mk : ∀ S', zMT2 S' kd ky N gu ac fe ea → zTp SX S' := fun S' h' => ⟨kd, ky, N, gu, ac, fe, ea, hb, hX, h'⟩
  obtain ⟨S', e, hM', hD⟩ := zMT2_do hM7
  have hN := hX.1.2.1
  have h0 := hX.1.1
  rcases zcs x1 with q | ⟨j, hj, rfl⟩
  · refine ⟨zN, zsI SM 7 (nI 0), ?_, ?_, mk _ hM7⟩
    · simp (disch := omega) only [fX_X10_cost, pX_isShelf_n q, ↓zN_eq, zL0, zL1, zL2, zL3, zL4, zL5, zL6, zL7, zL8, zL10, zL16, zL31, zL42, zL63, zL64, zL100, zL200, zL255, zL256, zL1000, zL12345, zL536870912, zI_le, zI_lt, zI_eq, zI_add, zI_sub, zI_mul, zI_neN, zI_Nne, zI_leN, zI_ltN, zI_Nle, zI_Nlt, zI_pred, zI_clamp, zI_div, zI_rem, zin_t, zgd_t, znz_t, if_pos, if_neg, if_true, if_false, Option.bind_some]
    · simp (disch := omega) only [fM_X11_cost, pM_isShelf_n q, ↓zN_eq, zL0, zL1, zL2, zL3, zL4, zL5, zL6, zL7, zL8, zL10, zL16, zL31, zL42, zL63, zL64, zL100, zL200, zL255, zL256, zL1000, zL12345, zL536870912, zI_le, zI_lt, zI_eq, zI_add, zI_sub, zI_mul, zI_neN, zI_Nne, zI_leN, zI_ltN, zI_Nle, zI_Nlt, zI_pred, zI_clamp, zI_div, zI_rem, zin_t, zgd_t, znz_t, if_pos, if_neg, if_true, if_false, Option.bind_some]
  · by_cases w : j < 6
    · have c1 := pX_isShelf_t (S := SX) w
      have c2 := pM_isShelf_t (S := zsI SM 7 (nI 0)) w
      rcases zcs x2 with q | ⟨i, hi, rfl⟩
      · refine ⟨zN, zsI SM 7 (nI 0), ?_, ?_, mk _ hM7⟩
        · simp (disch := omega) only [fX_X10_cost, c1, pX_isCall_n q, ↓zN_eq, zL0, zL1, zL2, zL3, zL4, zL5, zL6, zL7, zL8, zL10, zL16, zL31, zL42, zL63, zL64, zL100, zL200, zL255, zL256, zL1000, zL12345, zL536870912, zI_le, zI_lt, zI_eq, zI_add, zI_sub, zI_mul, zI_neN, zI_Nne, zI_leN, zI_ltN, zI_Nle, zI_Nlt, zI_pred, zI_clamp, zI_div, zI_rem, zin_t, zgd_t, znz_t, if_pos, if_neg, if_true, if_false, Option.bind_some]
        · simp (disch := omega) only [fM_X11_cost, c2, pM_isCall_n q, ↓zN_eq, zL0, zL1, zL2, zL3, zL4, zL5, zL6, zL7, zL8, zL10, zL16, zL31, zL42, zL63, zL64, zL100, zL200, zL255, zL256, zL1000, zL12345, zL536870912, zI_le, zI_lt, zI_eq, zI_add, zI_sub, zI_mul, zI_neN, zI_Nne, zI_leN, zI_ltN, zI_Nle, zI_Nlt, zI_pred, zI_clamp, zI_div, zI_rem, zin_t, zgd_t, znz_t, if_pos, if_neg, if_true, if_false, Option.bind_some]
      · by_cases y : i < N
        · have c3 := pX_isCall_t h0 hN y
          have c4 := pM_isCall_t hM7.1.1 hN y
          have v1 := (hX.1.2.2.2.2.2.2.2 j w).2.2.1 i y
          have v2 := hD.2.2.2.1 i y j w
          refine ⟨nI (zac j (kd i) (ky i) (zA kd ky i)), S', ?_, ?_, mk _ hM'⟩
          · simp (disch := omega) only [fX_X10_cost, c1, c3, v1, ↓zN_eq, zL0, zL1, zL2, zL3, zL4, zL5, zL6, zL7, zL8, zL10, zL16, zL31, zL42, zL63, zL64, zL100, zL200, zL255, zL256, zL1000, zL12345, zL536870912, zI_le, zI_lt, zI_eq, zI_add, zI_sub, zI_mul, zI_neN, zI_Nne, zI_leN, zI_ltN, zI_Nle, zI_Nlt, zI_pred, zI_clamp, zI_div, zI_rem, zin_t, zgd_t, znz_t, if_pos, if_neg, if_true, if_false, Option.bind_some]
          · simp (disch := omega) only [fM_X11_cost, c2, c4, e, v2, ↓zN_eq, zL0, zL1, zL2, zL3, zL4, zL5, zL6, zL7, zL8, zL10, zL16, zL31, zL42, zL63, zL64, zL100, zL200, zL255, zL256, zL1000, zL12345, zL536870912, zI_le, zI_lt, zI_eq, zI_add, zI_sub, zI_mul, zI_neN, zI_Nne, zI_leN, zI_ltN, zI_Nle, zI_Nlt, zI_pred, zI_clamp, zI_div, zI_rem, zin_t, zgd_t, znz_t, if_pos, if_neg, if_true, if_false, Option.bind_some]
        · have c3 := pX_isCall_f h0 hN (show N ≤ i by omega) hi
          have c4 := pM_isCall_f hM7.1.1 hN (show N ≤ i by omega) hi
          refine ⟨zN, zsI SM 7 (nI 0), ?_, ?_, mk _ hM7⟩
          · simp (disch := omega) only [fX_X10_cost, c1, c3, ↓zN_eq, zL0, zL1, zL2, zL3, zL4, zL5, zL6, zL7, zL8, zL10, zL16, zL31, zL42, zL63, zL64, zL100, zL200, zL255, zL256, zL1000, zL12345, zL536870912, zI_le, zI_lt, zI_eq, zI_add, zI_sub, zI_mul, zI_neN, zI_Nne, zI_leN, zI_ltN, zI_Nle, zI_Nlt, zI_pred, zI_clamp, zI_div, zI_rem, zin_t, zgd_t, znz_t, if_pos, if_neg, if_true, if_false, Option.bind_some]
          · simp (disch := omega) only [fM_X11_cost, c2, c4, ↓zN_eq, zL0, zL1, zL2, zL3, zL4, zL5, zL6, zL7, zL8, zL10, zL16, zL31, zL42, zL63, zL64, zL100, zL200, zL255, zL256, zL1000, zL12345, zL536870912, zI_le, zI_lt, zI_eq, zI_add, zI_sub, zI_mul, zI_neN, zI_Nne, zI_leN, zI_ltN, zI_Nle, zI_Nlt, zI_pred, zI_clamp, zI_div, zI_rem, zin_t, zgd_t, znz_t, if_pos, if_neg, if_true, if_false, Option.bind_some]
    · have c1 := pX_isShelf_f (S := SX) (show 6 ≤ j by omega) hj
      have c2 := pM_isShelf_f (S := zsI SM 7 (nI 0)) (show 6 ≤ j by omega) hj
      refine ⟨zN, zsI SM 7 (nI 0), ?_, ?_, mk _ hM7⟩
      · simp (disch := omega) only [fX_X10_cost, c1, ↓zN_eq, zL0, zL1, zL2, zL3, zL4, zL5, zL6, zL7, zL8, zL10, zL16, zL31, zL42, zL63, zL64, zL100, zL200, zL255, zL256, zL1000, zL12345, zL536870912, zI_le, zI_lt, zI_eq, zI_add, zI_sub, zI_mul, zI_neN, zI_Nne, zI_leN, zI_ltN, zI_Nle, zI_Nlt, zI_pred, zI_clamp, zI_div, zI_rem, zin_t, zgd_t, znz_t, if_pos, if_neg, if_true, if_false, Option.bind_some]
      · simp (disch := omega) only [fM_X11_cost, c2, ↓zN_eq, zL0, zL1, zL2, zL3, zL4, zL5, zL6, zL7, zL8, zL10, zL16, zL31, zL42, zL63, zL64, zL100, zL200, zL255, zL256, zL1000, zL12345, zL536870912, zI_le, zI_lt, zI_eq, zI_add, zI_sub, zI_mul, zI_neN, zI_Nne, zI_leN, zI_ltN, zI_Nle, zI_Nlt, zI_pred, zI_clamp, zI_div, zI_rem, zin_t, zgd_t, znz_t, if_pos, if_neg, if_true, if_false, Option.bind_some]
theorem zt_sum {SX SM : zSt} (h : zTp SX SM) (x1 x2 : Int32) : ∃ r SM', fX_X10_sum x1 x2 SX = some r ∧ fM_X11_sum x1 x2 SM = some (r, SM') ∧ zTp SX SM' := by
  obtain ⟨kd, ky, N, gu, ac, fe, ea, hb, hX, hM⟩ := h
  have hM7 := zMT2_7 (v := nI 0) hM
  have mk : ∀ S', zMT2 S' kd ky N gu ac fe ea → zTp SX S' := fun S' h' => ⟨kd, ky, N, gu, ac, fe, ea, hb, hX, h'⟩
  obtain ⟨S', e, hM', hD⟩ := zMT2_do hM7
  have hN := hX.1.2.1
  have hbk := hX.1.2.2.2.2.1
  rcases zcs x1 with q | ⟨j, hj, rfl⟩
  · refine ⟨zN, zsI SM 7 (nI 0), ?_, ?_, mk _ hM7⟩
    · simp (disch := omega) only [fX_X10_sum, pX_isShelf_n q, ↓zN_eq, zL0, zL1, zL2, zL3, zL4, zL5, zL6, zL7, zL8, zL10, zL16, zL31, zL42, zL63, zL64, zL100, zL200, zL255, zL256, zL1000, zL12345, zL536870912, zI_le, zI_lt, zI_eq, zI_add, zI_sub, zI_mul, zI_neN, zI_Nne, zI_leN, zI_ltN, zI_Nle, zI_Nlt, zI_pred, zI_clamp, zI_div, zI_rem, zin_t, zgd_t, znz_t, if_pos, if_neg, if_true, if_false, Option.bind_some]
    · simp (disch := omega) only [fM_X11_sum, pM_isShelf_n q, ↓zN_eq, zL0, zL1, zL2, zL3, zL4, zL5, zL6, zL7, zL8, zL10, zL16, zL31, zL42, zL63, zL64, zL100, zL200, zL255, zL256, zL1000, zL12345, zL536870912, zI_le, zI_lt, zI_eq, zI_add, zI_sub, zI_mul, zI_neN, zI_Nne, zI_leN, zI_ltN, zI_Nle, zI_Nlt, zI_pred, zI_clamp, zI_div, zI_rem, zin_t, zgd_t, znz_t, if_pos, if_neg, if_true, if_false, Option.bind_some]
  · by_cases w : j < 6
    · have c1 := pX_isShelf_t (S := SX) w
      have c2 := pM_isShelf_t (S := zsI SM 7 (nI 0)) w
      have hS := hX.1.2.2.2.2.2.2.2 j w
      have hc : ∀ t, t < N → S'.2 11 (6 * t + j) = zqC kd ky j t := fun t ht => hD.2.2.2.1 t ht j w
      have m1 := pM_worstOf hN w hM'.1.1 hc
      have m2 := pM_stepsOf (p := 0) hN w hM'.1.1 hc (Nat.zero_le _)
      have g1 := pX_dsince (p := 0) w hN hS (Nat.zero_le _)
      have g2 := pX_dworst w hN hS
      have g3 := pX_dworstS w hN hS
      have g4 := pX_dgreat w hN hbk hS
      have g5 := pX_rm w hS.1 (zA_ok hN hbk N (Nat.le_refl N))
      rcases zcs x2 with q | ⟨b, hb2, rfl⟩
      · obtain ⟨n1, n2, n3, n4, n5⟩ := zneg q
        refine ⟨zN, zsI SM 7 (nI 0), ?_, ?_, mk _ hM7⟩
        · simp (disch := omega) only [fX_X10_sum, fX_X10_sum_15, fX_X10_sum_99, c1, n3, ↓zN_eq, zL0, zL1, zL2, zL3, zL4, zL5, zL6, zL7, zL8, zL10, zL16, zL31, zL42, zL63, zL64, zL100, zL200, zL255, zL256, zL1000, zL12345, zL536870912, zI_le, zI_lt, zI_eq, zI_add, zI_sub, zI_mul, zI_neN, zI_Nne, zI_leN, zI_ltN, zI_Nle, zI_Nlt, zI_pred, zI_clamp, zI_div, zI_rem, zin_t, zgd_t, znz_t, if_pos, if_neg, if_true, if_false, Option.bind_some]
        · simp (disch := omega) only [fM_X11_sum, c2, pM_in_n q, ↓zN_eq, zL0, zL1, zL2, zL3, zL4, zL5, zL6, zL7, zL8, zL10, zL16, zL31, zL42, zL63, zL64, zL100, zL200, zL255, zL256, zL1000, zL12345, zL536870912, zI_le, zI_lt, zI_eq, zI_add, zI_sub, zI_mul, zI_neN, zI_Nne, zI_leN, zI_ltN, zI_Nle, zI_Nlt, zI_pred, zI_clamp, zI_div, zI_rem, zin_t, zgd_t, znz_t, if_pos, if_neg, if_true, if_false, Option.bind_some]
      · by_cases y : b ≤ 5
        · have c3 := pM_in_t (S := zsI SM 7 (nI 0)) (lo := 0) hb2 (show 5 < 2147483648 by omega) (by omega) y
          have y3 : b = 0 ∨ b = 1 ∨ b = 2 ∨ b = 3 ∨ b = 4 ∨ b = 5 := by omega
          rcases y3 with rfl | rfl | rfl | rfl | rfl | rfl
          · refine ⟨zqS (zqC kd ky j) (N - 0) 0 (nI 0), S', ?_, ?_, mk _ hM'⟩
            · simp (disch := omega) only [fX_X10_sum, fX_X10_sum_15, fX_X10_sum_56, fX_X10_sum_61, c1, g1, ↓zN_eq, zL0, zL1, zL2, zL3, zL4, zL5, zL6, zL7, zL8, zL10, zL16, zL31, zL42, zL63, zL64, zL100, zL200, zL255, zL256, zL1000, zL12345, zL536870912, zI_le, zI_lt, zI_eq, zI_add, zI_sub, zI_mul, zI_neN, zI_Nne, zI_leN, zI_ltN, zI_Nle, zI_Nlt, zI_pred, zI_clamp, zI_div, zI_rem, zin_t, zgd_t, znz_t, if_pos, if_neg, if_true, if_false, Option.bind_some]
            · simp (disch := omega) only [fM_X11_sum, c2, c3, e, m1, m2, ↓zN_eq, zL0, zL1, zL2, zL3, zL4, zL5, zL6, zL7, zL8, zL10, zL16, zL31, zL42, zL63, zL64, zL100, zL200, zL255, zL256, zL1000, zL12345, zL536870912, zI_le, zI_lt, zI_eq, zI_add, zI_sub, zI_mul, zI_neN, zI_Nne, zI_leN, zI_ltN, zI_Nle, zI_Nlt, zI_pred, zI_clamp, zI_div, zI_rem, zin_t, zgd_t, znz_t, if_pos, if_neg, if_true, if_false, Option.bind_some]
          · refine ⟨if N = 0 then nI 0 else zqC kd ky j (zqW (zqC kd ky j) N), S', ?_, ?_, mk _ hM'⟩
            · simp (disch := omega) only [fX_X10_sum, fX_X10_sum_15, fX_X10_sum_62, fX_X10_sum_66, c1, g3, zL0, zL1, zI_eq, zI_clamp, zin_t, zgd_t, if_pos, if_neg, if_true, if_false, Option.bind_some]
            · have h00 := zqW_0 (zqC kd ky j) N hN
              have hl := zqW_lt (zqC kd ky j) N
              by_cases u : N = 0
              · rw [h00.mpr u, show ze2 200 = zN from if_pos rfl] at m1
                rw [if_pos u]
                simp (disch := omega) only [fM_X11_sum, c2, c3, e, m1, ↓zN_eq, zL0, zL1, zL2, zL3, zL4, zL5, zL6, zL7, zL8, zL10, zL16, zL31, zL42, zL63, zL64, zL100, zL200, zL255, zL256, zL1000, zL12345, zL536870912, zI_le, zI_lt, zI_eq, zI_add, zI_sub, zI_mul, zI_neN, zI_Nne, zI_leN, zI_ltN, zI_Nle, zI_Nlt, zI_pred, zI_clamp, zI_div, zI_rem, zin_t, zgd_t, znz_t, if_pos, if_neg, if_true, if_false, Option.bind_some]
              · have u2 : ¬ zqW (zqC kd ky j) N = 200 := fun k => u (h00.mp k)
                rw [show ze2 (zqW (zqC kd ky j) N) = nI (zqW (zqC kd ky j) N) from if_neg u2] at m1
                rw [if_neg u]
                have v := hc (zqW (zqC kd ky j) N) (by omega)
                simp (disch := omega) only [fM_X11_sum, c2, c3, e, m1, v, ↓zN_eq, zL0, zL1, zL2, zL3, zL4, zL5, zL6, zL7, zL8, zL10, zL16, zL31, zL42, zL63, zL64, zL100, zL200, zL255, zL256, zL1000, zL12345, zL536870912, zI_le, zI_lt, zI_eq, zI_add, zI_sub, zI_mul, zI_neN, zI_Nne, zI_leN, zI_ltN, zI_Nle, zI_Nlt, zI_pred, zI_clamp, zI_div, zI_rem, zin_t, zgd_t, znz_t, if_pos, if_neg, if_true, if_false, Option.bind_some]
          · refine ⟨ze2 (zqW (zqC kd ky j) N), S', ?_, ?_, mk _ hM'⟩
            · simp (disch := omega) only [fX_X10_sum, fX_X10_sum_15, fX_X10_sum_67, fX_X10_sum_71, c1, g2, ↓zN_eq, zL0, zL1, zL2, zL3, zL4, zL5, zL6, zL7, zL8, zL10, zL16, zL31, zL42, zL63, zL64, zL100, zL200, zL255, zL256, zL1000, zL12345, zL536870912, zI_le, zI_lt, zI_eq, zI_add, zI_sub, zI_mul, zI_neN, zI_Nne, zI_leN, zI_ltN, zI_Nle, zI_Nlt, zI_pred, zI_clamp, zI_div, zI_rem, zin_t, zgd_t, znz_t, if_pos, if_neg, if_true, if_false, Option.bind_some]
            · simp (disch := omega) only [fM_X11_sum, c2, c3, e, m1, ↓zN_eq, zL0, zL1, zL2, zL3, zL4, zL5, zL6, zL7, zL8, zL10, zL16, zL31, zL42, zL63, zL64, zL100, zL200, zL255, zL256, zL1000, zL12345, zL536870912, zI_le, zI_lt, zI_eq, zI_add, zI_sub, zI_mul, zI_neN, zI_Nne, zI_leN, zI_ltN, zI_Nle, zI_Nlt, zI_pred, zI_clamp, zI_div, zI_rem, zin_t, zgd_t, znz_t, if_pos, if_neg, if_true, if_false, Option.bind_some]
          · have v := hD.2.2.2.2.2 j w
            refine ⟨nI (zmr kd ky j N), S', ?_, ?_, mk _ hM'⟩
            · simp (disch := omega) only [fX_X10_sum, fX_X10_sum_15, fX_X10_sum_72, fX_X10_sum_76, c1, g4, ↓zN_eq, zL0, zL1, zL2, zL3, zL4, zL5, zL6, zL7, zL8, zL10, zL16, zL31, zL42, zL63, zL64, zL100, zL200, zL255, zL256, zL1000, zL12345, zL536870912, zI_le, zI_lt, zI_eq, zI_add, zI_sub, zI_mul, zI_neN, zI_Nne, zI_leN, zI_ltN, zI_Nle, zI_Nlt, zI_pred, zI_clamp, zI_div, zI_rem, zin_t, zgd_t, znz_t, if_pos, if_neg, if_true, if_false, Option.bind_some]
            · simp (disch := omega) only [fM_X11_sum, c2, c3, e, m1, v, ↓zN_eq, zL0, zL1, zL2, zL3, zL4, zL5, zL6, zL7, zL8, zL10, zL16, zL31, zL42, zL63, zL64, zL100, zL200, zL255, zL256, zL1000, zL12345, zL536870912, zI_le, zI_lt, zI_eq, zI_add, zI_sub, zI_mul, zI_neN, zI_Nne, zI_leN, zI_ltN, zI_Nle, zI_Nlt, zI_pred, zI_clamp, zI_div, zI_rem, zin_t, zgd_t, znz_t, if_pos, if_neg, if_true, if_false, Option.bind_some]
          · have v := zMT2_off hM' hb.1 hb.2.1 w
            have v1 := zXT_off hX hb.1 hb.2.1
            have v2 := pX_isOff (S := SX) (hf := zqF kd N 0) hb.1 hb.2.1 w
            have v2' : fX_X10_isIn (zqM gu ac (zqF kd N 0)) (nI j) SX = some (nI (zb1 (zpO kd N gu ac j))) := v2
            refine ⟨nI (zb1 (zpO kd N gu ac j)), S', ?_, ?_, mk _ hM'⟩
            · generalize zpO kd N gu ac j = bb at v v2' ⊢
              cases bb
              · rw [zb1_f] at v v2' ⊢
                simp (disch := omega) only [fX_X10_sum, fX_X10_sum_15, fX_X10_sum_77, c1, v1, v2', ↓zN_eq, zL0, zL1, zL2, zL3, zL4, zL5, zL6, zL7, zL8, zL10, zL16, zL31, zL42, zL63, zL64, zL100, zL200, zL255, zL256, zL1000, zL12345, zL536870912, zI_le, zI_lt, zI_eq, zI_add, zI_sub, zI_mul, zI_neN, zI_Nne, zI_leN, zI_ltN, zI_Nle, zI_Nlt, zI_pred, zI_clamp, zI_div, zI_rem, zin_t, zgd_t, znz_t, if_pos, if_neg, if_true, if_false, Option.bind_some]
              · rw [zb1_t] at v v2' ⊢
                simp (disch := omega) only [fX_X10_sum, fX_X10_sum_15, fX_X10_sum_77, c1, v1, v2', ↓zN_eq, zL0, zL1, zL2, zL3, zL4, zL5, zL6, zL7, zL8, zL10, zL16, zL31, zL42, zL63, zL64, zL100, zL200, zL255, zL256, zL1000, zL12345, zL536870912, zI_le, zI_lt, zI_eq, zI_add, zI_sub, zI_mul, zI_neN, zI_Nne, zI_leN, zI_ltN, zI_Nle, zI_Nlt, zI_pred, zI_clamp, zI_div, zI_rem, zin_t, zgd_t, znz_t, if_pos, if_neg, if_true, if_false, Option.bind_some]
            · generalize zpO kd N gu ac j = bb at v v2' ⊢
              cases bb
              · rw [zb1_f] at v v2' ⊢
                simp (disch := omega) only [fM_X11_sum, c2, c3, e, m1, v, ↓zN_eq, zL0, zL1, zL2, zL3, zL4, zL5, zL6, zL7, zL8, zL10, zL16, zL31, zL42, zL63, zL64, zL100, zL200, zL255, zL256, zL1000, zL12345, zL536870912, zI_le, zI_lt, zI_eq, zI_add, zI_sub, zI_mul, zI_neN, zI_Nne, zI_leN, zI_ltN, zI_Nle, zI_Nlt, zI_pred, zI_clamp, zI_div, zI_rem, zin_t, zgd_t, znz_t, if_pos, if_neg, if_true, if_false, Option.bind_some]
              · rw [zb1_t] at v v2' ⊢
                simp (disch := omega) only [fM_X11_sum, c2, c3, e, m1, v, ↓zN_eq, zL0, zL1, zL2, zL3, zL4, zL5, zL6, zL7, zL8, zL10, zL16, zL31, zL42, zL63, zL64, zL100, zL200, zL255, zL256, zL1000, zL12345, zL536870912, zI_le, zI_lt, zI_eq, zI_add, zI_sub, zI_mul, zI_neN, zI_Nne, zI_leN, zI_ltN, zI_Nle, zI_Nlt, zI_pred, zI_clamp, zI_div, zI_rem, zin_t, zgd_t, znz_t, if_pos, if_neg, if_true, if_false, Option.bind_some]
          · have v := hD.2.2.2.2.1 j w
            refine ⟨nI (zar j (zA kd ky N)), S', ?_, ?_, mk _ hM'⟩
            · simp (disch := omega) only [fX_X10_sum, fX_X10_sum_15, fX_X10_sum_94, fX_X10_sum_98, c1, g5, ↓zN_eq, zL0, zL1, zL2, zL3, zL4, zL5, zL6, zL7, zL8, zL10, zL16, zL31, zL42, zL63, zL64, zL100, zL200, zL255, zL256, zL1000, zL12345, zL536870912, zI_le, zI_lt, zI_eq, zI_add, zI_sub, zI_mul, zI_neN, zI_Nne, zI_leN, zI_ltN, zI_Nle, zI_Nlt, zI_pred, zI_clamp, zI_div, zI_rem, zin_t, zgd_t, znz_t, if_pos, if_neg, if_true, if_false, Option.bind_some]
            · simp (disch := omega) only [fM_X11_sum, c2, c3, e, m1, v, ↓zN_eq, zL0, zL1, zL2, zL3, zL4, zL5, zL6, zL7, zL8, zL10, zL16, zL31, zL42, zL63, zL64, zL100, zL200, zL255, zL256, zL1000, zL12345, zL536870912, zI_le, zI_lt, zI_eq, zI_add, zI_sub, zI_mul, zI_neN, zI_Nne, zI_leN, zI_ltN, zI_Nle, zI_Nlt, zI_pred, zI_clamp, zI_div, zI_rem, zin_t, zgd_t, znz_t, if_pos, if_neg, if_true, if_false, Option.bind_some]
        · have c3 := pM_in_f (S := zsI SM 7 (nI 0)) (lo := 0) (hi := 5) hb2 (by omega) (by omega) (by omega)
          refine ⟨zN, zsI SM 7 (nI 0), ?_, ?_, mk _ hM7⟩
          · simp (disch := omega) only [fX_X10_sum, fX_X10_sum_15, fX_X10_sum_99, c1, ↓zN_eq, zL0, zL1, zL2, zL3, zL4, zL5, zL6, zL7, zL8, zL10, zL16, zL31, zL42, zL63, zL64, zL100, zL200, zL255, zL256, zL1000, zL12345, zL536870912, zI_le, zI_lt, zI_eq, zI_add, zI_sub, zI_mul, zI_neN, zI_Nne, zI_leN, zI_ltN, zI_Nle, zI_Nlt, zI_pred, zI_clamp, zI_div, zI_rem, zin_t, zgd_t, znz_t, if_pos, if_neg, if_true, if_false, Option.bind_some]
          · simp (disch := omega) only [fM_X11_sum, c2, c3, ↓zN_eq, zL0, zL1, zL2, zL3, zL4, zL5, zL6, zL7, zL8, zL10, zL16, zL31, zL42, zL63, zL64, zL100, zL200, zL255, zL256, zL1000, zL12345, zL536870912, zI_le, zI_lt, zI_eq, zI_add, zI_sub, zI_mul, zI_neN, zI_Nne, zI_leN, zI_ltN, zI_Nle, zI_Nlt, zI_pred, zI_clamp, zI_div, zI_rem, zin_t, zgd_t, znz_t, if_pos, if_neg, if_true, if_false, Option.bind_some]
    · have c1 := pX_isShelf_f (S := SX) (show 6 ≤ j by omega) hj
      have c2 := pM_isShelf_f (S := zsI SM 7 (nI 0)) (show 6 ≤ j by omega) hj
      refine ⟨zN, zsI SM 7 (nI 0), ?_, ?_, mk _ hM7⟩
      · simp (disch := omega) only [fX_X10_sum, c1, ↓zN_eq, zL0, zL1, zL2, zL3, zL4, zL5, zL6, zL7, zL8, zL10, zL16, zL31, zL42, zL63, zL64, zL100, zL200, zL255, zL256, zL1000, zL12345, zL536870912, zI_le, zI_lt, zI_eq, zI_add, zI_sub, zI_mul, zI_neN, zI_Nne, zI_leN, zI_ltN, zI_Nle, zI_Nlt, zI_pred, zI_clamp, zI_div, zI_rem, zin_t, zgd_t, znz_t, if_pos, if_neg, if_true, if_false, Option.bind_some]
      · simp (disch := omega) only [fM_X11_sum, c2, ↓zN_eq, zL0, zL1, zL2, zL3, zL4, zL5, zL6, zL7, zL8, zL10, zL16, zL31, zL42, zL63, zL64, zL100, zL200, zL255, zL256, zL1000, zL12345, zL536870912, zI_le, zI_lt, zI_eq, zI_add, zI_sub, zI_mul, zI_neN, zI_Nne, zI_leN, zI_ltN, zI_Nle, zI_Nlt, zI_pred, zI_clamp, zI_div, zI_rem, zin_t, zgd_t, znz_t, if_pos, if_neg, if_true, if_false, Option.bind_some]

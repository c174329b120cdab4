/-! the reference's stages -/
def zMp (S : zSt) (kd ky : Nat → Nat) (N gu ac fe ea : Nat) : Prop := zMT2 S kd ky N gu ac fe ea ∧ zMD S kd ky N
theorem zMp_cg {S S' : zSt} {kd ky : Nat → Nat} {N gu ac fe ea : Nat} (h : zMp S kd ky N gu ac fe ea) (f : zfr S S' [] [26, 27]) : zMp S' kd ky N gu ac fe ea := by
  refine ⟨zMT2_cg h.1 (fun k _ => f.1 k List.not_mem_nil) (fun k hk => f.2 k (fun q => ?_)), zMD_cg h.2 (fun k _ => f.1 k List.not_mem_nil) (fun k hk => f.2 k (fun q => ?_))⟩
  · simp only [List.mem_cons, List.not_mem_nil, or_false] at hk q
    omega
  · simp only [List.mem_cons, List.not_mem_nil, or_false] at hk q
    omega
theorem pM_moving {S : zSt} {kd ky : Nat → Nat} {N gu ac fe ea i : Nat} (h : zMp S kd ky N gu ac fe ea) (hi : i < N) : fM_X11_moving (nI i) S = some (nI (zpV kd ky fe ea i)) := by
  have h5 := h.1.2.2.2.1
  have h6 := h.1.2.2.2.2
  have h10 := h.2.2.2.1 i hi
  have hN := h.1.1.2.1
  unfold fM_X11_moving zpV
  simp (disch := omega) only [h5, h6, h10, ↓zN_eq, zL0, zL1, zL2, zL3, zL4, zL5, zL6, zL7, zL8, zL10, zL16, zL31, zL42, zL63, zL64, zL100, zL200, zL255, zL256, zL1000, zL12345, zL536870912, zI_le, zI_lt, zI_eq, zI_add, zI_sub, zI_mul, zI_neN, zI_Nne, zI_leN, zI_ltN, zI_Nle, zI_Nlt, zI_pred, zI_clamp, zI_div, zI_rem, zin_t, zgd_t, znz_t, if_pos, if_neg, if_true, if_false, Option.bind_some]
/-- rows of the rest at call k -/
def zMr (S : zSt) (off : Nat → Bool) (P : Nat → Nat × Nat) (k : Nat) : Prop := ∀ s, s < 6 → off s = true → S.2 26 (6 * k + s) = nI (P s).1 ∧ S.2 27 (6 * k + s) = nI (P s).2
theorem pM_next_23 {S : zSt} {kd ky : Nat → Nat} {N gu ac fe ea i s : Nat} {P : Nat → Nat × Nat} (hgu : gu ≤ 1) (hac : ac ≤ 1) (hs : s < 6) (h : zMp S kd ky N gu ac fe ea) (hi : i + 1 < N) (hr : zMr S (zpO kd N gu ac) P (i + 1)) (hP : ∀ t, t < 6 → (P t).2 ≤ 200 ∧ (P t).1 ≤ 402000) (hv : zpV kd ky fe ea i ≤ 201000) : ∀ r t u x4 x5, r < u → t + r = 6 → (zpB (zpO kd N gu ac) (zpF P (zpV kd ky fe ea i) s) t ≠ 6 → x4 = nI ((P (zpB (zpO kd N gu ac) (zpF P (zpV kd ky fe ea i) s) t)).1 + (if s = zpB (zpO kd N gu ac) (zpF P (zpV kd ky fe ea i) s) t then 0 else zpV kd ky fe ea i)) ∧ x5 = nI ((P (zpB (zpO kd N gu ac) (zpF P (zpV kd ky fe ea i) s) t)).2 + (if s = zpB (zpO kd N gu ac) (zpF P (zpV kd ky fe ea i) s) t then 0 else 1))) → fM_X11_nextShelf_23 u (nI i) (nI s) (ze6 (zpB (zpO kd N gu ac) (zpF P (zpV kd ky fe ea i) s) t)) x4 x5 (nI t) S = some (ze6 (zpB (zpO kd N gu ac) (zpF P (zpV kd ky fe ea i) s) 6)) := by
  have hN := h.1.1.2.1
  have hmv := pM_moving h (show i < N by omega)
  generalize zpV kd ky fe ea i = m at *
  have ho : ∀ t, t < 6 → fM_X11_isOffered (nI t) S = some (nI (zb1 (zpO kd N gu ac t))) := fun t ht => zMT2_off h.1 hgu hac ht
  generalize hoff : zpO kd N gu ac = off at *
  generalize hf : zpF P m s = f at *
  have hfe : ∀ t, f t = 256 * ((P t).1 + (if s = t then 0 else m)) + ((P t).2 + (if s = t then 0 else 1)) := fun t => by rw [← hf]; rfl
  intro r
  induction r with
  | zero =>
    intro t u x4 x5 hu ht hx
    obtain ⟨u, rfl⟩ : ∃ u', u = u' + 1 := ⟨u - 1, by omega⟩
    have e : t = 6 := by omega
    rw [e]
    simp (disch := omega) only [fM_X11_nextShelf_23, ↓zN_eq, zL0, zL1, zL2, zL3, zL4, zL5, zL6, zL7, zL8, zL10, zL16, zL31, zL42, zL63, zL64, zL100, zL200, zL255, zL256, zL1000, zL12345, zL536870912, zI_le, zI_lt, zI_eq, zI_add, zI_sub, zI_mul, zI_neN, zI_Nne, zI_leN, zI_ltN, zI_Nle, zI_Nlt, zI_pred, zI_clamp, zI_div, zI_rem, zin_t, zgd_t, znz_t, if_pos, if_neg, if_true, if_false, Option.bind_some]
  | succ r ih =>
    intro t u x4 x5 hu ht hx
    obtain ⟨u, rfl⟩ : ∃ u', u = u' + 1 := ⟨u - 1, by omega⟩
    have ht6 : t < 6 := by omega
    have h1 := ho t ht6
    have hl := zpB_lt off f t
    have es : zpB off f (t + 1) = if off t = true then (if zpB off f t = 6 then t else if f (zpB off f t) ≤ f t then zpB off f t else t) else zpB off f t := rfl
    by_cases q : off t = true
    · rw [q, zb1_t] at h1
      rw [if_pos q] at es
      obtain ⟨v1, v2⟩ := hr t ht6 q
      obtain ⟨b1, b2⟩ := hP t ht6
      obtain ⟨d, hd⟩ : ∃ d, d = if s = t then 0 else m := ⟨_, rfl⟩
      obtain ⟨g, hg⟩ : ∃ g, g = if s = t then 0 else 1 := ⟨_, rfl⟩
      have hd2 : d ≤ 201000 := by
        rw [hd]
        by_cases y : s = t
        · rw [if_pos y]; omega
        · rw [if_neg y]; omega
      have hg2 : g ≤ 1 := by
        rw [hg]
        by_cases y : s = t
        · rw [if_pos y]; omega
        · rw [if_neg y]; omega
      have fst : fM_X11_nextShelf_23 (u + 1) (nI i) (nI s) (ze6 (zpB off f t)) x4 x5 (nI t) S = fM_X11_nextShelf_96 (fM_X11_nextShelf_23 u) (nI i) (nI s) (ze6 (zpB off f t)) x4 x5 (nI t) (nI ((P t).1 + d)) (nI (P t).2) (nI g) S := by
        generalize ze6 (zpB off f t) = x3
        rw [fM_X11_nextShelf_23, hd, hg]
        by_cases y : s = t
        · rw [if_pos y, if_pos y, y]
          simp (disch := omega) only [fM_X11_nextShelf_75, h1, v1, v2, ↓zN_eq, zL0, zL1, zL2, zL3, zL4, zL5, zL6, zL7, zL8, zL10, zL16, zL31, zL42, zL63, zL64, zL100, zL200, zL255, zL256, zL1000, zL12345, zL536870912, zI_le, zI_lt, zI_eq, zI_add, zI_sub, zI_mul, zI_neN, zI_Nne, zI_leN, zI_ltN, zI_Nle, zI_Nlt, zI_pred, zI_clamp, zI_div, zI_rem, zin_t, zgd_t, znz_t, if_pos, if_neg, if_true, if_false, Option.bind_some]
        · rw [if_neg y, if_neg y]
          simp (disch := omega) only [fM_X11_nextShelf_75, h1, hmv, v1, v2, ↓zN_eq, zL0, zL1, zL2, zL3, zL4, zL5, zL6, zL7, zL8, zL10, zL16, zL31, zL42, zL63, zL64, zL100, zL200, zL255, zL256, zL1000, zL12345, zL536870912, zI_le, zI_lt, zI_eq, zI_add, zI_sub, zI_mul, zI_neN, zI_Nne, zI_leN, zI_ltN, zI_Nle, zI_Nlt, zI_pred, zI_clamp, zI_div, zI_rem, zin_t, zgd_t, znz_t, if_pos, if_neg, if_true, if_false, Option.bind_some]
      have hft : f t = 256 * ((P t).1 + d) + ((P t).2 + g) := by rw [hfe, hd, hg]
      rw [fst]
      by_cases w : zpB off f t = 6
      · rw [if_pos w] at es
        have k := ih (t + 1) u (nI ((P t).1 + d)) (nI ((P t).2 + g)) (by omega) (by omega) (fun _ => by rw [es, hd, hg]; exact ⟨rfl, rfl⟩)
        rw [es, ze6_n (by omega)] at k
        rw [w, ze6_6, ← k]
        simp (disch := omega) only [fM_X11_nextShelf_96, fM_X11_nextShelf_128, ↓zN_eq, zL0, zL1, zL2, zL3, zL4, zL5, zL6, zL7, zL8, zL10, zL16, zL31, zL42, zL63, zL64, zL100, zL200, zL255, zL256, zL1000, zL12345, zL536870912, zI_le, zI_lt, zI_eq, zI_add, zI_sub, zI_mul, zI_neN, zI_Nne, zI_leN, zI_ltN, zI_Nle, zI_Nlt, zI_pred, zI_clamp, zI_div, zI_rem, zin_t, zgd_t, znz_t, if_pos, if_neg, if_true, if_false, Option.bind_some]
      · rw [if_neg w] at es
        obtain ⟨hx4, hx5⟩ := hx w
        have hB6 : zpB off f t < 6 := by omega
        obtain ⟨b3, b4⟩ := hP (zpB off f t) hB6
        have hfb := hfe (zpB off f t)
        have k0 := ih (t + 1) u x4 x5 (by omega) (by omega)
        have k1 := ih (t + 1) u (nI ((P t).1 + d)) (nI ((P t).2 + g)) (by omega) (by omega)
        generalize hbb : zpB off f t = b at *
        obtain ⟨d', hd'⟩ : ∃ d', d' = if s = b then 0 else m := ⟨_, rfl⟩
        obtain ⟨g', hg'⟩ : ∃ g', g' = if s = b then 0 else 1 := ⟨_, rfl⟩
        have hd2' : d' ≤ 201000 := by
          rw [hd']
          by_cases y : s = b
          · rw [if_pos y]; omega
          · rw [if_neg y]; omega
        have hg2' : g' ≤ 1 := by
          rw [hg']
          by_cases y : s = b
          · rw [if_pos y]; omega
          · rw [if_neg y]; omega
        rw [← hd', ← hg'] at hfb
        by_cases y : f b ≤ f t
        · rw [if_pos y] at es
          have k := k0 (fun _ => by rw [es]; exact ⟨hx4, hx5⟩)
          rw [es] at k
          rw [← hd'] at hx4
          rw [← hg'] at hx5
          rw [← k, ze6_n w, hx4, hx5]
          by_cases z : (P b).1 + d' < (P t).1 + d
          · simp (disch := omega) only [fM_X11_nextShelf_96, fM_X11_nextShelf_128, ↓zN_eq, zL0, zL1, zL2, zL3, zL4, zL5, zL6, zL7, zL8, zL10, zL16, zL31, zL42, zL63, zL64, zL100, zL200, zL255, zL256, zL1000, zL12345, zL536870912, zI_le, zI_lt, zI_eq, zI_add, zI_sub, zI_mul, zI_neN, zI_Nne, zI_leN, zI_ltN, zI_Nle, zI_Nlt, zI_pred, zI_clamp, zI_div, zI_rem, zin_t, zgd_t, znz_t, if_pos, if_neg, if_true, if_false, Option.bind_some]
          · have z2 : (P t).1 + d = (P b).1 + d' := by omega
            simp (disch := omega) only [fM_X11_nextShelf_96, fM_X11_nextShelf_128, ↓zN_eq, zL0, zL1, zL2, zL3, zL4, zL5, zL6, zL7, zL8, zL10, zL16, zL31, zL42, zL63, zL64, zL100, zL200, zL255, zL256, zL1000, zL12345, zL536870912, zI_le, zI_lt, zI_eq, zI_add, zI_sub, zI_mul, zI_neN, zI_Nne, zI_leN, zI_ltN, zI_Nle, zI_Nlt, zI_pred, zI_clamp, zI_div, zI_rem, zin_t, zgd_t, znz_t, if_pos, if_neg, if_true, if_false, Option.bind_some]
        · rw [if_neg y] at es
          have k := k1 (fun _ => by rw [es, hd, hg]; exact ⟨rfl, rfl⟩)
          rw [es, ze6_n (by omega)] at k
          rw [← hd'] at hx4
          rw [← hg'] at hx5
          rw [← k, ze6_n w, hx4, hx5]
          by_cases z : (P t).1 + d = (P b).1 + d'
          · simp (disch := omega) only [fM_X11_nextShelf_96, fM_X11_nextShelf_128, ↓zN_eq, zL0, zL1, zL2, zL3, zL4, zL5, zL6, zL7, zL8, zL10, zL16, zL31, zL42, zL63, zL64, zL100, zL200, zL255, zL256, zL1000, zL12345, zL536870912, zI_le, zI_lt, zI_eq, zI_add, zI_sub, zI_mul, zI_neN, zI_Nne, zI_leN, zI_ltN, zI_Nle, zI_Nlt, zI_pred, zI_clamp, zI_div, zI_rem, zin_t, zgd_t, znz_t, if_pos, if_neg, if_true, if_false, Option.bind_some]
          · simp (disch := omega) only [fM_X11_nextShelf_96, fM_X11_nextShelf_128, ↓zN_eq, zL0, zL1, zL2, zL3, zL4, zL5, zL6, zL7, zL8, zL10, zL16, zL31, zL42, zL63, zL64, zL100, zL200, zL255, zL256, zL1000, zL12345, zL536870912, zI_le, zI_lt, zI_eq, zI_add, zI_sub, zI_mul, zI_neN, zI_Nne, zI_leN, zI_ltN, zI_Nle, zI_Nlt, zI_pred, zI_clamp, zI_div, zI_rem, zin_t, zgd_t, znz_t, if_pos, if_neg, if_true, if_false, Option.bind_some]
    · rw [Bool.eq_false_iff.mpr q, zb1_f] at h1
      rw [if_neg q] at es
      have k := ih (t + 1) u x4 x5 (by omega) (by omega) (fun n => by rw [es]; rw [es] at n; exact hx n)
      rw [es] at k
      rw [← k, fM_X11_nextShelf_23]
      simp (disch := omega) only [h1, ↓zN_eq, zL0, zL1, zL2, zL3, zL4, zL5, zL6, zL7, zL8, zL10, zL16, zL31, zL42, zL63, zL64, zL100, zL200, zL255, zL256, zL1000, zL12345, zL536870912, zI_le, zI_lt, zI_eq, zI_add, zI_sub, zI_mul, zI_neN, zI_Nne, zI_leN, zI_ltN, zI_Nle, zI_Nlt, zI_pred, zI_clamp, zI_div, zI_rem, zin_t, zgd_t, znz_t, if_pos, if_neg, if_true, if_false, Option.bind_some]
theorem pM_next {S : zSt} {kd ky : Nat → Nat} {N gu ac fe ea i s : Nat} {P : Nat → Nat × Nat} (hgu : gu ≤ 1) (hac : ac ≤ 1) (hs : s < 6) (h : zMp S kd ky N gu ac fe ea) (hi : i + 1 < N) (hr : zMr S (zpO kd N gu ac) P (i + 1)) (hP : ∀ t, t < 6 → (P t).2 ≤ 200 ∧ (P t).1 ≤ 402000) (hv : zpV kd ky fe ea i ≤ 201000) : fM_X11_nextShelf (nI i) (nI s) S = some (ze6 (zpB (zpO kd N gu ac) (zpF P (zpV kd ky fe ea i) s) 6)) := by
  have k := pM_next_23 hgu hac hs h hi hr hP hv 6 0 1000 (nI 0) (nI 0) (by omega) (by omega) (fun n => absurd rfl n)
  have h2 := h.1.1.1
  have hN := h.1.1.2.1
  unfold fM_X11_nextShelf
  rw [h2, zN_eq, zL0, zL1, zI_sub (by omega), if_neg (by rw [zI_eq (by omega) (by omega)]; omega)]
  exact k
theorem pM_nextL {S : zSt} {N i : Nat} {x : Int32} (hN : N ≤ 200) (hi : i + 1 = N) (h2 : S.1 2 = nI N) : fM_X11_nextShelf (nI i) x S = some x := by
  unfold fM_X11_nextShelf
  rw [h2, zL1, zI_sub (by omega), if_pos (by rw [zI_eq (by omega) (by omega)]; omega)]
def zMw (S : zSt) (kd ky : Nat → Nat) (N gu ac fe ea i : Nat) : Prop := ∀ k, i ≤ k → k ≤ N → zMr S (zpO kd N gu ac) (zpQ kd ky N gu ac fe ea (N - k)) k
theorem zpQ_b {kd ky : Nat → Nat} {N gu ac fe ea : Nat} (hN : N ≤ 200) (hb : ∀ t, t < N → kd t < 8 ∧ ky t < 64) (hfe : fe ≤ 1000) (hea : ea ≤ 1000) (k : Nat) (hk : k ≤ N) (s : Nat) (hs : s < 6) : (zpQ kd ky N gu ac fe ea k s).2 ≤ 200 ∧ (zpQ kd ky N gu ac fe ea k s).1 ≤ 402000 := by
  obtain ⟨b1, b2, b3⟩ := zpP_b (off := zpO kd N gu ac) (c := zpC kd ky) (mv := zpV kd ky fe ea) hN (fun i s hi hs => zac_le (zA_ok hN hb i (by omega)) hs (hb i hi).2) (fun i hi => zpV_le hN hb hfe hea hi) k hk s hs
  have b1' : (zpQ kd ky N gu ac fe ea k s).2 ≤ k := b1
  have b2' : (zpQ kd ky N gu ac fe ea k s).1 ≤ 1000 * k + 201000 := b2
  omega
theorem pM_find_152 {S : zSt} {K75 : Int32 → Int32 → zSt → Option (Int32 × zSt)} {K81 : Int32 → Int32 → Int32 → zSt → Option (Int32 × zSt)} {x1 : Int32} {kd ky : Nat → Nat} {N gu ac fe ea i s t ci R V : Nat} {b : Bool} (h : zMp S kd ky N gu ac fe ea) (hi : i < N) (hs : s < 6) (ht : t < 6) (h11 : S.2 11 (6 * i + s) = nI ci) (h26 : S.2 26 (6 * (i + 1) + t) = nI R) (h27 : S.2 27 (6 * (i + 1) + t) = nI V) : fM_X11_findStages_152 K75 K81 x1 (nI i) (nI s) (nI (6 * i + s)) (nI t) (nI (zb1 b)) S = K81 x1 (nI i) (nI (s + 1)) (zsR (zsR S 26 (6 * i + s) (nI (ci + R + (if b = true then zpV kd ky fe ea i else 0)))) 27 (6 * i + s) (nI (V + (if b = true then 1 else 0)))) := by
  have hN := h.1.1.2.1
  have hmv := pM_moving h hi
  cases b
  · rw [zb1_f, if_neg (by decide), if_neg (by decide)]
    simp (disch := omega) only [fM_X11_findStages_152, fM_X11_findStages_196, fM_X11_findStages_228, h11, h26, h27, ↓zN_eq, zL0, zL1, zL2, zL3, zL4, zL5, zL6, zL7, zL8, zL10, zL16, zL31, zL42, zL63, zL64, zL100, zL200, zL255, zL256, zL1000, zL12345, zL536870912, zI_le, zI_lt, zI_eq, zI_add, zI_sub, zI_mul, zI_neN, zI_Nne, zI_leN, zI_ltN, zI_Nle, zI_Nlt, zI_pred, zI_clamp, zI_div, zI_rem, zin_t, zgd_t, znz_t, if_pos, if_neg, if_true, if_false, Option.bind_some]
  · rw [zb1_t, if_pos rfl, if_pos rfl]
    simp (disch := omega) only [fM_X11_findStages_152, fM_X11_findStages_196, fM_X11_findStages_228, h11, h26, h27, hmv, ↓zN_eq, zL0, zL1, zL2, zL3, zL4, zL5, zL6, zL7, zL8, zL10, zL16, zL31, zL42, zL63, zL64, zL100, zL200, zL255, zL256, zL1000, zL12345, zL536870912, zI_le, zI_lt, zI_eq, zI_add, zI_sub, zI_mul, zI_neN, zI_Nne, zI_leN, zI_ltN, zI_Nle, zI_Nlt, zI_pred, zI_clamp, zI_div, zI_rem, zin_t, zgd_t, znz_t, if_pos, if_neg, if_true, if_false, Option.bind_some]
theorem pM_find_81 {kd ky : Nat → Nat} {N gu ac fe ea i : Nat} {x1 : Int32} (K : Int32 → Int32 → zSt → Option (Int32 × zSt)) (hgu : gu ≤ 1) (hac : ac ≤ 1) (hfe : fe ≤ 1000) (hea : ea ≤ 1000) (hi : i < N) : ∀ r j u S, r < u → j + r = 6 → zMp S kd ky N gu ac fe ea → zMw S kd ky N gu ac fe ea (i + 1) → (∀ s, s < j → zpO kd N gu ac s = true → S.2 26 (6 * i + s) = nI (zpQ kd ky N gu ac fe ea (N - i) s).1 ∧ S.2 27 (6 * i + s) = nI (zpQ kd ky N gu ac fe ea (N - i) s).2) → ∃ S', fM_X11_findStages_81 K u x1 (nI i) (nI j) S = K x1 (zlw i) S' ∧ zMp S' kd ky N gu ac fe ea ∧ zMw S' kd ky N gu ac fe ea i := by
  intro r
  induction r with
  | zero =>
    intro j u S hu hj h hW hd
    obtain ⟨u, rfl⟩ : ∃ u', u = u' + 1 := ⟨u - 1, by omega⟩
    have e : j = 6 := by omega
    refine ⟨S, ?_, h, fun k k1 k2 s hs ho => ?_⟩
    · rw [fM_X11_findStages_81, if_pos (by rw [zL6, e]; decide), zN_eq, zlw_p]
    · by_cases q : k = i
      · rw [q]; exact hd s (by omega) ho
      · exact hW k (by omega) k2 s hs ho
  | succ r ih =>
    intro j u S hu hj h hW hd
    obtain ⟨u, rfl⟩ : ∃ u', u = u' + 1 := ⟨u - 1, by omega⟩
    have hj6 : j < 6 := by omega
    have hN := h.1.1.2.1
    have hb := h.1.1.2.2.2.2.1
    have h2 := h.1.1.1
    obtain ⟨S1, hS1⟩ : ∃ S1, S1 = zsR (zsR S 26 (6 * i + j) (nI 536870912)) 27 (6 * i + j) (nI 0) := ⟨_, rfl⟩
    have f1 : zfr S S1 [] [26, 27] := by rw [hS1]; exact zfr_tr (zfr_sR (by decide)) (zfr_sR (by decide))
    have p1 := zMp_cg h f1
    have r26 : ∀ t, t ≠ 6 * i + j → S1.2 26 t = S.2 26 t := fun t q => by
      rw [hS1]
      show upd (S.2 26) (6 * i + j) _ t = _
      rw [zup1, if_neg q]
    have r27 : ∀ t, t ≠ 6 * i + j → S1.2 27 t = S.2 27 t := fun t q => by
      rw [hS1]
      show upd (S.2 27) (6 * i + j) _ t = _
      rw [zup1, if_neg q]
    have fin : ∀ S2, zfr S S2 [] [26, 27] → (zpO kd N gu ac j = true → S2.2 26 (6 * i + j) = nI (zpQ kd ky N gu ac fe ea (N - i) j).1 ∧ S2.2 27 (6 * i + j) = nI (zpQ kd ky N gu ac fe ea (N - i) j).2) → (∀ t, t ≠ 6 * i + j → S2.2 26 t = S.2 26 t) → (∀ t, t ≠ 6 * i + j → S2.2 27 t = S.2 27 t) → ∃ S', fM_X11_findStages_81 K u x1 (nI i) (nI (j + 1)) S2 = K x1 (zlw i) S' ∧ zMp S' kd ky N gu ac fe ea ∧ zMw S' kd ky N gu ac fe ea i := fun S2 g1 g2 g3 g4 => by
      refine ih (j + 1) u S2 (by omega) (by omega) (zMp_cg h g1) (fun k k1 k2 s hs ho => ?_) (fun s hs ho => ?_)
      · rw [g3 _ (by omega), g4 _ (by omega)]; exact hW k k1 k2 s hs ho
      · by_cases q : s = j
        · rw [q] at ho ⊢; exact g2 ho
        · rw [g3 _ (by omega), g4 _ (by omega)]; exact hd s (by omega) ho
    have ho := zMT2_off p1.1 hgu hac hj6
    by_cases q : zpO kd N gu ac j = true
    · rw [q, zb1_t] at ho
      have h11 : S1.2 11 (6 * i + j) = nI (zpC kd ky i j) := p1.2.2.2.2.1 i hi j hj6
      have last : ∀ (t : Nat) (b : Bool), t < 6 → fM_X11_findStages_81 K (u + 1) x1 (nI i) (nI j) S = fM_X11_findStages_152 K (fM_X11_findStages_81 K u) x1 (nI i) (nI j) (nI (6 * i + j)) (nI t) (nI (zb1 b)) S1 → zpO kd N gu ac t = true → zpQ kd ky N gu ac fe ea (N - i) j = (zpC kd ky i j + (zpQ kd ky N gu ac fe ea (N - (i + 1)) t).1 + (if b = true then zpV kd ky fe ea i else 0), (zpQ kd ky N gu ac fe ea (N - (i + 1)) t).2 + (if b = true then 1 else 0)) → ∃ S', fM_X11_findStages_81 K (u + 1) x1 (nI i) (nI j) S = K x1 (zlw i) S' ∧ zMp S' kd ky N gu ac fe ea ∧ zMw S' kd ky N gu ac fe ea i := fun t b ht e hot hQ => by
        obtain ⟨w1, w2⟩ := hW (i + 1) (Nat.le_refl _) (by omega) t ht hot
        rw [← r26 _ (by omega)] at w1
        rw [← r27 _ (by omega)] at w2
        rw [pM_find_152 (b := b) p1 hi hj6 ht h11 w1 w2] at e
        obtain ⟨S', k1, k2⟩ := fin (zsR (zsR S1 26 (6 * i + j) (nI (zpC kd ky i j + (zpQ kd ky N gu ac fe ea (N - (i + 1)) t).1 + (if b = true then zpV kd ky fe ea i else 0)))) 27 (6 * i + j) (nI ((zpQ kd ky N gu ac fe ea (N - (i + 1)) t).2 + (if b = true then 1 else 0)))) (zfr_tr f1 (zfr_tr (zfr_sR (by decide)) (zfr_sR (by decide)))) (fun _ => by
          rw [hQ]
          refine ⟨?_, ?_⟩
          · rw [zsR_2, if_neg (by decide), zsR_2, if_pos rfl, pk_us]
          · rw [zsR_2, if_pos rfl, pk_us]) (fun t' q' => by
          rw [zsR_2, if_neg (by decide), zsR_2, if_pos rfl, zup1, if_neg q']; exact r26 t' q') (fun t' q' => by
          rw [zsR_2, if_pos rfl, zup1, if_neg q', zsR_2, if_neg (by decide)]; exact r27 t' q')
        exact ⟨S', e.trans k1, k2⟩
      have fst : ∀ v, fM_X11_nextShelf (nI i) (nI j) S1 = some v → fM_X11_findStages_81 K (u + 1) x1 (nI i) (nI j) S = (if v = nI j then fM_X11_findStages_151 K (fM_X11_findStages_81 K u) x1 (nI i) (nI j) (nI (6 * i + j)) v S1 else (if N - 1 ≤ i then fM_X11_findStages_151 K (fM_X11_findStages_81 K u) x1 (nI i) (nI j) (nI (6 * i + j)) v S1 else fM_X11_findStages_152 K (fM_X11_findStages_81 K u) x1 (nI i) (nI j) (nI (6 * i + j)) v (nI 1) S1)) := fun v hv => by
        rw [hS1] at hv ho ⊢
        rw [fM_X11_findStages_81]
        simp (disch := omega) only [h2, ho, hv, ↓zN_eq, zL0, zL1, zL2, zL3, zL4, zL5, zL6, zL7, zL8, zL10, zL16, zL31, zL42, zL63, zL64, zL100, zL200, zL255, zL256, zL1000, zL12345, zL536870912, zI_le, zI_lt, zI_eq, zI_add, zI_sub, zI_mul, zI_neN, zI_Nne, zI_leN, zI_ltN, zI_Nle, zI_Nlt, zI_pred, zI_clamp, zI_div, zI_rem, zin_t, zgd_t, znz_t, if_pos, if_neg, if_true, if_false, Option.bind_some]
      by_cases y : i + 1 = N
      · have e := fst _ (pM_nextL hN y p1.1.1.1)
        rw [if_pos rfl] at e
        refine last j false hj6 ?_ q ?_
        · rw [e, zb1_f]; rfl
        · rw [show N - i = 1 by omega, show N - (i + 1) = 0 by omega]
          show zpP _ _ _ N 1 j = _
          rw [zpP_1, show N - 1 = i by omega, if_neg (by decide), if_neg (by decide)]
          rfl
      · have n1 := pM_next (P := zpQ kd ky N gu ac fe ea (N - (i + 1))) hgu hac hj6 p1 (show i + 1 < N by omega) (fun s hs ho => by rw [r26 _ (by omega), r27 _ (by omega)]; exact hW (i + 1) (Nat.le_refl _) (by omega) s hs ho) (fun t ht => zpQ_b hN hb hfe hea _ (by omega) t ht) (zpV_le hN hb hfe hea hi)
        have e := fst _ n1
        have hP : zpQ kd ky N gu ac fe ea (N - i) j = zpS (zpO kd N gu ac) (zpQ kd ky N gu ac fe ea (N - (i + 1))) (zpC kd ky i j) (zpV kd ky fe ea i) j := by
          obtain ⟨k, hk⟩ : ∃ k, k = N - (i + 1) := ⟨_, rfl⟩
          show zpP _ _ _ N (N - i) j = _
          rw [show N - i = k + 1 by omega, zpP_s (by omega), show N - (k + 1) = i by omega, hk]
          rfl
        have hl := zpB_lt (zpO kd N gu ac) (zpF (zpQ kd ky N gu ac fe ea (N - (i + 1))) (zpV kd ky fe ea i) j) 6
        have hmn := (zpB_min (zpO kd N gu ac) (zpF (zpQ kd ky N gu ac fe ea (N - (i + 1))) (zpV kd ky fe ea i) j) 6 j (Nat.le_refl 6) hj6 q).1
        unfold zpS at hP
        generalize zpB (zpO kd N gu ac) (zpF (zpQ kd ky N gu ac fe ea (N - (i + 1))) (zpV kd ky fe ea i) j) 6 = t at *
        have hot : t < 6 ∧ zpO kd N gu ac t = true := by
          rcases hl with u | u
          · exact absurd u hmn
          · exact u
        rw [if_neg hmn] at hP
        rw [ze6_n hmn] at e
        by_cases z : j = t
        · rw [if_pos (show nI t = nI j by rw [z])] at e
          refine last t false hot.1 ?_ hot.2 ?_
          · rw [e, zb1_f]; rfl
          · rw [hP, if_pos z, if_pos z, if_neg (by decide), if_neg (by decide)]
        · rw [if_neg (show ¬ nI t = nI j by rw [zI_eq (by omega) (by omega)]; omega), if_neg (by omega)] at e
          refine last t true hot.1 ?_ hot.2 ?_
          · rw [e, zb1_t]
          · rw [hP, if_neg z, if_neg z, if_pos rfl, if_pos rfl]
    · rw [Bool.eq_false_iff.mpr q, zb1_f] at ho
      obtain ⟨S', k1, k2⟩ := fin S1 f1 (fun w => absurd w q) r26 r27
      refine ⟨S', ?_, k2⟩
      rw [← k1]
      rw [hS1] at ho ⊢
      rw [fM_X11_findStages_81]
      simp (disch := omega) only [ho, ↓zN_eq, zL0, zL1, zL2, zL3, zL4, zL5, zL6, zL7, zL8, zL10, zL16, zL31, zL42, zL63, zL64, zL100, zL200, zL255, zL256, zL1000, zL12345, zL536870912, zI_le, zI_lt, zI_eq, zI_add, zI_sub, zI_mul, zI_neN, zI_Nne, zI_leN, zI_ltN, zI_Nle, zI_Nlt, zI_pred, zI_clamp, zI_div, zI_rem, zin_t, zgd_t, znz_t, if_pos, if_neg, if_true, if_false, Option.bind_some]
theorem pM_find_75 {kd ky : Nat → Nat} {N gu ac fe ea : Nat} {b : Bool} (hgu : gu ≤ 1) (hac : ac ≤ 1) (hfe : fe ≤ 1000) (hea : ea ≤ 1000) : ∀ i u S, i < u → i ≤ N → zMp S kd ky N gu ac fe ea → zMw S kd ky N gu ac fe ea i → ∃ S', fM_X11_findStages_75 u (nI (zb1 b)) (zlw i) S = some (nI (zb1 b), S') ∧ zMp S' kd ky N gu ac fe ea ∧ zMw S' kd ky N gu ac fe ea 0 := by
  intro i
  induction i with
  | zero =>
    intro u S hu hi h hW
    obtain ⟨u, rfl⟩ : ∃ u', u = u' + 1 := ⟨u - 1, by omega⟩
    refine ⟨S, ?_, h, hW⟩
    have hz : zbo (nI (zb1 b)) = true := by cases b <;> decide
    rw [show zlw 0 = zN from if_pos rfl]
    simp (disch := omega) only [fM_X11_findStages_75, hz, ↓zN_eq, zL0, zL1, zL2, zL3, zL4, zL5, zL6, zL7, zL8, zL10, zL16, zL31, zL42, zL63, zL64, zL100, zL200, zL255, zL256, zL1000, zL12345, zL536870912, zI_le, zI_lt, zI_eq, zI_add, zI_sub, zI_mul, zI_neN, zI_Nne, zI_leN, zI_ltN, zI_Nle, zI_Nlt, zI_pred, zI_clamp, zI_div, zI_rem, zin_t, zgd_t, znz_t, if_pos, if_neg, if_true, if_false, Option.bind_some]
  | succ i ih =>
    intro u S hu hi h hW
    obtain ⟨u, rfl⟩ : ∃ u', u = u' + 1 := ⟨u - 1, by omega⟩
    have hN := h.1.1.2.1
    obtain ⟨S1, e1, a1, b1⟩ := pM_find_81 (x1 := nI (zb1 b)) (fM_X11_findStages_75 u) hgu hac hfe hea (show i < N by omega) 6 0 1000 S (by omega) (by omega) h hW (fun s hs => absurd hs (by omega))
    obtain ⟨S2, e2, a2, b2⟩ := ih u S1 (by omega) (by omega) a1 b1
    refine ⟨S2, ?_, a2, b2⟩
    rw [zlw_s, fM_X11_findStages_75, zL0, if_neg (by rw [zI_lt (by omega) (by omega)]; omega)]
    exact e1.trans e2
def zan (off : Nat → Bool) : Nat → Bool
  | 0 => false
  | r + 1 => zan off r || off r
theorem pM_find_8 {kd ky : Nat → Nat} {N gu ac fe ea : Nat} (hgu : gu ≤ 1) (hac : ac ≤ 1) : ∀ r j u S, r < u → j + r = 6 → zMp S kd ky N gu ac fe ea → (∀ s, s < j → S.2 26 (6 * N + s) = nI 0 ∧ S.2 27 (6 * N + s) = nI 0) → ∃ S', fM_X11_findStages_8 u (nI (zb1 (zan (zpO kd N gu ac) j))) (nI j) S = fM_X11_findStages_75 1000 (nI (zb1 (zan (zpO kd N gu ac) 6))) (zlw N) S' ∧ zMp S' kd ky N gu ac fe ea ∧ ∀ s, s < 6 → S'.2 26 (6 * N + s) = nI 0 ∧ S'.2 27 (6 * N + s) = nI 0 := by
  intro r
  induction r with
  | zero =>
    intro j u S hu hj h hd
    obtain ⟨u, rfl⟩ : ∃ u', u = u' + 1 := ⟨u - 1, by omega⟩
    have e : j = 6 := by omega
    have h2 := h.1.1.1
    have e1 : nI N - 1 = zlw N := by
      unfold zlw
      by_cases q : N = 0
      · rw [if_pos q, q]; decide
      · rw [if_neg q, zL1, zI_sub (by omega)]
    refine ⟨S, ?_, h, fun s hs => hd s (by omega)⟩
    rw [e, fM_X11_findStages_8, if_pos (show (6 : Int32) ≤ nI 6 by decide), h2, e1]
  | succ r ih =>
    intro j u S hu hj h hd
    obtain ⟨u, rfl⟩ : ∃ u', u = u' + 1 := ⟨u - 1, by omega⟩
    have hj6 : j < 6 := by omega
    have hN := h.1.1.2.1
    have h2 := h.1.1.1
    obtain ⟨S1, hS1⟩ : ∃ S1, S1 = zsR (zsR S 26 (6 * N + j) (nI 0)) 27 (6 * N + j) (nI 0) := ⟨_, rfl⟩
    have f1 : zfr S S1 [] [26, 27] := by rw [hS1]; exact zfr_tr (zfr_sR (by decide)) (zfr_sR (by decide))
    have ho := zMT2_off h.1 hgu hac hj6
    have es : zan (zpO kd N gu ac) (j + 1) = (zan (zpO kd N gu ac) j || zpO kd N gu ac j) := rfl
    obtain ⟨S', k1, k2⟩ := ih (j + 1) u S1 (by omega) (by omega) (zMp_cg h f1) (fun s hs => by
      rw [hS1]
      show upd (S.2 26) (6 * N + j) (nI 0) (6 * N + s) = nI 0 ∧ upd (S.2 27) (6 * N + j) (nI 0) (6 * N + s) = nI 0
      rw [zup1, zup1]
      by_cases q : 6 * N + s = 6 * N + j
      · rw [if_pos q, if_pos q]; exact ⟨rfl, rfl⟩
      · rw [if_neg q, if_neg q]; exact hd s (by omega))
    refine ⟨S', ?_, k2⟩
    rw [← k1, es, hS1, fM_X11_findStages_8]
    cases zan (zpO kd N gu ac) j
    · cases hq : zpO kd N gu ac j
      · rw [hq] at ho
        rw [zb1_f] at *
        simp (disch := omega) only [fM_X11_findStages_31, fM_X11_findStages_26, ho, h2, ↓zN_eq, zL0, zL1, zL2, zL3, zL4, zL5, zL6, zL7, zL8, zL10, zL16, zL31, zL42, zL63, zL64, zL100, zL200, zL255, zL256, zL1000, zL12345, zL536870912, zI_le, zI_lt, zI_eq, zI_add, zI_sub, zI_mul, zI_neN, zI_Nne, zI_leN, zI_ltN, zI_Nle, zI_Nlt, zI_pred, zI_clamp, zI_div, zI_rem, zin_t, zgd_t, znz_t, if_pos, if_neg, if_true, if_false, Option.bind_some, Bool.or_self, zb1_f]
      · rw [hq] at ho
        rw [zb1_t] at ho
        simp (disch := omega) only [fM_X11_findStages_31, fM_X11_findStages_26, ho, h2, zb1_f, zb1_t, Bool.false_or, ↓zN_eq, zL0, zL1, zL2, zL3, zL4, zL5, zL6, zL7, zL8, zL10, zL16, zL31, zL42, zL63, zL64, zL100, zL200, zL255, zL256, zL1000, zL12345, zL536870912, zI_le, zI_lt, zI_eq, zI_add, zI_sub, zI_mul, zI_neN, zI_Nne, zI_leN, zI_ltN, zI_Nle, zI_Nlt, zI_pred, zI_clamp, zI_div, zI_rem, zin_t, zgd_t, znz_t, if_pos, if_neg, if_true, if_false, Option.bind_some]
    · simp (disch := omega) only [fM_X11_findStages_31, fM_X11_findStages_26, h2, zb1_t, Bool.true_or, ↓zN_eq, zL0, zL1, zL2, zL3, zL4, zL5, zL6, zL7, zL8, zL10, zL16, zL31, zL42, zL63, zL64, zL100, zL200, zL255, zL256, zL1000, zL12345, zL536870912, zI_le, zI_lt, zI_eq, zI_add, zI_sub, zI_mul, zI_neN, zI_Nne, zI_leN, zI_ltN, zI_Nle, zI_Nlt, zI_pred, zI_clamp, zI_div, zI_rem, zin_t, zgd_t, znz_t, if_pos, if_neg, if_true, if_false, Option.bind_some]
theorem zan_1 (off : Nat → Bool) (f : Nat → Nat) : ∀ r, r ≤ 6 → (zan off r = true ↔ zpB off f r ≠ 6) := by
  intro r
  induction r with
  | zero => intro _; exact ⟨fun h => absurd (show false = true from h) (by decide), fun h => absurd rfl h⟩
  | succ r ih =>
    intro hr
    have ih' := ih (by omega)
    have es : zan off (r + 1) = (zan off r || off r) := rfl
    rw [es, Bool.or_eq_true]
    refine ⟨fun h => ?_, fun h => ?_⟩
    · rcases h with h | h
      · have hl := zpB_lt off f r
        have hn := ih'.mp h
        have hs : zpB off f r < r ∧ off (zpB off f r) = true := by
          rcases hl with u | u
          · exact absurd u hn
          · exact u
        exact (zpB_min off f (r + 1) (zpB off f r) hr (by omega) hs.2).1
      · exact (zpB_min off f (r + 1) r hr (by omega) h).1
    · rcases zpB_lt off f (r + 1) with u | ⟨u1, u2⟩
      · exact absurd u h
      · by_cases q : off r = true
        · exact Or.inr q
        · have e2 : zpB off f (r + 1) = zpB off f r := if_neg q
          rw [e2] at h
          exact Or.inl (ih'.mpr h)
theorem pM_findStages {S : zSt} {kd ky : Nat → Nat} {N gu ac fe ea : Nat} (hgu : gu ≤ 1) (hac : ac ≤ 1) (hfe : fe ≤ 1000) (hea : ea ≤ 1000) (h : zMT2 S kd ky N gu ac fe ea) : ∃ S', fM_X11_findStages S = some (nI (zb1 (zan (zpO kd N gu ac) 6)), S') ∧ zMp S' kd ky N gu ac fe ea ∧ zMw S' kd ky N gu ac fe ea 0 := by
  obtain ⟨S1, e1, a1, b1⟩ := zMT2_do h
  have hN := h.1.2.1
  obtain ⟨S2, e2, a2, b2⟩ := pM_find_8 hgu hac 6 0 1000 S1 (by omega) (by omega) ⟨a1, b1⟩ (fun s hs => absurd hs (by omega))
  obtain ⟨S3, e3, a3, b3⟩ := pM_find_75 (b := zan (zpO kd N gu ac) 6) hgu hac hfe hea N 1000 S2 (by omega) (Nat.le_refl N) a2 (fun k k1 k2 s hs _ => by
    rw [show k = N by omega, show N - N = 0 by omega]
    exact b2 s hs)
  refine ⟨S3, ?_, a3, b3⟩
  unfold fM_X11_findStages
  rw [e1, Option.bind_some, zL0]
  exact e2.trans e3
theorem pM_first_4 {S : zSt} {off : Nat → Bool} {P : Nat → Nat × Nat} (ho : ∀ t, t < 6 → fM_X11_isOffered (nI t) S = some (nI (zb1 (off t)))) (hr : zMr S off P 0) (hP : ∀ t, t < 6 → (P t).2 ≤ 200 ∧ (P t).1 ≤ 402000) : ∀ r t u, r < u → t + r = 6 → fM_X11_firstShelf_4 u (ze6 (zpB off (fun s => zpW (P s)) t)) (nI t) S = some (ze6 (zpB off (fun s => zpW (P s)) 6)) := by
  generalize hf : (fun s => zpW (P s)) = f
  have hfe : ∀ t, f t = 256 * (P t).1 + (P t).2 := fun t => by rw [← hf]; rfl
  have hv : ∀ t, t < 6 → off t = true → S.2 26 t = nI (P t).1 ∧ S.2 27 t = nI (P t).2 := fun t ht q => by
    have := hr t ht q
    rw [show 6 * 0 + t = t by omega] at this
    exact this
  intro r
  induction r with
  | zero =>
    intro t u hu ht
    obtain ⟨u, rfl⟩ : ∃ u', u = u' + 1 := ⟨u - 1, by omega⟩
    have e : t = 6 := by omega
    rw [e]
    simp (disch := omega) only [fM_X11_firstShelf_4, ↓zN_eq, zL0, zL1, zL2, zL3, zL4, zL5, zL6, zL7, zL8, zL10, zL16, zL31, zL42, zL63, zL64, zL100, zL200, zL255, zL256, zL1000, zL12345, zL536870912, zI_le, zI_lt, zI_eq, zI_add, zI_sub, zI_mul, zI_neN, zI_Nne, zI_leN, zI_ltN, zI_Nle, zI_Nlt, zI_pred, zI_clamp, zI_div, zI_rem, zin_t, zgd_t, znz_t, if_pos, if_neg, if_true, if_false, Option.bind_some]
  | succ r ih =>
    intro t u hu ht
    obtain ⟨u, rfl⟩ : ∃ u', u = u' + 1 := ⟨u - 1, by omega⟩
    have ht6 : t < 6 := by omega
    have h1 := ho t ht6
    have hl := zpB_lt off f t
    have k := ih (t + 1) u (by omega) (by omega)
    have es : zpB off f (t + 1) = if off t = true then (if zpB off f t = 6 then t else if f (zpB off f t) ≤ f t then zpB off f t else t) else zpB off f t := rfl
    rw [← k]
    by_cases q : off t = true
    · rw [q, zb1_t] at h1
      rw [if_pos q] at es
      obtain ⟨v1, v2⟩ := hv t ht6 q
      obtain ⟨b1, b2⟩ := hP t ht6
      by_cases w : zpB off f t = 6
      · rw [if_pos w] at es
        rw [es, w, ze6_6, ze6_n (by omega), fM_X11_firstShelf_4]
        simp (disch := omega) only [fM_X11_firstShelf_71, h1, ↓zN_eq, zL0, zL1, zL2, zL3, zL4, zL5, zL6, zL7, zL8, zL10, zL16, zL31, zL42, zL63, zL64, zL100, zL200, zL255, zL256, zL1000, zL12345, zL536870912, zI_le, zI_lt, zI_eq, zI_add, zI_sub, zI_mul, zI_neN, zI_Nne, zI_leN, zI_ltN, zI_Nle, zI_Nlt, zI_pred, zI_clamp, zI_div, zI_rem, zin_t, zgd_t, znz_t, if_pos, if_neg, if_true, if_false, Option.bind_some]
      · rw [if_neg w] at es
        have hB6 : zpB off f t < 6 ∧ off (zpB off f t) = true := by
          rcases hl with u | u
          · exact absurd u w
          · exact ⟨by omega, u.2⟩
        obtain ⟨v3, v4⟩ := hv _ hB6.1 hB6.2
        obtain ⟨b3, b4⟩ := hP _ hB6.1
        have hf1 := hfe t
        have hf2 := hfe (zpB off f t)
        generalize zpB off f t = b at *
        by_cases y : f b ≤ f t
        · rw [if_pos y] at es
          rw [es, ze6_n w, fM_X11_firstShelf_4]
          by_cases z : (P t).1 = (P b).1
          · simp (disch := omega) only [fM_X11_firstShelf_71, h1, v1, v2, v3, v4, ↓zN_eq, zL0, zL1, zL2, zL3, zL4, zL5, zL6, zL7, zL8, zL10, zL16, zL31, zL42, zL63, zL64, zL100, zL200, zL255, zL256, zL1000, zL12345, zL536870912, zI_le, zI_lt, zI_eq, zI_add, zI_sub, zI_mul, zI_neN, zI_Nne, zI_leN, zI_ltN, zI_Nle, zI_Nlt, zI_pred, zI_clamp, zI_div, zI_rem, zin_t, zgd_t, znz_t, if_pos, if_neg, if_true, if_false, Option.bind_some]
          · simp (disch := omega) only [fM_X11_firstShelf_71, h1, v1, v2, v3, v4, ↓zN_eq, zL0, zL1, zL2, zL3, zL4, zL5, zL6, zL7, zL8, zL10, zL16, zL31, zL42, zL63, zL64, zL100, zL200, zL255, zL256, zL1000, zL12345, zL536870912, zI_le, zI_lt, zI_eq, zI_add, zI_sub, zI_mul, zI_neN, zI_Nne, zI_leN, zI_ltN, zI_Nle, zI_Nlt, zI_pred, zI_clamp, zI_div, zI_rem, zin_t, zgd_t, znz_t, if_pos, if_neg, if_true, if_false, Option.bind_some]
        · rw [if_neg y] at es
          rw [es, ze6_n w, ze6_n (by omega), fM_X11_firstShelf_4]
          by_cases z : (P t).1 < (P b).1
          · simp (disch := omega) only [fM_X11_firstShelf_71, h1, v1, v2, v3, v4, ↓zN_eq, zL0, zL1, zL2, zL3, zL4, zL5, zL6, zL7, zL8, zL10, zL16, zL31, zL42, zL63, zL64, zL100, zL200, zL255, zL256, zL1000, zL12345, zL536870912, zI_le, zI_lt, zI_eq, zI_add, zI_sub, zI_mul, zI_neN, zI_Nne, zI_leN, zI_ltN, zI_Nle, zI_Nlt, zI_pred, zI_clamp, zI_div, zI_rem, zin_t, zgd_t, znz_t, if_pos, if_neg, if_true, if_false, Option.bind_some]
          · simp (disch := omega) only [fM_X11_firstShelf_71, h1, v1, v2, v3, v4, ↓zN_eq, zL0, zL1, zL2, zL3, zL4, zL5, zL6, zL7, zL8, zL10, zL16, zL31, zL42, zL63, zL64, zL100, zL200, zL255, zL256, zL1000, zL12345, zL536870912, zI_le, zI_lt, zI_eq, zI_add, zI_sub, zI_mul, zI_neN, zI_Nne, zI_leN, zI_ltN, zI_Nle, zI_Nlt, zI_pred, zI_clamp, zI_div, zI_rem, zin_t, zgd_t, znz_t, if_pos, if_neg, if_true, if_false, Option.bind_some]
    · rw [Bool.eq_false_iff.mpr q, zb1_f] at h1
      rw [if_neg q] at es
      rw [es, fM_X11_firstShelf_4]
      simp (disch := omega) only [h1, ↓zN_eq, zL0, zL1, zL2, zL3, zL4, zL5, zL6, zL7, zL8, zL10, zL16, zL31, zL42, zL63, zL64, zL100, zL200, zL255, zL256, zL1000, zL12345, zL536870912, zI_le, zI_lt, zI_eq, zI_add, zI_sub, zI_mul, zI_neN, zI_Nne, zI_leN, zI_ltN, zI_Nle, zI_Nlt, zI_pred, zI_clamp, zI_div, zI_rem, zin_t, zgd_t, znz_t, if_pos, if_neg, if_true, if_false, Option.bind_some]
theorem pM_first {S : zSt} {kd ky : Nat → Nat} {N gu ac fe ea : Nat} (hgu : gu ≤ 1) (hac : ac ≤ 1) (hfe : fe ≤ 1000) (hea : ea ≤ 1000) (h : zMp S kd ky N gu ac fe ea) (hW : zMw S kd ky N gu ac fe ea 0) : fM_X11_firstShelf S = some (ze6 (zp1 kd ky N gu ac fe ea)) := by
  have hN := h.1.1.2.1
  have hb := h.1.1.2.2.2.2.1
  unfold fM_X11_firstShelf
  rw [zL0, zN_eq, ← ze6_6]
  exact pM_first_4 (off := zpO kd N gu ac) (P := zpQ kd ky N gu ac fe ea N) (fun t ht => zMT2_off h.1 hgu hac ht) (hW 0 (Nat.le_refl 0) (Nat.zero_le N)) (fun t ht => zpQ_b hN hb hfe hea N (Nat.le_refl N) t ht) 6 0 1000 (by omega) (by omega)

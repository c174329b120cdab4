/-! no call costs more than 1000 -/
theorem zgr_le (n c : Nat) : zgr n c ≤ n := by
  unfold zgr
  by_cases q : n = c
  · rw [if_pos q]; omega
  · rw [if_neg q]; omega
theorem zlook_le (cn : Nat → Nat) (k : Nat) (hk : k < 64) : zlook cn k ≤ 65 := by
  unfold zlook
  have := (znk_le cn (64 - k) k).2
  by_cases q : znk cn (64 - k) k < 64
  · rw [if_pos q]; omega
  · rw [if_neg q]; omega
theorem zhsK_le (ky n B : Nat) (g : Nat → Nat) : zhsK ky n B g ≤ n + 2 := by
  unfold zhsK
  have h1 := (zEn_le g B n (ky % B)).2
  by_cases q : zpl g ky n 0 < n
  · rw [if_pos q]; omega
  · rw [if_neg q]; omega
theorem ztn_le {tm : Nat → Nat} {k a b : Nat} (hI : zIv tm a b) (hT : zT tm a b k) (hk : k < 64) : ztn tm k a b ≤ 65 := by
  unfold ztn
  by_cases q : ztop tm a k = 64 ∨ ztop tm (k + 1) b = 64
  · rw [if_pos q]; omega
  · rw [if_neg q]
    obtain ⟨h1, h2, _⟩ := zT_lt hI.2.1 hT hk
    have hT2 := ztop_T (tm := tm) (show k + 1 ≤ b by omega) hI.2.1
    rcases hT2 with ⟨u, _⟩ | ⟨u1, u2, _⟩
    · exact absurd (Or.inr u) q
    · have hb := hI.2.1
      have := zsq_le (tm := tm) (lo := k + 1) 64 (ztop tm (k + 1) b) k u1 (by omega) (by omega)
      omega
theorem zlm_le (tm : Nat → Nat) : zlm tm ≤ 65 := by
  unfold zlm
  by_cases q : ztop tm 0 64 = 64
  · rw [if_pos q]; omega
  · rw [if_neg q]
    have hT2 := ztop_T (tm := tm) (show 0 ≤ 64 by omega) (Nat.le_refl 64)
    rcases hT2 with ⟨u, _⟩ | ⟨u1, u2, _⟩
    · exact absurd u q
    · have := zsq_le (tm := tm) (lo := 0) 64 (ztop tm 0 64) 64 u1 u2 (by omega)
      omega
theorem zwW_le {tm : Nat → Nat} {k : Nat} (hj : zJ tm) (hk : k < 64) : zwW tm k ≤ 64 := by
  obtain ⟨w, a, b, ab, e, _, _, _, _, h, _⟩ := zway_ok hj hk
  unfold zwW
  rw [e]; exact h
theorem zac_le {A : zAt} {i j kd ky : Nat} (hA : zaOK A i) (hj : j < 6) (hk : ky < 64) : zac j kd ky A ≤ 1000 := by
  obtain ⟨⟨o1, o2, o3, o4, o7, o5, o6⟩, ⟨p1, p2, p3, p4⟩, ⟨q1, q2⟩, ⟨u1, u2, u3⟩, v1, v2, v3⟩ := hA
  have g1 := zgr_le (zaN A) (zaC A)
  rcases z6c hj with rfl | rfl | rfl | rfl | rfl | rfl
  · show zrwC kd ky (zaN A) (zaC A) (zaG A) ≤ 1000
    unfold zrwC
    have := (zpl_le (zaG A) ky (zaN A) 0).2
    (repeat' split) <;> omega
  · show zsoC kd ky (zaN A) (zaC A) (zaS A) ≤ 1000
    unfold zsoC
    have h1 := zhe_le (zaS A) ky (zaN A)
    have h2 := zhe_le (zaS A) (ky + 1) (zaN A)
    (repeat' split) <;> omega
  · show zhaC kd ky (zaN A) (zaB A) (zaH A) ≤ 1000
    unfold zhaC
    have h1 := zhsK_le ky (zaN A) (zaB A) (zaH A)
    have h2 := (zEn_le (zaH A) (zaB A) (zaN A) (ky % zaB A)).2
    have h3 := zPw_b o5
    (repeat' split) <;> omega
  · show ztrC kd ky (zct2 A) (zaT A) ≤ 1000
    have h1 := zwW_le v1 hk
    have h2 := zlm_le (zaT A)
    have h3 := znd_le (zaT A)
    have h4 : zct2 A ky = 1 → ztn (zaT A) ky (zwA (zaT A) ky) (zwB (zaT A) ky) ≤ 65 := fun e => by
      obtain ⟨k1, k2⟩ := zway_in v1 hk ((v3 ky hk).mpr (by omega))
      exact ztn_le k1 k2 hk
    unfold ztrC
    by_cases c : zct2 A ky = 1
    · have h5 := h4 c
      (repeat' split) <;> omega
    · (repeat' split) <;> omega
  · show zhpC kd ky (zaN A) (zaC A) (zaX A) ≤ 1000
    have h1 := zrs_le (zaN A) (zins (zaX A) (zaN A) ky) (zaN A)
    have h2 := (zpl_le (zaX A) ky (zaN A) 0).2
    have h3 : zpl (zaX A) ky (zaN A) 0 < zaN A → (zhk (zaX A) (zaN A) (zpl (zaX A) ky (zaN A) 0)).2 ≤ zaN A := fun q => zhk_le q
    unfold zhpC
    by_cases c : zpl (zaX A) ky (zaN A) 0 < zaN A
    · have h4 := h3 c
      (repeat' split) <;> omega
    · (repeat' split) <;> omega
  · show zbtC kd ky (zct2 A) ≤ 1000
    have h1 := zlook_le (zct2 A) 0 (by omega)
    have h2 := zlook_le (zct2 A) ky hk
    unfold zbtC
    (repeat' split) <;> omega
/-! the class makes its plan -/
theorem zpV_le {kd ky : Nat → Nat} {N fe ea i : Nat} (hN : N ≤ 200) (hb : ∀ t, t < N → kd t < 8 ∧ ky t < 64) (hfe : fe ≤ 1000) (hea : ea ≤ 1000) (hi : i < N) : zpV kd ky fe ea i ≤ 201000 := by
  have h1 := (zA_ok hN hb (i + 1) (by omega)).1.2.1
  have h2 := Nat.mul_le_mul hea h1
  unfold zpV
  omega
theorem pX_choose_28 {msk : Int32} {off : Nat → Bool} {c : Nat → Nat → Nat} {mv sz : Nat → Nat} {N fe ea : Nat} (X : Nat → Nat) (hX : ∀ i, i + 1 < N → X (i + 1) = zpB off (zpF (zpP off c mv N (N - (i + 1))) (mv i) (X i)) 6) (h6 : ∀ i, i < N → X i < 6) : ∀ r i u S x2, r < u → i + r = N → zXp S msk off c mv sz N fe ea → zWr S off c mv N 0 → (∀ t, t < i → S.2 32 t = nI (X t)) → (i < N → x2 = nI (X i)) → ∃ S', fX_X5_choose_28 u x2 (nI i) S = some S' ∧ (∀ t, t < N → S'.2 32 t = nI (X t)) ∧ zfr S S' [] [32] := by
  intro r
  induction r with
  | zero =>
    intro i u S x2 hu hi h hW hd hx
    obtain ⟨u, rfl⟩ : ∃ u', u = u' + 1 := ⟨u - 1, by omega⟩
    have a1 := h.1
    have hN := h.2.2.2.2.2.2.2.2.2
    refine ⟨S, ?_, fun t ht => hd t (by omega), zfr_rf⟩
    simp (disch := omega) only [fX_X5_choose_28, a1, ↓zN_eq, zL0, zL1, zL2, zL3, zL4, zL5, zL6, zL7, zL8, zL10, zL16, zL31, zL42, zL63, zL64, zL100, zL200, zL255, zL256, zL1000, zL12345, zL536870912, zI_le, zI_lt, zI_eq, zI_add, zI_sub, zI_mul, zI_neN, zI_Nne, zI_leN, zI_ltN, zI_Nle, zI_Nlt, zI_pred, zI_clamp, zI_div, zI_rem, zin_t, zgd_t, znz_t, if_pos, if_neg, if_true, if_false, Option.bind_some]
  | succ r ih =>
    intro i u S x2 hu hi h hW hd hx
    obtain ⟨u, rfl⟩ : ∃ u', u = u' + 1 := ⟨u - 1, by omega⟩
    have a1 := h.1
    have hN := h.2.2.2.2.2.2.2.2.2
    have hx' := hx (by omega)
    have hXi := h6 i (by omega)
    obtain ⟨S1, hS1⟩ : ∃ S1, S1 = zsR S 32 i (nI (X i)) := ⟨_, rfl⟩
    have f1 : zfr S S1 [] [32] := by rw [hS1]; exact zfr_sR (by decide)
    have p1 := zXp_cg h (zfr_mono f1 (by decide) (by decide))
    have W1 : zWr S1 off c mv N 0 := fun t t1 t2 s hs => by
      rw [f1.2 (22 + s) (by
        simp only [List.mem_cons, List.not_mem_nil, or_false]
        omega)]; exact hW t t1 t2 s hs
    have nx : ∃ v, fX_X5_nextOf (nI (X i)) (nI i) S1 = some v ∧ (i + 1 < N → v = nI (X (i + 1))) := by
      by_cases q : i + 1 < N
      · have n1 := (pX_nextP (s := X i) p1 q hXi (fun t ht => W1 (i + 1) (by omega) q t ht)).1
        rw [← hX i q] at n1
        exact ⟨_, n1, fun _ => ze6_n (by have := h6 (i + 1) q; omega)⟩
      · exact ⟨zN, pX_nextL hN (by omega) p1.1, fun w => absurd w q⟩
    obtain ⟨v, nv, nx2⟩ := nx
    obtain ⟨S2, e2, g2, f2⟩ := ih (i + 1) u S1 v (by omega) (by omega) p1 W1 (fun t ht => by
      rw [hS1, zsR_2, if_pos rfl, zup1]
      by_cases q : t = i
      · rw [if_pos q, q]
      · rw [if_neg q]; exact hd t (by omega)) nx2
    refine ⟨S2, ?_, g2, zfr_tr f1 f2⟩
    rw [hS1] at nv e2
    rw [hx', fX_X5_choose_28]
    simp (disch := omega) only [a1, nv, ↓zN_eq, zL0, zL1, zL2, zL3, zL4, zL5, zL6, zL7, zL8, zL10, zL16, zL31, zL42, zL63, zL64, zL100, zL200, zL255, zL256, zL1000, zL12345, zL536870912, zI_le, zI_lt, zI_eq, zI_add, zI_sub, zI_mul, zI_neN, zI_Nne, zI_leN, zI_ltN, zI_Nle, zI_Nlt, zI_pred, zI_clamp, zI_div, zI_rem, zin_t, zgd_t, znz_t, if_pos, if_neg, if_true, if_false, Option.bind_some]
    exact e2
theorem zpX_lt {kd ky : Nat → Nat} {N gu ac fe ea : Nat} (h : zp1 kd ky N gu ac fe ea ≠ 6) : ∀ i, zpX kd ky N gu ac fe ea i < 6 := by
  have hl := zpB_lt (zpO kd N gu ac) (fun s => zpW (zpQ kd ky N gu ac fe ea N s)) 6
  have h1 : zp1 kd ky N gu ac fe ea < 6 ∧ zpO kd N gu ac (zp1 kd ky N gu ac fe ea) = true := by
    rcases hl with u | u
    · exact absurd u h
    · exact u
  intro i
  cases i with
  | zero => exact h1.1
  | succ i =>
    have k := zpB_min (zpO kd N gu ac) (zpF (zpQ kd ky N gu ac fe ea (N - (i + 1))) (zpV kd ky fe ea i) (zpX kd ky N gu ac fe ea i)) 6 _ (Nat.le_refl 6) h1.1 h1.2
    have k2 := zpB_lt (zpO kd N gu ac) (zpF (zpQ kd ky N gu ac fe ea (N - (i + 1))) (zpV kd ky fe ea i) (zpX kd ky N gu ac fe ea i)) 6
    show zpB (zpO kd N gu ac) (zpF (zpQ kd ky N gu ac fe ea (N - (i + 1))) (zpV kd ky fe ea i) (zpX kd ky N gu ac fe ea i)) 6 < 6
    have := k.1
    omega
theorem pX_choose {S : zSt} {msk : Int32} {kd ky : Nat → Nat} {sz : Nat → Nat} {N gu ac fe ea : Nat} (h : zXp S msk (zpO kd N gu ac) (zpC kd ky) (zpV kd ky fe ea) sz N fe ea) (hW : zWr S (zpO kd N gu ac) (zpC kd ky) (zpV kd ky fe ea) N 0) : ∃ S', fX_X5_choose S = some S' ∧ zPL S' kd ky N gu ac fe ea ∧ zfr S S' [10] [32] := by
  have hN := h.2.2.2.2.2.2.2.2.2
  have a1 := h.1
  have hL := pX_light h hW
  have e1 : zpB (zpO kd N gu ac) (fun s => zpW (zpP (zpO kd N gu ac) (zpC kd ky) (zpV kd ky fe ea) N N s)) 6 = zp1 kd ky N gu ac fe ea := rfl
  rw [e1] at hL
  have none : ∀ v, v = zN → fX_X5_lightestAtFirst S = some v → (N = 0 ∨ zp1 kd ky N gu ac fe ea = 6) → ∃ S', fX_X5_choose S = some S' ∧ zPL S' kd ky N gu ac fe ea ∧ zfr S S' [10] [32] := fun v hv hv2 q => by
    refine ⟨zsI S 10 (nI 0), ?_, ⟨?_, fun w i hi => ?_⟩, zfr_sI (by decide)⟩
    · unfold fX_X5_choose fX_X5_choose_23
      rw [hv2, hv, Option.bind_some, if_pos (show zN = -1 from rfl), show (1000 : Nat) = 999 + 1 from rfl, fX_X5_choose_28]
      by_cases w : N = 0
      · have a1' : (zsI S 10 0).1 7 = nI N := a1
        rw [a1', w]
        simp (disch := omega) only [↓zN_eq, zL0, zL1, zL2, zL3, zL4, zL5, zL6, zL7, zL8, zL10, zL16, zL31, zL42, zL63, zL64, zL100, zL200, zL255, zL256, zL1000, zL12345, zL536870912, zI_le, zI_lt, zI_eq, zI_add, zI_sub, zI_mul, zI_neN, zI_Nne, zI_leN, zI_ltN, zI_Nle, zI_Nlt, zI_pred, zI_clamp, zI_div, zI_rem, zin_t, zgd_t, znz_t, if_pos, if_neg, if_true, if_false, Option.bind_some]
      · have a1' : (zsI S 10 0).1 7 = nI N := a1
        rw [a1']
        simp (disch := omega) only [↓zN_eq, zL0, zL1, zL2, zL3, zL4, zL5, zL6, zL7, zL8, zL10, zL16, zL31, zL42, zL63, zL64, zL100, zL200, zL255, zL256, zL1000, zL12345, zL536870912, zI_le, zI_lt, zI_eq, zI_add, zI_sub, zI_mul, zI_neN, zI_Nne, zI_leN, zI_ltN, zI_Nle, zI_Nlt, zI_pred, zI_clamp, zI_div, zI_rem, zin_t, zgd_t, znz_t, if_pos, if_neg, if_true, if_false, Option.bind_some]
    · show nI 0 = nI (zpT kd ky N gu ac fe ea)
      unfold zpT
      rw [if_pos q]
    · rcases q with q | q
      · omega
      · exact absurd q w
  by_cases q : N = 0
  · rw [if_pos q] at hL
    exact none zN rfl hL (Or.inl q)
  · rw [if_neg q] at hL
    by_cases w : zp1 kd ky N gu ac fe ea = 6
    · rw [w, ze6_6] at hL
      exact none zN rfl hL (Or.inr w)
    · rw [ze6_n w] at hL
      have h6 := zpX_lt w
      have h60 : zp1 kd ky N gu ac fe ea < 6 := h6 0
      have v22 : S.2 (22 + zp1 kd ky N gu ac fe ea) 0 = nI (zpW (zpQ kd ky N gu ac fe ea N (zp1 kd ky N gu ac fe ea))) := hW 0 (Nat.le_refl 0) (by omega) _ h60
      obtain ⟨T, hT⟩ : ∃ T, T = zsI S 10 (nI (zpW (zpQ kd ky N gu ac fe ea N (zp1 kd ky N gu ac fe ea)))) := ⟨_, rfl⟩
      have hp : zXp T msk (zpO kd N gu ac) (zpC kd ky) (zpV kd ky fe ea) sz N fe ea := by rw [hT]; exact h
      have hW2 : zWr T (zpO kd N gu ac) (zpC kd ky) (zpV kd ky fe ea) N 0 := by rw [hT]; exact hW
      obtain ⟨S', e, g, f⟩ := pX_choose_28 (zpX kd ky N gu ac fe ea) (fun i hi => rfl) (fun i _ => h6 i) N 0 1000 T (nI (zp1 kd ky N gu ac fe ea)) (by omega) (by omega) hp hW2 (fun t ht => absurd ht (by omega)) (fun _ => rfl)
      refine ⟨S', ?_, ⟨?_, fun _ i hi => g i hi⟩, zfr_tr (zfr_mono (show zfr S T [10] [] by rw [hT]; exact zfr_sI (by decide)) (by decide) (by decide)) (zfr_mono f (by decide) (by decide))⟩
      · rw [← e, hT]
        unfold fX_X5_choose fX_X5_choose_23
        rw [hL, Option.bind_some]
        simp (disch := omega) only [v22, ↓zN_eq, zL0, zL1, zL2, zL3, zL4, zL5, zL6, zL7, zL8, zL10, zL16, zL31, zL42, zL63, zL64, zL100, zL200, zL255, zL256, zL1000, zL12345, zL536870912, zI_le, zI_lt, zI_eq, zI_add, zI_sub, zI_mul, zI_neN, zI_Nne, zI_leN, zI_ltN, zI_Nle, zI_Nlt, zI_pred, zI_clamp, zI_div, zI_rem, zin_t, zgd_t, znz_t, if_pos, if_neg, if_true, if_false, Option.bind_some]
      · rw [f.1 10 (by decide), hT]
        unfold zpT
        rw [if_neg (by omega)]; rfl
theorem pX_plan {S : zSt} {kd ky : Nat → Nat} {N gu ac fe ea : Nat} (hgu : gu ≤ 1) (hac : ac ≤ 1) (hfe : fe ≤ 1000) (hea : ea ≤ 1000) (h : zXT S kd ky N gu ac fe ea) : ∃ S', fX_X10_makePlan S = some S' ∧ zXT S' kd ky N gu ac fe ea ∧ zPL S' kd ky N gu ac fe ea := by
  have h' := h
  obtain ⟨⟨d1, d2, d3, d4, d5, d6, d7, d8⟩, l1, l2, l3, l4, l5⟩ := h'
  rcases l5 with q | ⟨q, qp⟩
  · obtain ⟨U, hU⟩ : ∃ U, U = zsI (zsI (zsI (zsI S 6 (zqM gu ac (zqF kd N 0))) 7 (nI N)) 8 (nI fe)) 9 (nI ea) := ⟨_, rfl⟩
    have fU : zfr S U [6, 7, 8, 9] [] := by rw [hU]; exact zfr_tr (zfr_tr (zfr_tr (zfr_sI (by decide)) (zfr_sI (by decide))) (zfr_sI (by decide))) (zfr_sI (by decide))
    have p : zXp U (zqM gu ac (zqF kd N 0)) (zpO kd N gu ac) (zpC kd ky) (zpV kd ky fe ea) (fun t => zaN (zA kd ky (t + 1))) N fe ea := by
      refine ⟨by rw [hU]; rfl, by rw [hU]; rfl, by rw [hU]; rfl, by rw [hU]; rfl, fun t ht => ?_, fun s hs t ht => ?_, fun V t ht => pX_isOff hgu hac ht, fun i hi => ⟨rfl, zpV_le d2 d5 hfe hea hi⟩, fun i s hi hs => zac_le (zA_ok d2 d5 i (by omega)) hs (d5 i hi).2, d2⟩
      · rw [fU.2 31 (by decide)]; exact d7 t ht
      · rw [fU.2 (10 + s) List.not_mem_nil]; exact (d8 s hs).2.2.1 t ht
    obtain ⟨S1, e1, p1, W1, f1⟩ := pX_weigh p
    obtain ⟨S2, e2, pl, f2⟩ := pX_choose p1 W1
    have fr : zfr S (zsI S2 5 (nI 1)) [5, 6, 7, 8, 9, 10] (32 :: zrX) := zfr_tr (zfr_tr (zfr_tr (zfr_mono fU (by decide) (by decide)) (zfr_mono f1 (by decide) (by decide))) (zfr_mono f2 (by decide) (by decide))) (zfr_sI (by decide))
    have pl' : zPL (zsI S2 5 (nI 1)) kd ky N gu ac fe ea := pl
    refine ⟨zsI S2 5 (nI 1), ?_, ⟨zXI_cg h.1 (fr.1 0 (by decide)) (fun k hk => fr.1 k (by
      simp only [List.mem_cons, List.not_mem_nil, or_false]
      omega)) (fun k q1 q2 q3 q4 q5 q6 q7 => fr.2 k (by
      unfold zrX
      simp only [List.mem_cons, List.not_mem_nil, or_false]
      omega)), (fr.1 1 (by decide)).trans l1, (fr.1 2 (by decide)).trans l2, (fr.1 3 (by decide)).trans l3, (fr.1 4 (by decide)).trans l4, Or.inr ⟨rfl, pl'⟩⟩, pl'⟩
    rw [hU] at e1
    unfold fX_X10_makePlan
    rw [q, zL0, if_pos rfl, zXT_off h hgu hac, Option.bind_some, d1, l3, l4]
    unfold fX_X5_open
    rw [Option.bind_some, e1, Option.bind_some, e2, Option.bind_some, zL1]
  · refine ⟨S, ?_, h, qp⟩
    unfold fX_X10_makePlan
    rw [q, zL0, if_neg (by decide)]

/-! the reference: one call of the trace -/
def zMR (S : zSt) (A : zAt) (i : Nat) : Prop := S.1 18 = nI (zaN A) ∧ (S.2 17 0 = nI (zaC A) ∧ S.2 17 1 = nI (zaC A) ∧ S.2 17 4 = nI (zaC A)) ∧ (zRp (S.2 14) (zaN A) (zaG A) ∧ zRp (S.2 15) (zaN A) (zaS A) ∧ zRp (S.2 16) (zaN A) (zaX A)) ∧ (zRp (S.2 23) 64 (zaT A) ∧ zRp (S.2 24) 64 (zct2 A) ∧ S.1 25 = nI (zaK A)) ∧ ∃ st hk hs s, zHM S (zaN A) (zaB A) st hk hs ∧ zHR hk hs (zaN A) (zaB A) (zaH A) s ∧ st ≤ (zaB A - 8) * 2 + i
theorem zHM_cg {S S' : zSt} {n B st : Nat} {hk hs : Nat → Nat} (h : zHM S n B st hk hs) (e1 : S'.1 18 = S.1 18) (e2 : S'.1 21 = S.1 21) (e3 : S'.1 22 = S.1 22) (e4 : S'.2 19 = S.2 19) (e5 : S'.2 20 = S.2 20) : zHM S' n B st hk hs := by
  obtain ⟨a, b, c, d, e, f⟩ := h
  exact ⟨e1.trans a, e2.trans b, e3.trans c, by rw [e4]; exact d, by rw [e5]; exact e, f⟩
theorem zMR_cg {S S' : zSt} {A : zAt} {i : Nat} (h : zMR S A i) (hi : ∀ k, k ∈ [18, 21, 22, 25] → S'.1 k = S.1 k) (hr : ∀ k, k ∈ [14, 15, 16, 17, 19, 20, 23, 24] → S'.2 k = S.2 k) : zMR S' A i := by
  obtain ⟨a, ⟨b1, b2, b3⟩, ⟨c1, c2, c3⟩, ⟨d1, d2, d3⟩, st, hk, hs, s, e1, e2, e3⟩ := h
  have e17 := hr 17 (by decide)
  refine ⟨(hi 18 (by decide)).trans a, ⟨by rw [e17]; exact b1, by rw [e17]; exact b2, by rw [e17]; exact b3⟩, ⟨by rw [hr 14 (by decide)]; exact c1, by rw [hr 15 (by decide)]; exact c2, by rw [hr 16 (by decide)]; exact c3⟩, ⟨by rw [hr 23 (by decide)]; exact d1, by rw [hr 24 (by decide)]; exact d2, (hi 25 (by decide)).trans d3⟩, st, hk, hs, s, zHM_cg e1 (hi 18 (by decide)) (hi 21 (by decide)) (hi 22 (by decide)) (hr 19 (by decide)) (hr 20 (by decide)), e2, e3⟩
theorem pM_roomOf {S : zSt} {A : zAt} {i j : Nat} (hj : j < 6) (hA : zaOK A i) (h18 : S.1 18 = nI (zaN A)) (h21 : S.1 21 = nI (zaB A)) (h23 : zRp (S.2 23) 64 (zaT A)) (h17 : (j = 0 ∨ j = 1 ∨ j = 4) → S.2 17 j = nI (zaC A)) : fM_X11_roomOf (nI j) S = some (nI (zar j A)) := by
  rcases z6c hj with rfl | rfl | rfl | rfl | rfl | rfl
  · have h := h17 (by omega)
    simp (disch := omega) only [fM_X11_roomOf, h, ↓zN_eq, zL0, zL1, zL2, zL3, zL4, zL5, zL6, zL7, zL8, zL10, zL16, zL31, zL42, zL63, zL64, zL100, zL200, zL255, zL256, zL1000, zL12345, zL536870912, zI_le, zI_lt, zI_eq, zI_add, zI_sub, zI_mul, zI_neN, zI_Nne, zI_leN, zI_ltN, zI_Nle, zI_Nlt, zI_pred, zI_clamp, zI_div, zI_rem, zin_t, zgd_t, znz_t, if_pos, if_neg, if_true, if_false, Option.bind_some]; rfl
  · have h := h17 (by omega)
    simp (disch := omega) only [fM_X11_roomOf, h, ↓zN_eq, zL0, zL1, zL2, zL3, zL4, zL5, zL6, zL7, zL8, zL10, zL16, zL31, zL42, zL63, zL64, zL100, zL200, zL255, zL256, zL1000, zL12345, zL536870912, zI_le, zI_lt, zI_eq, zI_add, zI_sub, zI_mul, zI_neN, zI_Nne, zI_leN, zI_ltN, zI_Nle, zI_Nlt, zI_pred, zI_clamp, zI_div, zI_rem, zin_t, zgd_t, znz_t, if_pos, if_neg, if_true, if_false, Option.bind_some]; rfl
  · simp (disch := omega) only [fM_X11_roomOf, h18, h21, ↓zN_eq, zL0, zL1, zL2, zL3, zL4, zL5, zL6, zL7, zL8, zL10, zL16, zL31, zL42, zL63, zL64, zL100, zL200, zL255, zL256, zL1000, zL12345, zL536870912, zI_le, zI_lt, zI_eq, zI_add, zI_sub, zI_mul, zI_neN, zI_Nne, zI_leN, zI_ltN, zI_Nle, zI_Nlt, zI_pred, zI_clamp, zI_div, zI_rem, zin_t, zgd_t, znz_t, if_pos, if_neg, if_true, if_false, Option.bind_some]; rfl
  · have h := pM_nodes h23 hA.2.2.2.2.2.1
    simp (disch := omega) only [fM_X11_roomOf, h, ↓zN_eq, zL0, zL1, zL2, zL3, zL4, zL5, zL6, zL7, zL8, zL10, zL16, zL31, zL42, zL63, zL64, zL100, zL200, zL255, zL256, zL1000, zL12345, zL536870912, zI_le, zI_lt, zI_eq, zI_add, zI_sub, zI_mul, zI_neN, zI_Nne, zI_leN, zI_ltN, zI_Nle, zI_Nlt, zI_pred, zI_clamp, zI_div, zI_rem, zin_t, zgd_t, znz_t, if_pos, if_neg, if_true, if_false, Option.bind_some]; rfl
  · have h := h17 (by omega)
    simp (disch := omega) only [fM_X11_roomOf, h, ↓zN_eq, zL0, zL1, zL2, zL3, zL4, zL5, zL6, zL7, zL8, zL10, zL16, zL31, zL42, zL63, zL64, zL100, zL200, zL255, zL256, zL1000, zL12345, zL536870912, zI_le, zI_lt, zI_eq, zI_add, zI_sub, zI_mul, zI_neN, zI_Nne, zI_leN, zI_ltN, zI_Nle, zI_Nlt, zI_pred, zI_clamp, zI_div, zI_rem, zin_t, zgd_t, znz_t, if_pos, if_neg, if_true, if_false, Option.bind_some]; rfl
  · simp (disch := omega) only [fM_X11_roomOf, ↓zN_eq, zL0, zL1, zL2, zL3, zL4, zL5, zL6, zL7, zL8, zL10, zL16, zL31, zL42, zL63, zL64, zL100, zL200, zL255, zL256, zL1000, zL12345, zL536870912, zI_le, zI_lt, zI_eq, zI_add, zI_sub, zI_mul, zI_neN, zI_Nne, zI_leN, zI_ltN, zI_Nle, zI_Nlt, zI_pred, zI_clamp, zI_div, zI_rem, zin_t, zgd_t, znz_t, if_pos, if_neg, if_true, if_false, Option.bind_some]; rfl
theorem zar_le {A : zAt} {i j : Nat} (hA : zaOK A i) : zar j A < 1000 := by
  have a5 := zPw_b hA.1.2.2.2.2.2.1
  have a2 := hA.1.2.1
  have a4 := hA.1.2.2.2.1
  have a3 := znd_le (zaT A)
  unfold zar
  split <;> omega
theorem zMR_room {S : zSt} {A : zAt} {i j : Nat} (h : zMR S A i) (hA : zaOK A i) (hj : j < 6) : fM_X11_roomOf (nI j) S = some (nI (zar j A)) := by
  obtain ⟨a, ⟨b1, b2, b3⟩, _, ⟨d1, d2, d3⟩, st, hk, hs, s, e1, e2, e3⟩ := h
  exact pM_roomOf hj hA a e1.2.1 d1 (fun q => by rcases q with rfl | rfl | rfl <;> assumption)
theorem pM_step_324 {A : zAt} {i : Nat} {mr : Nat → Nat} (hA : zaOK A i) (hmr : ∀ j, j < 6 → mr j < 1000) : ∀ r j m S, r < m → j + r = 6 → zMR S A i → (∀ t, t < j → S.2 12 t = nI (zar t A)) → (∀ t, t < 6 → S.2 13 t = nI (if t < j then max (mr t) (zar t A) else mr t)) → ∃ S', fM_X11_step_324 m (nI j) S = some S' ∧ (∀ t, t < 6 → S'.2 12 t = nI (zar t A)) ∧ (∀ t, t < 6 → S'.2 13 t = nI (max (mr t) (zar t A))) ∧ zfr S S' [] [12, 13] := by
  intro r
  induction r with
  | zero =>
    intro j m S hm hj h h12 h13
    obtain ⟨m, rfl⟩ : ∃ m', m = m' + 1 := ⟨m - 1, by omega⟩
    refine ⟨S, ?_, fun t ht => h12 t (by omega), fun t ht => by rw [h13 t ht, if_pos (by omega)], zfr_rf⟩
    simp (disch := omega) only [fM_X11_step_324, ↓zN_eq, zL0, zL1, zL2, zL3, zL4, zL5, zL6, zL7, zL8, zL10, zL16, zL31, zL42, zL63, zL64, zL100, zL200, zL255, zL256, zL1000, zL12345, zL536870912, zI_le, zI_lt, zI_eq, zI_add, zI_sub, zI_mul, zI_neN, zI_Nne, zI_leN, zI_ltN, zI_Nle, zI_Nlt, zI_pred, zI_clamp, zI_div, zI_rem, zin_t, zgd_t, znz_t, if_pos, if_neg, if_true, if_false, Option.bind_some]
  | succ r ih =>
    intro j m S hm hj h h12 h13
    obtain ⟨m, rfl⟩ : ∃ m', m = m' + 1 := ⟨m - 1, by omega⟩
    have hj6 : j < 6 := by omega
    have hrm := zMR_room h hA hj6
    have hb1 := zar_le (j := j) hA
    have hb2 := hmr j hj6
    have v13 : S.2 13 j = nI (mr j) := by rw [h13 j hj6, if_neg (by omega)]
    have v12 : (zsR S 12 j (nI (zar j A))).2 12 j = nI (zar j A) := by rw [zsR_2, if_pos rfl, pk_us]
    have key : fM_X11_step_324 (m + 1) (nI j) S = fM_X11_step_324 m (nI (j + 1)) (zsR (zsR S 12 j (nI (zar j A))) 13 j (nI (max (mr j) (zar j A)))) := by
      by_cases q : zar j A ≤ mr j
      · rw [show max (mr j) (zar j A) = mr j from Nat.max_eq_left q]
        rw [fM_X11_step_324]
        simp (disch := omega) only [fM_X11_step_384, hrm, v13, v12, ↓zN_eq, zL0, zL1, zL2, zL3, zL4, zL5, zL6, zL7, zL8, zL10, zL16, zL31, zL42, zL63, zL64, zL100, zL200, zL255, zL256, zL1000, zL12345, zL536870912, zI_le, zI_lt, zI_eq, zI_add, zI_sub, zI_mul, zI_neN, zI_Nne, zI_leN, zI_ltN, zI_Nle, zI_Nlt, zI_pred, zI_clamp, zI_div, zI_rem, zin_t, zgd_t, znz_t, if_pos, if_neg, if_true, if_false, Option.bind_some]
      · rw [show max (mr j) (zar j A) = zar j A from Nat.max_eq_right (by omega)]
        rw [fM_X11_step_324]
        simp (disch := omega) only [fM_X11_step_384, hrm, v13, v12, ↓zN_eq, zL0, zL1, zL2, zL3, zL4, zL5, zL6, zL7, zL8, zL10, zL16, zL31, zL42, zL63, zL64, zL100, zL200, zL255, zL256, zL1000, zL12345, zL536870912, zI_le, zI_lt, zI_eq, zI_add, zI_sub, zI_mul, zI_neN, zI_Nne, zI_leN, zI_ltN, zI_Nle, zI_Nlt, zI_pred, zI_clamp, zI_div, zI_rem, zin_t, zgd_t, znz_t, if_pos, if_neg, if_true, if_false, Option.bind_some]
    rw [key]
    obtain ⟨S', e, a, b, c⟩ := ih (j + 1) m (zsR (zsR S 12 j (nI (zar j A))) 13 j (nI (max (mr j) (zar j A)))) (by omega) (by omega) (zMR_cg h (fun _ _ => rfl) (fun k hk => by
        rw [zsR_2, if_neg (fun e => by rw [e] at hk; exact absurd hk (by decide)), zsR_2, if_neg (fun e => by rw [e] at hk; exact absurd hk (by decide))])) (fun t ht => by
        rw [zsR_2, if_neg (by decide), zsR_2, if_pos rfl]
        by_cases q : t = j
        · rw [q, pk_us]
        · rw [pk_un q]; exact h12 t (by omega)) (fun t ht => by
        rw [zsR_2, if_pos rfl]
        by_cases q : t = j
        · rw [q, pk_us, if_pos (by omega)]
        · rw [pk_un q, zsR_2, if_neg (by decide), h13 t ht]
          by_cases w : t < j
          · rw [if_pos w, if_pos (by omega)]
          · rw [if_neg w, if_neg (by omega)])
    exact ⟨S', e, a, b, zfr_tr (zfr_tr (zfr_sR (by decide)) (zfr_sR (by decide))) c⟩
/-- from the counts on: answers, how many, rooms -/
theorem pM_step_311 {S : zSt} {A : zAt} {i : Nat} {mr : Nat → Nat} (hA : zaOK A (i + 1)) (hi : i < 200) (hmr : ∀ j, j < 6 → mr j < 1000) (h : zMR S A (i + 1)) (h13 : ∀ t, t < 6 → S.2 13 t = nI (mr t)) : ∃ S', fM_X11_step_311 (nI i) S = some S' ∧ zMR S' A (i + 1) ∧ S'.2 10 = upd (S.2 10) i (nI (zaN A)) ∧ (∀ t, t < 6 → S'.2 12 t = nI (zar t A)) ∧ (∀ t, t < 6 → S'.2 13 t = nI (max (mr t) (zar t A))) ∧ zfr S S' [] [10, 12, 13] := by
  have h10 : zMR (zsR S 10 i (nI (zaN A))) A (i + 1) := zMR_cg h (fun _ _ => rfl) (fun k hk => by rw [zsR_2, if_neg (fun e => by rw [e] at hk; exact absurd hk (by decide))])
  obtain ⟨S', e, a, b, c⟩ := pM_step_324 hA hmr 6 0 1000 (zsR S 10 i (nI (zaN A))) (by omega) (by omega) h10 (fun t ht => absurd ht (by omega)) (fun t ht => by rw [if_neg (by omega), zsR_2, if_neg (by decide)]; exact h13 t ht)
  refine ⟨S', ?_, zMR_cg h10 (fun k _ => c.1 k (by decide +revert)) (fun k hk => c.2 k (fun q => ?_)), ?_, a, b, zfr_tr (zfr_sR (by decide)) (zfr_mono c (by decide) (by decide))⟩
  · unfold fM_X11_step_311
    rw [zin_t hi (by omega), zgd_t, h.1, zI_clamp (by omega), zL0]
    exact e
  · simp only [List.mem_cons, List.not_mem_nil, or_false] at hk q
    omega
  · rw [c.2 10 (by decide), zsR_2, if_pos rfl]
theorem pM_step_189 {S : zSt} {A A0 : zAt} {i kd ky : Nat} {mr : Nat → Nat} (hA : zaOK A (i + 1)) (hA0 : zaOK A0 i) (hE : A = zas kd ky A0) (hi : i < 200) (hd : kd < 8) (hk : ky < 64) (hmr : ∀ j, j < 6 → mr j < 1000) (h : zMR S A (i + 1)) (h13 : ∀ t, t < 6 → S.2 13 t = nI (mr t)) : ∃ S', fM_X11_step_189 (nI i) (nI kd) (nI ky) (if zaN A0 = 0 then zN else nI (zaG A0 0)) (nI (zct2 A0 ky)) S = some S' ∧ zMR S' A (i + 1) ∧ S'.2 9 = upd (S.2 9) i (zans kd ky (zaN A0) (zaG A0)) ∧ S'.2 10 = upd (S.2 10) i (nI (zaN A)) ∧ (∀ t, t < 6 → S'.2 12 t = nI (zar t A)) ∧ (∀ t, t < 6 → S'.2 13 t = nI (max (mr t) (zar t A))) ∧ zfr S S' [] [9, 10, 12, 13] := by
  have hcb : zct2 A0 ky ≤ 200 := zC2_ct hA0 ky hk
  have go : ∀ v : Int32, fM_X11_step_189 (nI i) (nI kd) (nI ky) (if zaN A0 = 0 then zN else nI (zaG A0 0)) (nI (zct2 A0 ky)) S = fM_X11_step_311 (nI i) (zsR S 9 i v) → v = zans kd ky (zaN A0) (zaG A0) → ∃ S', fM_X11_step_189 (nI i) (nI kd) (nI ky) (if zaN A0 = 0 then zN else nI (zaG A0 0)) (nI (zct2 A0 ky)) S = some S' ∧ zMR S' A (i + 1) ∧ S'.2 9 = upd (S.2 9) i (zans kd ky (zaN A0) (zaG A0)) ∧ S'.2 10 = upd (S.2 10) i (nI (zaN A)) ∧ (∀ t, t < 6 → S'.2 12 t = nI (zar t A)) ∧ (∀ t, t < 6 → S'.2 13 t = nI (max (mr t) (zar t A))) ∧ zfr S S' [] [9, 10, 12, 13] := by
    intro v hv hv2
    have h9 : zMR (zsR S 9 i v) A (i + 1) := zMR_cg h (fun _ _ => rfl) (fun k hk => by rw [zsR_2, if_neg (fun e => by rw [e] at hk; exact absurd hk (by decide))])
    obtain ⟨S', e, a, b, c, d, f⟩ := pM_step_311 hA hi hmr h9 (fun t ht => by rw [zsR_2, if_neg (by decide)]; exact h13 t ht)
    refine ⟨S', hv.trans e, a, ?_, ?_, c, d, zfr_tr (S' := zsR S 9 i v) (zfr_sR (by decide)) (zfr_mono f (by decide) (by decide))⟩
    · rw [f.2 9 (by decide), zsR_2, if_pos rfl, hv2]
    · rw [b, zsR_2, if_neg (by decide)]
  have h18 := h.1
  rcases z8 hd with rfl | rfl | rfl | rfl | rfl | rfl | rfl | rfl
  · refine go (nI (zaN A)) ?_ ?_
    · simp (disch := omega) only [fM_X11_step_189, h18, ↓zN_eq, zL0, zL1, zL2, zL3, zL4, zL5, zL6, zL7, zL8, zL10, zL16, zL31, zL42, zL63, zL64, zL100, zL200, zL255, zL256, zL1000, zL12345, zL536870912, zI_le, zI_lt, zI_eq, zI_add, zI_sub, zI_mul, zI_neN, zI_Nne, zI_leN, zI_ltN, zI_Nle, zI_Nlt, zI_pred, zI_clamp, zI_div, zI_rem, zin_t, zgd_t, znz_t, if_pos, if_neg, if_true, if_false, Option.bind_some]
    · rw [hE]; rfl
  · by_cases q : 0 < zct2 A0 ky
    · refine go (nI 1) ?_ ?_
      · simp (disch := omega) only [fM_X11_step_189, fM_X11_step_260, ↓zN_eq, zL0, zL1, zL2, zL3, zL4, zL5, zL6, zL7, zL8, zL10, zL16, zL31, zL42, zL63, zL64, zL100, zL200, zL255, zL256, zL1000, zL12345, zL536870912, zI_le, zI_lt, zI_eq, zI_add, zI_sub, zI_mul, zI_neN, zI_Nne, zI_leN, zI_ltN, zI_Nle, zI_Nlt, zI_pred, zI_clamp, zI_div, zI_rem, zin_t, zgd_t, znz_t, if_pos, if_neg, if_true, if_false, Option.bind_some]
      · unfold zans; rw [if_neg (by decide), if_pos rfl]; unfold zct2 at q; rw [if_pos q]
    · refine go (nI 0) ?_ ?_
      · simp (disch := omega) only [fM_X11_step_189, fM_X11_step_260, ↓zN_eq, zL0, zL1, zL2, zL3, zL4, zL5, zL6, zL7, zL8, zL10, zL16, zL31, zL42, zL63, zL64, zL100, zL200, zL255, zL256, zL1000, zL12345, zL536870912, zI_le, zI_lt, zI_eq, zI_add, zI_sub, zI_mul, zI_neN, zI_Nne, zI_leN, zI_ltN, zI_Nle, zI_Nlt, zI_pred, zI_clamp, zI_div, zI_rem, zin_t, zgd_t, znz_t, if_pos, if_neg, if_true, if_false, Option.bind_some]
      · unfold zans; rw [if_neg (by decide), if_pos rfl]; unfold zct2 at q; rw [if_neg q]
  · by_cases q : 0 < zct2 A0 ky
    · refine go (nI 1) ?_ ?_
      · simp (disch := omega) only [fM_X11_step_189, fM_X11_step_260, ↓zN_eq, zL0, zL1, zL2, zL3, zL4, zL5, zL6, zL7, zL8, zL10, zL16, zL31, zL42, zL63, zL64, zL100, zL200, zL255, zL256, zL1000, zL12345, zL536870912, zI_le, zI_lt, zI_eq, zI_add, zI_sub, zI_mul, zI_neN, zI_Nne, zI_leN, zI_ltN, zI_Nle, zI_Nlt, zI_pred, zI_clamp, zI_div, zI_rem, zin_t, zgd_t, znz_t, if_pos, if_neg, if_true, if_false, Option.bind_some]
      · unfold zans; rw [if_neg (by decide), if_neg (by decide), if_pos rfl]; unfold zct2 at q; rw [if_pos q]
    · refine go (nI 0) ?_ ?_
      · simp (disch := omega) only [fM_X11_step_189, fM_X11_step_260, ↓zN_eq, zL0, zL1, zL2, zL3, zL4, zL5, zL6, zL7, zL8, zL10, zL16, zL31, zL42, zL63, zL64, zL100, zL200, zL255, zL256, zL1000, zL12345, zL536870912, zI_le, zI_lt, zI_eq, zI_add, zI_sub, zI_mul, zI_neN, zI_Nne, zI_leN, zI_ltN, zI_Nle, zI_Nlt, zI_pred, zI_clamp, zI_div, zI_rem, zin_t, zgd_t, znz_t, if_pos, if_neg, if_true, if_false, Option.bind_some]
      · unfold zans; rw [if_neg (by decide), if_neg (by decide), if_pos rfl]; unfold zct2 at q; rw [if_neg q]
  · refine go (nI (zaN A)) ?_ ?_
    · simp (disch := omega) only [fM_X11_step_189, h18, ↓zN_eq, zL0, zL1, zL2, zL3, zL4, zL5, zL6, zL7, zL8, zL10, zL16, zL31, zL42, zL63, zL64, zL100, zL200, zL255, zL256, zL1000, zL12345, zL536870912, zI_le, zI_lt, zI_eq, zI_add, zI_sub, zI_mul, zI_neN, zI_Nne, zI_leN, zI_ltN, zI_Nle, zI_Nlt, zI_pred, zI_clamp, zI_div, zI_rem, zin_t, zgd_t, znz_t, if_pos, if_neg, if_true, if_false, Option.bind_some]
    · rw [hE]; rfl
  · have hnk := pM_nextKey h.2.2.2.1.2.1 (zC2_ct hA) (show 0 < 64 by omega)
    refine go (if znk (zct2 A) (64 - 0) 0 < 64 then nI (znk (zct2 A) (64 - 0) 0) else zN) ?_ ?_
    · simp (disch := omega) only [fM_X11_step_189, hnk, zL0, zL1, zL2, zL3, zL4, zL5, zL6, zI_eq, zin_t, zgd_t, if_pos, if_neg, if_true, if_false, Option.bind_some, zI_clamp]
    · rw [hE]; rfl
  · have hnk := pM_nextKey h.2.2.2.1.2.1 (zC2_ct hA) hk
    refine go (if znk (zct2 A) (64 - ky) ky < 64 then nI (znk (zct2 A) (64 - ky) ky) else zN) ?_ ?_
    · simp (disch := omega) only [fM_X11_step_189, hnk, zL0, zL1, zL2, zL3, zL4, zL5, zL6, zI_eq, zin_t, zgd_t, if_pos, if_neg, if_true, if_false, Option.bind_some, zI_clamp]
    · rw [hE]; rfl
  · refine go (if zaN A0 = 0 then zN else nI (zaG A0 0)) ?_ ?_
    · simp (disch := omega) only [fM_X11_step_189, zL0, zL1, zL2, zL3, zL4, zL5, zL6, zI_eq, zin_t, zgd_t, if_pos, if_neg, if_true, if_false, zI_clamp]
    · rfl
  · refine go (nI (zct2 A0 ky)) ?_ ?_
    · simp (disch := omega) only [fM_X11_step_189, ↓zN_eq, zL0, zL1, zL2, zL3, zL4, zL5, zL6, zL7, zL8, zL10, zL16, zL31, zL42, zL63, zL64, zL100, zL200, zL255, zL256, zL1000, zL12345, zL536870912, zI_le, zI_lt, zI_eq, zI_add, zI_sub, zI_mul, zI_neN, zI_Nne, zI_leN, zI_ltN, zI_Nle, zI_Nlt, zI_pred, zI_clamp, zI_div, zI_rem, zin_t, zgd_t, znz_t, if_pos, if_neg, if_true, if_false, Option.bind_some]
    · rfl

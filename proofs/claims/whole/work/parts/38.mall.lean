/-! the reference: all steps from the start -/
def zmr (kd ky : Nat → Nat) (j : Nat) : Nat → Nat
  | 0 => 0
  | i + 1 => max (zmr kd ky j i) (zar j (zA kd ky (i + 1)))
def zMD (S : zSt) (kd ky : Nat → Nat) (i : Nat) : Prop := zMR S (zA kd ky i) i ∧ (∀ t, t < i → S.2 9 t = zans (kd t) (ky t) (zaN (zA kd ky t)) (zaG (zA kd ky t))) ∧ (∀ t, t < i → S.2 10 t = nI (zaN (zA kd ky (t + 1)))) ∧ (∀ t, t < i → ∀ j, j < 6 → S.2 11 (6 * t + j) = nI (zac j (kd t) (ky t) (zA kd ky t))) ∧ (∀ j, j < 6 → S.2 12 j = nI (zar j (zA kd ky i))) ∧ ∀ j, j < 6 → S.2 13 j = nI (zmr kd ky j i)
theorem zmr_lt {kd ky : Nat → Nat} {N : Nat} (hN : N ≤ 200) (hb : ∀ t, t < N → kd t < 8 ∧ ky t < 64) (j : Nat) : ∀ i, i ≤ N → zmr kd ky j i < 1000 := by
  intro i
  induction i with
  | zero => intro _; show 0 < 1000; omega
  | succ i ih =>
    intro h
    have h1 := ih (by omega)
    have h2 := zar_le (j := j) (zA_ok hN hb (i + 1) h)
    show max (zmr kd ky j i) (zar j (zA kd ky (i + 1))) < 1000
    omega
theorem pM_all_103 {kd ky : Nat → Nat} {N : Nat} (hN : N ≤ 200) (hb : ∀ t, t < N → kd t < 8 ∧ ky t < 64) : ∀ r i m S, r < m → i + r = N → S.1 2 = nI N → zRp (S.2 0) N kd → zRp (S.2 1) N ky → zMD S kd ky i → ∃ S', fM_X11_doAll_103 m (nI i) S = some S' ∧ zMD S' kd ky N ∧ zfr S S' zcI6 zcR6 := by
  intro r
  induction r with
  | zero =>
    intro i m S hm hi h2 h0 h1 h
    obtain ⟨m, rfl⟩ : ∃ m', m = m' + 1 := ⟨m - 1, by omega⟩
    have e : i = N := by omega
    refine ⟨S, ?_, by rw [← e]; exact h, zfr_rf⟩
    simp (disch := omega) only [fM_X11_doAll_103, h2, ↓zN_eq, zL0, zL1, zL2, zL3, zL4, zL5, zL6, zL7, zL8, zL10, zL16, zL31, zL42, zL63, zL64, zL100, zL200, zL255, zL256, zL1000, zL12345, zL536870912, zI_le, zI_lt, zI_eq, zI_add, zI_sub, zI_mul, zI_neN, zI_Nne, zI_leN, zI_ltN, zI_Nle, zI_Nlt, zI_pred, zI_clamp, zI_div, zI_rem, zin_t, zgd_t, znz_t, if_pos, if_neg, if_true, if_false, Option.bind_some]
  | succ r ih =>
    intro i m S hm hi h2 h0 h1 h
    obtain ⟨m, rfl⟩ : ∃ m', m = m' + 1 := ⟨m - 1, by omega⟩
    obtain ⟨a1, a2, a3, a4, a5, a6⟩ := h
    obtain ⟨S1, e1, b1, b9, b10, b11, b12, b13, fr⟩ := pM_step (zA_ok hN hb i (by omega)) (by omega) (hb i (by omega)).1 (hb i (by omega)).2 (h0 i (by omega)) (h1 i (by omega)) a1 (fun j _ => zmr_lt hN hb j i (by omega)) a6
    obtain ⟨S2, e2, c2, fr2⟩ := ih (i + 1) m S1 (by omega) (by omega) ((fr.1 2 (by decide)).trans h2) (by rw [fr.2 0 (by decide)]; exact h0) (by rw [fr.2 1 (by decide)]; exact h1) ⟨b1, fun t ht => by
        rw [b9, zup1]
        by_cases q : t = i
        · rw [if_pos q, q]
        · rw [if_neg q]; exact a2 t (by omega), fun t ht => by
        rw [b10, zup1]
        by_cases q : t = i
        · rw [if_pos q, q]; rfl
        · rw [if_neg q]; exact a3 t (by omega), fun t ht j hj => by
        rw [b11]
        by_cases q : t = i
        · rw [if_pos (by omega), q, show 6 * i + j - 6 * i = j by omega]
        · rw [if_neg (by omega)]; exact a4 t (by omega) j hj, b12, b13⟩
    refine ⟨S2, ?_, c2, zfr_tr fr fr2⟩
    simp (disch := omega) only [fM_X11_doAll_103, h2, e1, ↓zN_eq, zL0, zL1, zL2, zL3, zL4, zL5, zL6, zL7, zL8, zL10, zL16, zL31, zL42, zL63, zL64, zL100, zL200, zL255, zL256, zL1000, zL12345, zL536870912, zI_le, zI_lt, zI_eq, zI_add, zI_sub, zI_mul, zI_neN, zI_Nne, zI_leN, zI_ltN, zI_Nle, zI_Nlt, zI_pred, zI_clamp, zI_div, zI_rem, zin_t, zgd_t, znz_t, if_pos, if_neg, if_true, if_false, Option.bind_some]
    exact e2
theorem pM_all_64 : ∀ r j m S, r < m → j + r = 6 → S.1 18 = nI 0 → S.1 21 = nI 8 → zRp (S.2 23) 64 (fun _ => 0) → (∀ t, t < j → S.2 17 t = nI 4 ∧ S.2 12 t = nI (zar t za0) ∧ S.2 13 t = nI 0) → ∃ S', fM_X11_doAll_64 m (nI j) S = fM_X11_doAll_103 1000 (nI 0) S' ∧ (∀ t, t < 6 → S'.2 17 t = nI 4 ∧ S'.2 12 t = nI (zar t za0) ∧ S'.2 13 t = nI 0) ∧ zfr S S' [] [12, 13, 17] := by
  intro r
  induction r with
  | zero =>
    intro j m S hm hj h18 h21 h23 h
    obtain ⟨m, rfl⟩ : ∃ m', m = m' + 1 := ⟨m - 1, by omega⟩
    refine ⟨S, ?_, fun t ht => h t (by omega), zfr_rf⟩
    rw [fM_X11_doAll_64]
    simp (disch := omega) only [↓zN_eq, zL0, zL1, zL2, zL3, zL4, zL5, zL6, zL7, zL8, zL10, zL16, zL31, zL42, zL63, zL64, zL100, zL200, zL255, zL256, zL1000, zL12345, zL536870912, zI_le, zI_lt, zI_eq, zI_add, zI_sub, zI_mul, zI_neN, zI_Nne, zI_leN, zI_ltN, zI_Nle, zI_Nlt, zI_pred, zI_clamp, zI_div, zI_rem, zin_t, zgd_t, znz_t, if_pos, if_neg, if_true, if_false, Option.bind_some]
  | succ r ih =>
    intro j m S hm hj h18 h21 h23 h
    obtain ⟨m, rfl⟩ : ∃ m', m = m' + 1 := ⟨m - 1, by omega⟩
    have hrm := pM_roomOf (S := zsR S 17 j (nI 4)) (A := za0) (i := 0) (j := j) (by omega) za0_ok h18 h21 h23 (fun _ => by rw [zsR_2, if_pos rfl, pk_us]; rfl)
    obtain ⟨S', e, a, b⟩ := ih (j + 1) m (zsR (zsR (zsR S 17 j (nI 4)) 12 j (nI (zar j za0))) 13 j (nI 0)) (by omega) (by omega) h18 h21 h23 (fun t ht => by
      refine ⟨?_, ?_, ?_⟩
      · show upd (S.2 17) j (nI 4) t = nI 4
        rw [zup1]
        by_cases q : t = j
        · rw [if_pos q]
        · rw [if_neg q]; exact (h t (by omega)).1
      · show upd (S.2 12) j (nI (zar j za0)) t = nI (zar t za0)
        rw [zup1]
        by_cases q : t = j
        · rw [if_pos q, q]
        · rw [if_neg q]; exact (h t (by omega)).2.1
      · show upd (S.2 13) j (nI 0) t = nI 0
        rw [zup1]
        by_cases q : t = j
        · rw [if_pos q]
        · rw [if_neg q]; exact (h t (by omega)).2.2)
    refine ⟨S', ?_, a, zfr_tr (zfr_tr (zfr_tr (S' := zsR S 17 j (nI 4)) (zfr_sR (by decide)) (S'' := zsR (zsR S 17 j (nI 4)) 12 j (nI (zar j za0))) (zfr_sR (by decide))) (zfr_sR (by decide))) b⟩
    rw [fM_X11_doAll_64]
    simp (disch := omega) only [hrm, ↓zN_eq, zL0, zL1, zL2, zL3, zL4, zL5, zL6, zL7, zL8, zL10, zL16, zL31, zL42, zL63, zL64, zL100, zL200, zL255, zL256, zL1000, zL12345, zL536870912, zI_le, zI_lt, zI_eq, zI_add, zI_sub, zI_mul, zI_neN, zI_Nne, zI_leN, zI_ltN, zI_Nle, zI_Nlt, zI_pred, zI_clamp, zI_div, zI_rem, zin_t, zgd_t, znz_t, if_pos, if_neg, if_true, if_false, Option.bind_some]
    exact e
theorem pM_all_36 : ∀ r i m S, r < m → i + r = 64 → (∀ t, t < i → S.2 23 t = nI 0 ∧ S.2 24 t = nI 0) → ∃ S', fM_X11_doAll_36 m (nI i) S = fM_X11_doAll_64 1000 (nI 0) S' ∧ zRp (S'.2 23) 64 (fun _ => 0) ∧ zRp (S'.2 24) 64 (fun _ => 0) ∧ zfr S S' [] [23, 24] := by
  intro r
  induction r with
  | zero =>
    intro i m S hm hi h
    obtain ⟨m, rfl⟩ : ∃ m', m = m' + 1 := ⟨m - 1, by omega⟩
    refine ⟨S, ?_, fun t ht => (h t (by omega)).1, fun t ht => (h t (by omega)).2, zfr_rf⟩
    rw [fM_X11_doAll_36]
    simp (disch := omega) only [↓zN_eq, zL0, zL1, zL2, zL3, zL4, zL5, zL6, zL7, zL8, zL10, zL16, zL31, zL42, zL63, zL64, zL100, zL200, zL255, zL256, zL1000, zL12345, zL536870912, zI_le, zI_lt, zI_eq, zI_add, zI_sub, zI_mul, zI_neN, zI_Nne, zI_leN, zI_ltN, zI_Nle, zI_Nlt, zI_pred, zI_clamp, zI_div, zI_rem, zin_t, zgd_t, znz_t, if_pos, if_neg, if_true, if_false, Option.bind_some]
  | succ r ih =>
    intro i m S hm hi h
    obtain ⟨m, rfl⟩ : ∃ m', m = m' + 1 := ⟨m - 1, by omega⟩
    obtain ⟨S', e, a, b, c⟩ := ih (i + 1) m (zsR (zsR S 23 i (nI 0)) 24 i (nI 0)) (by omega) (by omega) (fun t ht => by
      refine ⟨?_, ?_⟩
      · show upd (S.2 23) i (nI 0) t = nI 0
        rw [zup1]
        by_cases q : t = i
        · rw [if_pos q]
        · rw [if_neg q]; exact (h t (by omega)).1
      · show upd (S.2 24) i (nI 0) t = nI 0
        rw [zup1]
        by_cases q : t = i
        · rw [if_pos q]
        · rw [if_neg q]; exact (h t (by omega)).2)
    refine ⟨S', ?_, a, b, zfr_tr (zfr_tr (S' := zsR S 23 i (nI 0)) (zfr_sR (by decide)) (zfr_sR (by decide))) c⟩
    rw [fM_X11_doAll_36]
    simp (disch := omega) only [↓zN_eq, zL0, zL1, zL2, zL3, zL4, zL5, zL6, zL7, zL8, zL10, zL16, zL31, zL42, zL63, zL64, zL100, zL200, zL255, zL256, zL1000, zL12345, zL536870912, zI_le, zI_lt, zI_eq, zI_add, zI_sub, zI_mul, zI_neN, zI_Nne, zI_leN, zI_ltN, zI_Nle, zI_Nlt, zI_pred, zI_clamp, zI_div, zI_rem, zin_t, zgd_t, znz_t, if_pos, if_neg, if_true, if_false, Option.bind_some]
    exact e
/-- the reference holds the trace -/
def zMT (S : zSt) (kd ky : Nat → Nat) (N : Nat) : Prop := S.1 2 = nI N ∧ N ≤ 200 ∧ zRp (S.2 0) N kd ∧ zRp (S.2 1) N ky ∧ (∀ t, t < N → kd t < 8 ∧ ky t < 64) ∧ (S.1 8 = nI 0 ∨ (S.1 8 = nI 1 ∧ zMD S kd ky N))
theorem zMR_0 {S : zSt} (h18 : S.1 18 = nI 0) (h21 : S.1 21 = nI 8) (h22 : S.1 22 = nI 0) (h25 : S.1 25 = nI 0) (h17 : ∀ t, t < 6 → S.2 17 t = nI 4) (h23 : zRp (S.2 23) 64 (fun _ => 0)) (h24 : zRp (S.2 24) 64 (fun _ => 0)) : zMR S za0 0 := by
  have hn : ∀ j, ¬ j < 0 := fun j h => Nat.not_lt_zero j h
  exact ⟨h18, ⟨h17 0 (by omega), h17 1 (by omega), h17 4 (by omega)⟩, ⟨fun j h => absurd h (hn j), fun j h => absurd h (hn j), fun j h => absurd h (hn j)⟩, ⟨h23, h24, h25⟩, 0, fun _ => 0, fun _ => 0, fun _ => 0, ⟨h18, h21, h22, fun j h => absurd h (hn j), fun j h => absurd h (hn j), Or.inl rfl, Nat.zero_le _, fun j h => absurd h (hn j), by decide, fun j h => absurd h (hn j)⟩, ⟨fun j h => absurd h (hn j), fun j h => absurd h (hn j), fun i j _ h => absurd h (hn j)⟩, by decide⟩
theorem pM_doAll {S : zSt} {kd ky : Nat → Nat} {N : Nat} (h : zMT S kd ky N) : ∃ S', fM_X11_doAll S = some S' ∧ S'.1 8 = nI 1 ∧ zMT S' kd ky N ∧ zMD S' kd ky N ∧ zfr S S' (8 :: zcI6) zcR6 := by
  have h' := h
  obtain ⟨h2, hN, h0, h1, hb, h8⟩ := h'
  rcases h8 with q | ⟨q, qd⟩
  · obtain ⟨T, hT⟩ : ∃ T, T = zsI (zsI (zsI (zsI (zsI S 8 (nI 1)) 18 (nI 0)) 21 (nI 8)) 22 (nI 0)) 25 (nI 0) := ⟨_, rfl⟩
    have fT : zfr S T (8 :: zcI6) zcR6 := by rw [hT]; exact zfr_tr (zfr_tr (zfr_tr (zfr_tr (zfr_sI (by decide)) (zfr_sI (by decide))) (zfr_sI (by decide))) (zfr_sI (by decide))) (zfr_sI (by decide))
    obtain ⟨S1, e1, a1, b1, c1⟩ := pM_all_36 64 0 1000 T (by omega) (by omega) (fun t ht => absurd ht (by omega))
    have i18 : S1.1 18 = nI 0 := (c1.1 18 (by decide)).trans (by rw [hT]; rfl)
    have i21 : S1.1 21 = nI 8 := (c1.1 21 (by decide)).trans (by rw [hT]; rfl)
    have i22 : S1.1 22 = nI 0 := (c1.1 22 (by decide)).trans (by rw [hT]; rfl)
    have i25 : S1.1 25 = nI 0 := (c1.1 25 (by decide)).trans (by rw [hT]; rfl)
    obtain ⟨S2, e2, a2, c2⟩ := pM_all_64 6 0 1000 S1 (by omega) (by omega) i18 i21 a1 (fun t ht => absurd ht (by omega))
    have f2 : zfr S S2 (8 :: zcI6) zcR6 := zfr_tr fT (zfr_tr (zfr_mono c1 (by decide) (by decide)) (zfr_mono c2 (by decide) (by decide)))
    have m0 : zMR S2 za0 0 := zMR_0 ((c2.1 18 (by decide)).trans i18) ((c2.1 21 (by decide)).trans i21) ((c2.1 22 (by decide)).trans i22) ((c2.1 25 (by decide)).trans i25) (fun t ht => (a2 t ht).1) (by rw [c2.2 23 (by decide)]; exact a1) (by rw [c2.2 24 (by decide)]; exact b1)
    obtain ⟨S3, e3, a3, c3⟩ := pM_all_103 hN hb N 0 1000 S2 (by omega) (by omega) ((f2.1 2 (by decide)).trans h2) (by rw [f2.2 0 (by decide)]; exact h0) (by rw [f2.2 1 (by decide)]; exact h1) ⟨m0, fun t ht => absurd ht (by omega), fun t ht => absurd ht (by omega), fun t ht => absurd ht (by omega), fun j hj => (a2 j hj).2.1, fun j hj => (a2 j hj).2.2⟩
    have f3 : zfr S S3 (8 :: zcI6) zcR6 := zfr_tr f2 (zfr_mono c3 (by decide) (by decide))
    have k8 : S3.1 8 = nI 1 := by rw [c3.1 8 (by decide), c2.1 8 (by decide), c1.1 8 (by decide), hT]; rfl
    refine ⟨S3, ?_, k8, ⟨(f3.1 2 (by decide)).trans h2, hN, by rw [f3.2 0 (by decide)]; exact h0, by rw [f3.2 1 (by decide)]; exact h1, hb, Or.inr ⟨k8, a3⟩⟩, a3, f3⟩
    rw [← e3, ← e2, ← e1, hT]
    unfold fM_X11_doAll
    rw [q]
    simp (disch := omega) only [↓zN_eq, zL0, zL1, zL2, zL3, zL4, zL5, zL6, zL7, zL8, zL10, zL16, zL31, zL42, zL63, zL64, zL100, zL200, zL255, zL256, zL1000, zL12345, zL536870912, zI_le, zI_lt, zI_eq, zI_add, zI_sub, zI_mul, zI_neN, zI_Nne, zI_leN, zI_ltN, zI_Nle, zI_Nlt, zI_pred, zI_clamp, zI_div, zI_rem, zin_t, zgd_t, znz_t, if_pos, if_neg, if_true, if_false, Option.bind_some]
  · refine ⟨S, ?_, q, h, qd, zfr_rf⟩
    unfold fM_X11_doAll
    rw [q]
    simp (disch := omega) only [↓zN_eq, zL0, zL1, zL2, zL3, zL4, zL5, zL6, zL7, zL8, zL10, zL16, zL31, zL42, zL63, zL64, zL100, zL200, zL255, zL256, zL1000, zL12345, zL536870912, zI_le, zI_lt, zI_eq, zI_add, zI_sub, zI_mul, zI_neN, zI_Nne, zI_leN, zI_ltN, zI_Nle, zI_Nlt, zI_pred, zI_clamp, zI_div, zI_rem, zin_t, zgd_t, znz_t, if_pos, if_neg, if_true, if_false, Option.bind_some]

/-! the class: a call is laid on the six shelves; they are laid anew -/
theorem zA_congr {kd ky kd' ky' : Nat → Nat} : ∀ i, (∀ t, t < i → kd' t = kd t ∧ ky' t = ky t) → zA kd' ky' i = zA kd ky i := by
  intro i
  induction i with
  | zero => intro _; rfl
  | succ i ih =>
    intro h
    show zas (kd' i) (ky' i) (zA kd' ky' i) = zas (kd i) (ky i) (zA kd ky i)
    rw [ih (fun t ht => h t (by omega)), (h i (by omega)).1, (h i (by omega)).2]
theorem za0_ok : zaOK za0 0 := by
  have hn : ∀ j, ¬ j < zaN za0 := fun j h => Nat.not_lt_zero j h
  have ht : ∀ j, ¬ 0 < zaT za0 j := fun j h => Nat.not_lt_zero 0 h
  have hc : ∀ j, ¬ 0 < zct2 za0 j := fun j h => Nat.not_lt_zero 0 h
  exact ⟨⟨Nat.le_refl 0, Nat.zero_le _, Nat.zero_le _, by decide, by decide, Or.inl rfl, Nat.le_refl 0⟩, ⟨fun j h => absurd h (hn j), fun j h => absurd h (hn j), fun j h => absurd h (hn j), fun j h => absurd h (hn j)⟩, ⟨fun i j _ h => absurd h (hn j), fun i j _ h => absurd h (hn j)⟩, ⟨fun _ => rfl, fun _ => rfl, fun _ => rfl⟩, fun i j _ _ h _ => absurd h (ht i), ⟨by decide, fun j _ => Nat.le_refl 0⟩, fun j _ => ⟨fun h => absurd h (ht j), fun h => absurd h (hc j)⟩⟩
theorem zA_ok {kd ky : Nat → Nat} {N : Nat} (hN : N ≤ 200) (hk : ∀ t, t < N → kd t < 8 ∧ ky t < 64) : ∀ i, i ≤ N → zaOK (zA kd ky i) i := by
  intro i
  induction i with
  | zero => intro _; exact za0_ok
  | succ i ih => intro h; exact zas_ok (ih (by omega)) (by omega) (hk i (by omega)).2
theorem zSh_cg {j : Nat} {S S' : zSt} {kd ky kd' ky' : Nat → Nat} {i : Nat} (hj : j < 6) (h : zSh j S kd ky i) (hi : ∀ k, k ∈ (12 + j) :: zcI j → S'.1 k = S.1 k) (hr : ∀ k, k ∈ (10 + j) :: (16 + j) :: zcR j → S'.2 k = S.2 k) (he : ∀ t, t < i → kd' t = kd t ∧ ky' t = ky t) : zSh j S' kd' ky' i := by
  obtain ⟨a, b, c, d⟩ := h
  refine ⟨?_, (hi _ List.mem_cons_self).trans b, fun t ht => ?_, fun t ht => ?_⟩
  · rw [zA_congr i he]; exact zXR_cg hj a (fun k hk => hi k (List.mem_cons_of_mem _ hk)) (fun k hk => hr k (List.mem_cons_of_mem _ (List.mem_cons_of_mem _ hk)))
  · rw [hr _ List.mem_cons_self, zA_congr t (fun u hu => he u (by omega)), (he t ht).1, (he t ht).2]; exact c t ht
  · rw [hr _ (List.mem_cons_of_mem _ List.mem_cons_self), zA_congr (t + 1) (fun u hu => he u (by omega))]; exact d t ht
theorem zdj {j k : Nat} (hj : j < 6) (hk : k < 6) (h : j ≠ k) : (∀ x, x ∈ (12 + j) :: zcI j → x ∉ zoI k) ∧ (∀ x, x ∈ (10 + j) :: (16 + j) :: zcR j → x ∉ zoR k) := by
  rcases z6c hj with rfl | rfl | rfl | rfl | rfl | rfl <;> rcases z6c hk with rfl | rfl | rfl | rfl | rfl | rfl <;> first | exact absurd rfl h | decide
theorem zSh_ot {j k : Nat} {S S' : zSt} {kd ky : Nat → Nat} {i : Nat} (hj : j < 6) (hk : k < 6) (hne : j ≠ k) (h : zSh j S kd ky i) (f : zfr S S' (zoI k) (zoR k)) : zSh j S' kd ky i := by
  obtain ⟨d1, d2⟩ := zdj hj hk hne
  exact zSh_cg hj h (fun x hx => f.1 x (d1 x hx)) (fun x hx => f.2 x (d2 x hx)) (fun _ _ => ⟨rfl, rfl⟩)
theorem zXR_ot {j k : Nat} {S S' : zSt} {A : zAt} (hj : j < 6) (hk : k < 6) (hne : j ≠ k) (h : zXR j S A) (f : zfr S S' (zoI k) (zoR k)) : zXR j S' A := by
  obtain ⟨d1, d2⟩ := zdj hj hk hne
  exact zXR_cg hj h (fun x hx => f.1 x (d1 x (List.mem_cons_of_mem _ hx))) (fun x hx => f.2 x (d2 x (List.mem_cons_of_mem _ (List.mem_cons_of_mem _ hx))))
def zoIa : List Nat := [12, 13, 14, 15, 16, 17, 19, 20, 22, 23, 24, 26, 27, 29, 30, 31, 32, 33]
def zoRa : List Nat := [10, 11, 12, 13, 14, 15, 16, 17, 18, 19, 20, 21, 33, 34, 35, 36, 37, 38, 39, 40, 41]
theorem zoI_a {j : Nat} (hj : j < 6) : (∀ k, k ∈ zoI j → k ∈ zoIa) ∧ (∀ k, k ∈ zoR j → k ∈ zoRa) ∧ (∀ k, k ∈ (12 + j) :: zcI j → 11 < k) ∧ (∀ k, k ∈ (10 + j) :: (16 + j) :: zcR j → k ≠ 28 ∧ k ≠ 29 ∧ k ≠ 30 ∧ k ≠ 31 ∧ k ≠ 32 ∧ k ≠ 22 ∧ k ≠ 23 ∧ k ≠ 24 ∧ k ≠ 25 ∧ k ≠ 26 ∧ k ≠ 27) := by
  rcases z6c hj with rfl | rfl | rfl | rfl | rfl | rfl <;> decide
theorem zoI_fr {j : Nat} (hj : j < 6) {S S' : zSt} (f : zfr S S' (zoI j) (zoR j)) : zfr S S' zoIa zoRa := zfr_mono f (zoI_a hj).1 (zoI_a hj).2.1
theorem zSh_fo {j : Nat} {S S' : zSt} {kd ky kd' ky' : Nat → Nat} {i : Nat} (hj : j < 6) (h : zSh j S kd ky i) (hi : ∀ k, 11 < k → S'.1 k = S.1 k) (hr : ∀ k, k ≠ 28 → k ≠ 29 → k ≠ 30 → k ≠ 31 → k ≠ 32 → k ≠ 22 → k ≠ 23 → k ≠ 24 → k ≠ 25 → k ≠ 26 → k ≠ 27 → S'.2 k = S.2 k) (he : ∀ t, t < i → kd' t = kd t ∧ ky' t = ky t) : zSh j S' kd' ky' i := by
  obtain ⟨_, _, z1, z2⟩ := zoI_a hj
  exact zSh_cg hj h (fun k hk => hi k (z1 k hk)) (fun k hk => by obtain ⟨q1, q2, q3, q4, q5, q6, q7, q8, q9, q10, q11⟩ := z2 k hk; exact hr k q1 q2 q3 q4 q5 q6 q7 q8 q9 q10 q11) he
theorem pX_lay_61 {kd ky : Nat → Nat} {i : Nat} (hA : zaOK (zA kd ky i) i) (hi : i < 200) (hd : kd i < 8) (hk : ky i < 64) : ∀ r j m S, r < m → j + r = 6 → S.1 0 = nI i → (∀ j', j' < j → zSh j' S kd ky (i + 1)) → (∀ j', j ≤ j' → j' < 6 → zSh j' S kd ky i) → ∃ S', fX_X10_lay_61 m (nI (kd i)) (nI (ky i)) (nI 6) (nI j) S = some (zsI (zsI (zsR S' 31 i (nI (zaN (zA kd ky (i + 1))))) 0 (nI (i + 1))) 5 (nI 0)) ∧ (∀ j', j' < 6 → zSh j' S' kd ky (i + 1)) ∧ zfr S S' zoIa zoRa := by
  intro r
  induction r with
  | zero =>
    intro j m S hm hj h0 h1 h2
    obtain ⟨m, rfl⟩ : ∃ m', m = m' + 1 := ⟨m - 1, by omega⟩
    refine ⟨S, ?_, fun j' hj' => h1 j' (by omega), zfr_rf⟩
    have h20 : S.1 20 = nI (zaN (zA kd ky (i + 1))) := (h1 0 (by omega)).1.1
    simp (disch := omega) only [fX_X10_lay_61, h0, h20, ↓zN_eq, zL0, zL1, zL2, zL3, zL4, zL5, zL6, zL7, zL8, zL10, zL16, zL31, zL42, zL63, zL64, zL100, zL200, zL255, zL256, zL1000, zL12345, zL536870912, zI_le, zI_lt, zI_eq, zI_add, zI_sub, zI_mul, zI_neN, zI_Nne, zI_leN, zI_ltN, zI_Nle, zI_Nlt, zI_pred, zI_clamp, zI_div, zI_rem, zin_t, zgd_t, znz_t, if_pos, if_neg, if_true, if_false, Option.bind_some]
  | succ r ih =>
    intro j m S hm hj h0 h1 h2
    obtain ⟨m, rfl⟩ : ∃ m', m = m' + 1 := ⟨m - 1, by omega⟩
    have hj6 : j < 6 := by omega
    obtain ⟨S1, e1, a1, b1⟩ := pX_take hj6 (h2 j (Nat.le_refl j) hj6) hA hi hd hk
    have b1' := zoI_fr hj6 b1
    have h0' : S1.1 0 = nI i := (b1'.1 0 (by decide)).trans h0
    obtain ⟨S2, e2, a2, b2⟩ := ih (j + 1) m S1 (by omega) (by omega) h0' (fun j' hj' => by
      by_cases q : j' = j
      · rw [q]; exact a1
      · exact zSh_ot (by omega) hj6 q (h1 j' (by omega)) b1) (fun j' g1 g2 => zSh_ot g2 hj6 (by omega) (h2 j' (by omega) g2) b1)
    refine ⟨S2, ?_, a2, zfr_tr b1' b2⟩
    simp (disch := omega) only [fX_X10_lay_61, fX_X10_lay_72, fX_X10_lay_81, e1, ↓zN_eq, zL0, zL1, zL2, zL3, zL4, zL5, zL6, zL7, zL8, zL10, zL16, zL31, zL42, zL63, zL64, zL100, zL200, zL255, zL256, zL1000, zL12345, zL536870912, zI_le, zI_lt, zI_eq, zI_add, zI_sub, zI_mul, zI_neN, zI_Nne, zI_leN, zI_ltN, zI_Nle, zI_Nlt, zI_pred, zI_clamp, zI_div, zI_rem, zin_t, zgd_t, znz_t, if_pos, if_neg, if_true, if_false, Option.bind_some]
    exact e2
/-- the class holds the trace -/
def zXI (S : zSt) (kd ky : Nat → Nat) (N : Nat) : Prop := S.1 0 = nI N ∧ N ≤ 200 ∧ zRp (S.2 28) N kd ∧ zRp (S.2 29) N ky ∧ (∀ t, t < N → kd t < 8 ∧ ky t < 64) ∧ (∀ t, t < N → S.2 30 t = zans (kd t) (ky t) (zaN (zA kd ky t)) (zaG (zA kd ky t))) ∧ (∀ t, t < N → S.2 31 t = nI (zaN (zA kd ky (t + 1)))) ∧ ∀ j, j < 6 → zSh j S kd ky N
theorem pX_lay {S : zSt} {kd ky : Nat → Nat} {N kv yv : Nat} (h : zXI S kd ky N) (hN : N < 200) (hd : kv < 8) (hk : yv < 64) : ∃ S', fX_X10_lay (nI kv) (nI yv) S = some S' ∧ zXI S' (ztmP kd N kv) (ztmP ky N yv) (N + 1) ∧ S'.1 5 = nI 0 ∧ zfr S S' (0 :: 5 :: zoIa) (28 :: 29 :: 30 :: 31 :: zoRa) := by
  obtain ⟨h1, h2, h3, h4, h5, h6, h7, h8⟩ := h
  have ek : ∀ t, t < N → ztmP kd N kv t = kd t ∧ ztmP ky N yv t = ky t := fun t ht => ⟨if_neg (by omega), if_neg (by omega)⟩
  have eN1 : ztmP kd N kv N = kv := if_pos rfl
  have eN2 : ztmP ky N yv N = yv := if_pos rfl
  have eA : zA (ztmP kd N kv) (ztmP ky N yv) N = zA kd ky N := zA_congr N ek
  have hb : ∀ t, t < N + 1 → ztmP kd N kv t < 8 ∧ ztmP ky N yv t < 64 := fun t ht => by
    by_cases q : t = N
    · rw [q, eN1, eN2]; exact ⟨hd, hk⟩
    · rw [(ek t (by omega)).1, (ek t (by omega)).2]; exact h5 t (by omega)
  have hA := zA_ok (show N + 1 ≤ 200 by omega) hb N (by omega)
  have hr : zXR 0 S (zA kd ky N) := (h8 0 (by omega)).1
  have hg : zaOK (zA kd ky N) N := by rw [← eA]; exact hA
  have hans := pX_answerTo (S := zsR (zsR S 28 N (nI kv)) 29 N (nI yv)) hr.1 hg.1.2.1 hr.2.2.1 hg.2.1.1 hd hk
  obtain ⟨S1, e1, a1, b1⟩ := pX_lay_61 (kd := ztmP kd N kv) (ky := ztmP ky N yv) hA hN (by rw [eN1]; exact hd) (by rw [eN2]; exact hk) 6 0 1000 (zsR (zsR (zsR S 28 N (nI kv)) 29 N (nI yv)) 30 N (zans kv yv (zaN (zA kd ky N)) (zaG (zA kd ky N)))) (by omega) (by omega) h1 (fun j' h => absurd h (by omega)) (fun j' _ hj' => zSh_fo hj' (h8 j' hj') (fun k _ => rfl) (fun k q1 q2 q3 _ _ _ _ _ _ _ _ => by rw [zsR_2, if_neg q3, zsR_2, if_neg q2, zsR_2, if_neg q1]) ek)
  rw [eN1, eN2] at e1
  refine ⟨zsI (zsI (zsR S1 31 N (nI (zaN (zA (ztmP kd N kv) (ztmP ky N yv) (N + 1))))) 0 (nI (N + 1))) 5 (nI 0), ?_, ⟨rfl, by omega, ?_, ?_, hb, fun t ht => ?_, fun t ht => ?_, fun j hj => ?_⟩, rfl, ?_⟩
  · rw [← e1]
    generalize (zA kd ky N) = A at *
    unfold fX_X10_lay
    rw [h1]
    simp (disch := omega) only [hans, ↓zN_eq, zL0, zL1, zL2, zL3, zL4, zL5, zL6, zL7, zL8, zL10, zL16, zL31, zL42, zL63, zL64, zL100, zL200, zL255, zL256, zL1000, zL12345, zL536870912, zI_le, zI_lt, zI_eq, zI_add, zI_sub, zI_mul, zI_neN, zI_Nne, zI_leN, zI_ltN, zI_Nle, zI_Nlt, zI_pred, zI_clamp, zI_div, zI_rem, zin_t, zgd_t, znz_t, if_pos, if_neg, if_true, if_false, Option.bind_some]
  · show zRp (S1.2 28) (N + 1) _
    rw [b1.2 28 (by decide)]
    intro t ht
    show upd (S.2 28) N (nI kv) t = nI (ztmP kd N kv t)
    by_cases q : t = N
    · rw [q, pk_us, eN1]
    · rw [pk_un q, (ek t (by omega)).1]; exact h3 t (by omega)
  · show zRp (S1.2 29) (N + 1) _
    rw [b1.2 29 (by decide)]
    intro t ht
    show upd (S.2 29) N (nI yv) t = nI (ztmP ky N yv t)
    by_cases q : t = N
    · rw [q, pk_us, eN2]
    · rw [pk_un q, (ek t (by omega)).2]; exact h4 t (by omega)
  · show S1.2 30 t = _
    rw [b1.2 30 (by decide)]
    show upd (S.2 30) N _ t = _
    by_cases q : t = N
    · rw [q, pk_us, eN1, eN2, eA]
    · rw [pk_un q, (ek t (by omega)).1, (ek t (by omega)).2, zA_congr t (fun u hu => ek u (by omega))]; exact h6 t (by omega)
  · show upd (S1.2 31) N _ t = _
    by_cases q : t = N
    · rw [q, pk_us]
    · rw [pk_un q, b1.2 31 (by decide), zA_congr (t + 1) (fun u hu => ek u (by omega))]; exact h7 t (by omega)
  · exact zSh_fo hj (a1 j hj) (fun k hk => by rw [zsI_1, if_neg (by omega), zsI_1, if_neg (by omega)]; rfl) (fun k _ _ _ q _ _ _ _ _ _ _ => by rw [zsI_2, zsI_2, zsR_2, if_neg q]) (fun _ _ => ⟨rfl, rfl⟩)
  · refine zfr_tr (zfr_tr (zfr_tr (zfr_tr (S' := zsR S 28 N (nI kv)) (zfr_sR (by decide)) (S'' := zsR (zsR S 28 N (nI kv)) 29 N (nI yv)) (zfr_sR (by decide))) (zfr_sR (by decide))) (zfr_mono b1 (fun k hk => List.mem_cons_of_mem _ (List.mem_cons_of_mem _ hk)) (fun k hk => List.mem_cons_of_mem _ (List.mem_cons_of_mem _ (List.mem_cons_of_mem _ (List.mem_cons_of_mem _ hk)))))) (zfr_tr (zfr_tr (zfr_sR (by decide)) (zfr_sI (by decide))) (zfr_sI (by decide)))
/-! anew -/
theorem pX_fill_38 : ∀ r i m S, r < m → i + r = 64 → (∀ t, t < i → S.2 38 t = nI 0) → ∃ S', fX_J7_fill_53178_38_5 m (nI 0) (nI i) (nI 64) S = some S' ∧ zRp (S'.2 38) 64 (fun _ => 0) ∧ zfr S S' [] [38] := by
  intro r
  induction r with
  | zero =>
    intro i m S hm hi h
    obtain ⟨m, rfl⟩ : ∃ m', m = m' + 1 := ⟨m - 1, by omega⟩
    refine ⟨S, ?_, fun t ht => h t (by omega), zfr_rf⟩
    simp (disch := omega) only [fX_J7_fill_53178_38_5, ↓zN_eq, zL0, zL1, zL2, zL3, zL4, zL5, zL6, zL7, zL8, zL10, zL16, zL31, zL42, zL63, zL64, zL100, zL200, zL255, zL256, zL1000, zL12345, zL536870912, zI_le, zI_lt, zI_eq, zI_add, zI_sub, zI_mul, zI_neN, zI_Nne, zI_leN, zI_ltN, zI_Nle, zI_Nlt, zI_pred, zI_clamp, zI_div, zI_rem, zin_t, zgd_t, znz_t, if_pos, if_neg, if_true, if_false, Option.bind_some]
  | succ r ih =>
    intro i m S hm hi h
    obtain ⟨m, rfl⟩ : ∃ m', m = m' + 1 := ⟨m - 1, by omega⟩
    obtain ⟨S', e, a, b⟩ := ih (i + 1) m (zsR S 38 i (nI 0)) (by omega) (by omega) (fun t ht => by
      rw [zsR_2, if_pos rfl]
      by_cases q : t = i
      · rw [q, pk_us]
      · rw [pk_un q]; exact h t (by omega))
    refine ⟨S', ?_, a, zfr_tr (zfr_sR (by decide)) b⟩
    simp (disch := omega) only [fX_J7_fill_53178_38_5, ↓zN_eq, zL0, zL1, zL2, zL3, zL4, zL5, zL6, zL7, zL8, zL10, zL16, zL31, zL42, zL63, zL64, zL100, zL200, zL255, zL256, zL1000, zL12345, zL536870912, zI_le, zI_lt, zI_eq, zI_add, zI_sub, zI_mul, zI_neN, zI_Nne, zI_leN, zI_ltN, zI_Nle, zI_Nlt, zI_pred, zI_clamp, zI_div, zI_rem, zin_t, zgd_t, znz_t, if_pos, if_neg, if_true, if_false, Option.bind_some]
    exact e

theorem pX_fill_39 : ∀ r i m S, r < m → i + r = 64 → (∀ t, t < i → S.2 39 t = nI 0) → ∃ S', fX_J7_fill_53178_39_5 m (nI 0) (nI i) (nI 64) S = some S' ∧ zRp (S'.2 39) 64 (fun _ => 0) ∧ zfr S S' [] [39] := by
  intro r
  induction r with
  | zero =>
    intro i m S hm hi h
    obtain ⟨m, rfl⟩ : ∃ m', m = m' + 1 := ⟨m - 1, by omega⟩
    refine ⟨S, ?_, fun t ht => h t (by omega), zfr_rf⟩
    simp (disch := omega) only [fX_J7_fill_53178_39_5, ↓zN_eq, zL0, zL1, zL2, zL3, zL4, zL5, zL6, zL7, zL8, zL10, zL16, zL31, zL42, zL63, zL64, zL100, zL200, zL255, zL256, zL1000, zL12345, zL536870912, zI_le, zI_lt, zI_eq, zI_add, zI_sub, zI_mul, zI_neN, zI_Nne, zI_leN, zI_ltN, zI_Nle, zI_Nlt, zI_pred, zI_clamp, zI_div, zI_rem, zin_t, zgd_t, znz_t, if_pos, if_neg, if_true, if_false, Option.bind_some]
  | succ r ih =>
    intro i m S hm hi h
    obtain ⟨m, rfl⟩ : ∃ m', m = m' + 1 := ⟨m - 1, by omega⟩
    obtain ⟨S', e, a, b⟩ := ih (i + 1) m (zsR S 39 i (nI 0)) (by omega) (by omega) (fun t ht => by
      rw [zsR_2, if_pos rfl]
      by_cases q : t = i
      · rw [q, pk_us]
      · rw [pk_un q]; exact h t (by omega))
    refine ⟨S', ?_, a, zfr_tr (zfr_sR (by decide)) b⟩
    simp (disch := omega) only [fX_J7_fill_53178_39_5, ↓zN_eq, zL0, zL1, zL2, zL3, zL4, zL5, zL6, zL7, zL8, zL10, zL16, zL31, zL42, zL63, zL64, zL100, zL200, zL255, zL256, zL1000, zL12345, zL536870912, zI_le, zI_lt, zI_eq, zI_add, zI_sub, zI_mul, zI_neN, zI_Nne, zI_leN, zI_ltN, zI_Nle, zI_Nlt, zI_pred, zI_clamp, zI_div, zI_rem, zin_t, zgd_t, znz_t, if_pos, if_neg, if_true, if_false, Option.bind_some]
    exact e

theorem pX_restart {j : Nat} {S : zSt} {A : zAt} (hj : j < 6) (h : zXR j S A) : ∃ S', fX_d_restart j S = some S' ∧ zXR j S' za0 ∧ S'.1 (12 + j) = nI 0 ∧ zfr S S' (zoI j) (zoR j) := by
  rcases z6c hj with rfl | rfl | rfl | rfl | rfl | rfl
  · refine ⟨zsI (zsI (zsI S 12 0) 19 (S.1 18)) 20 0, by rw [fX_d_restart_0]; rfl, ⟨rfl, h.2.2.2, fun t ht => absurd ht (by show ¬ t < 0; omega), h.2.2.2⟩, rfl, ?_⟩
    exact zfr_tr (zfr_tr (S' := zsI S 12 0) (zfr_sI (by decide)) (S'' := zsI (zsI S 12 0) 19 (S.1 18)) (zfr_sI (by decide))) (zfr_sI (by decide))
  · refine ⟨zsI (zsI (zsI S 13 0) 22 (S.1 21)) 23 0, by rw [fX_d_restart_1]; rfl, ⟨rfl, h.2.2.2, fun t ht => absurd ht (by show ¬ t < 0; omega), h.2.2.2⟩, rfl, ?_⟩
    exact zfr_tr (zfr_tr (S' := zsI S 13 0) (zfr_sI (by decide)) (S'' := zsI (zsI S 13 0) 22 (S.1 21)) (zfr_sI (by decide))) (zfr_sI (by decide))
  · refine ⟨zsI (zsI (zsI S 14 0) 26 (S.1 25)) 27 0, by rw [fX_d_restart_2]; rfl, ⟨rfl, h.2.2.2, fun t ht => absurd ht (by show ¬ t < 0; omega), h.2.2.2⟩, rfl, ?_⟩
    exact zfr_tr (zfr_tr (S' := zsI S 14 0) (zfr_sI (by decide)) (S'' := zsI (zsI S 14 0) 26 (S.1 25)) (zfr_sI (by decide))) (zfr_sI (by decide))
  · obtain ⟨S1, e, a, b⟩ := pX_fill_38 64 0 1000 (zsI S 15 (nI 0)) (by omega) (by omega) (fun t ht => absurd ht (by omega))
    refine ⟨zsI (zsI S1 31 (-1)) 32 (nI 0), ?_, ⟨fun _ => 64, fun _ => 64, 64, ⟨?_, fun t _ q => absurd q (by show ¬ 0 < 0; omega), fun t _ q => absurd q (by show ¬ 0 < 0; omega), ⟨Or.inl ⟨rfl, fun _ _ _ => rfl⟩, fun a b t _ hT ht => ?_⟩⟩, a, ?_⟩, (b.1 15 (by decide)).trans rfl, ?_⟩
    · rw [fX_d_restart_3]
      unfold fX_X7_restart_Tree fX_X9_clear fX_X1_clear_Tree fX_J7_fill_53178_38
      rw [zL0, zL64, e]; rfl
    · show (-1 : Int32) = zec 64
      rw [zec_64]; rfl
    · rcases hT with q | q
      · omega
      · exact absurd q.2.2.1 (by show ¬ 0 < 0; omega)
    · show nI 0 = nI (znd (fun _ => 0))
      rw [show znd (fun _ => 0) = 0 from by
        show zct (fun j => decide (0 < 0)) 64 = 0
        rw [show (fun _ : Nat => decide (0 < 0)) = fun _ => false from funext fun _ => rfl]
        exact zct_0 64]
    · exact zfr_tr (zfr_tr (zfr_sI (S := S) (k := 15) (v := nI 0) (by decide)) (zfr_mono b (by decide) (by decide))) (zfr_tr (zfr_sI (by decide)) (zfr_sI (by decide)))
  · refine ⟨zsI (zsI (zsI S 16 0) 29 (S.1 28)) 30 0, by rw [fX_d_restart_4]; rfl, ⟨rfl, h.2.2.2, fun t ht => absurd ht (by show ¬ t < 0; omega), h.2.2.2⟩, rfl, ?_⟩
    exact zfr_tr (zfr_tr (S' := zsI S 16 0) (zfr_sI (by decide)) (S'' := zsI (zsI S 16 0) 29 (S.1 28)) (zfr_sI (by decide))) (zfr_sI (by decide))
  · obtain ⟨S1, e, a, b⟩ := pX_fill_39 64 0 1000 (zsI S 17 (nI 0)) (by omega) (by omega) (fun t ht => absurd ht (by omega))
    refine ⟨S1, ?_, a, (b.1 17 (by decide)).trans rfl, ?_⟩
    · rw [fX_d_restart_5]
      unfold fX_X7_restart_Bits fX_X1_clear_Bits fX_J7_fill_53178_39
      rw [zL0, zL64, e]; rfl
    · exact zfr_tr (zfr_sI (S := S) (k := 17) (v := nI 0) (by decide)) (zfr_mono b (by decide) (by decide))
theorem pX_anew_6 {j N : Nat} {kd ky : Nat → Nat} (hj : j < 6) (hN : N ≤ 200) (hb : ∀ t, t < N → kd t < 8 ∧ ky t < 64) : ∀ r i m S, r < m → i + r = N → S.1 0 = nI N → zRp (S.2 28) N kd → zRp (S.2 29) N ky → zSh j S kd ky i → ∃ S', fX_X10_layAnew_d_6 m j (nI i) S = some S' ∧ zSh j S' kd ky N ∧ zfr S S' (zoI j) (zoR j) := by
  intro r
  induction r with
  | zero =>
    intro i m S hm hi h0 h28 h29 h
    obtain ⟨m, rfl⟩ : ∃ m', m = m' + 1 := ⟨m - 1, by omega⟩
    have e : i = N := by omega
    refine ⟨S, ?_, by rw [← e]; exact h, zfr_rf⟩
    simp (disch := omega) only [fX_X10_layAnew_d_6, h0, ↓zN_eq, zL0, zL1, zL2, zL3, zL4, zL5, zL6, zL7, zL8, zL10, zL16, zL31, zL42, zL63, zL64, zL100, zL200, zL255, zL256, zL1000, zL12345, zL536870912, zI_le, zI_lt, zI_eq, zI_add, zI_sub, zI_mul, zI_neN, zI_Nne, zI_leN, zI_ltN, zI_Nle, zI_Nlt, zI_pred, zI_clamp, zI_div, zI_rem, zin_t, zgd_t, znz_t, if_pos, if_neg, if_true, if_false, Option.bind_some]
  | succ r ih =>
    intro i m S hm hi h0 h28 h29 h
    obtain ⟨m, rfl⟩ : ∃ m', m = m' + 1 := ⟨m - 1, by omega⟩
    obtain ⟨S1, e1, a1, b1⟩ := pX_take hj h (zA_ok hN hb i (by omega)) (by omega) (hb i (by omega)).1 (hb i (by omega)).2
    have b1' := zoI_fr hj b1
    have e28 : S1.2 28 = S.2 28 := b1'.2 28 (by decide)
    have e29 : S1.2 29 = S.2 29 := b1'.2 29 (by decide)
    obtain ⟨S2, e2, a2, b2⟩ := ih (i + 1) m S1 (by omega) (by omega) ((b1'.1 0 (by decide)).trans h0) (by rw [e28]; exact h28) (by rw [e29]; exact h29) a1
    refine ⟨S2, ?_, a2, zfr_tr b1 b2⟩
    have v1 := h28 i (by omega)
    have v2 := h29 i (by omega)
    simp (disch := omega) only [fX_X10_layAnew_d_6, fX_X10_layAnew_d_30, h0, v1, v2, e1, ↓zN_eq, zL0, zL1, zL2, zL3, zL4, zL5, zL6, zL7, zL8, zL10, zL16, zL31, zL42, zL63, zL64, zL100, zL200, zL255, zL256, zL1000, zL12345, zL536870912, zI_le, zI_lt, zI_eq, zI_add, zI_sub, zI_mul, zI_neN, zI_Nne, zI_leN, zI_ltN, zI_Nle, zI_Nlt, zI_pred, zI_clamp, zI_div, zI_rem, zin_t, zgd_t, znz_t, if_pos, if_neg, if_true, if_false, Option.bind_some]
    exact e2
theorem pX_layAnew {j N : Nat} {S : zSt} {A : zAt} {kd ky : Nat → Nat} (hj : j < 6) (hN : N ≤ 200) (hb : ∀ t, t < N → kd t < 8 ∧ ky t < 64) (h0 : S.1 0 = nI N) (h28 : zRp (S.2 28) N kd) (h29 : zRp (S.2 29) N ky) (h : zXR j S A) : ∃ S', fX_X10_layAnew_d j S = some S' ∧ zSh j S' kd ky N ∧ zfr S S' (zoI j) (zoR j) := by
  obtain ⟨S1, e1, a1, b1, c1⟩ := pX_restart hj h
  have c1' := zoI_fr hj c1
  have e28 : S1.2 28 = S.2 28 := c1'.2 28 (by decide)
  have e29 : S1.2 29 = S.2 29 := c1'.2 29 (by decide)
  obtain ⟨S2, e2, a2, b2⟩ := pX_anew_6 hj hN hb N 0 1000 S1 (by omega) (by omega) ((c1'.1 0 (by decide)).trans h0) (by rw [e28]; exact h28) (by rw [e29]; exact h29) ⟨a1, b1, fun t ht => absurd ht (by omega), fun t ht => absurd ht (by omega)⟩
  refine ⟨S2, ?_, a2, zfr_tr c1 b2⟩
  unfold fX_X10_layAnew_d fX_X10_layAnew_d_4
  rw [e1, Option.bind_some, zL0]
  exact e2
theorem pX_drop_44 {N : Nat} {kd ky : Nat → Nat} (hN : N ≤ 200) (hb : ∀ t, t < N → kd t < 8 ∧ ky t < 64) : ∀ r j m S, r < m → j + r = 6 → S.1 0 = nI N → zRp (S.2 28) N kd → zRp (S.2 29) N ky → (∀ j', j' < j → zSh j' S kd ky N) → (∀ j', j ≤ j' → j' < 6 → ∃ A, zXR j' S A) → ∃ S', fX_X10_drop_44 m (nI 6) (nI j) S = some (nI N, S') ∧ (∀ j', j' < 6 → zSh j' S' kd ky N) ∧ zfr S S' zoIa zoRa := by
  intro r
  induction r with
  | zero =>
    intro j m S hm hj h0 h28 h29 h1 h2
    obtain ⟨m, rfl⟩ : ∃ m', m = m' + 1 := ⟨m - 1, by omega⟩
    refine ⟨S, ?_, fun j' hj' => h1 j' (by omega), zfr_rf⟩
    simp (disch := omega) only [fX_X10_drop_44, h0, ↓zN_eq, zL0, zL1, zL2, zL3, zL4, zL5, zL6, zL7, zL8, zL10, zL16, zL31, zL42, zL63, zL64, zL100, zL200, zL255, zL256, zL1000, zL12345, zL536870912, zI_le, zI_lt, zI_eq, zI_add, zI_sub, zI_mul, zI_neN, zI_Nne, zI_leN, zI_ltN, zI_Nle, zI_Nlt, zI_pred, zI_clamp, zI_div, zI_rem, zin_t, zgd_t, znz_t, if_pos, if_neg, if_true, if_false, Option.bind_some]
  | succ r ih =>
    intro j m S hm hj h0 h28 h29 h1 h2
    obtain ⟨m, rfl⟩ : ∃ m', m = m' + 1 := ⟨m - 1, by omega⟩
    have hj6 : j < 6 := by omega
    obtain ⟨A, hA⟩ := h2 j (Nat.le_refl j) hj6
    obtain ⟨S1, e1, a1, b1⟩ := pX_layAnew hj6 hN hb h0 h28 h29 hA
    have b1' := zoI_fr hj6 b1
    have e28 : S1.2 28 = S.2 28 := b1'.2 28 (by decide)
    have e29 : S1.2 29 = S.2 29 := b1'.2 29 (by decide)
    obtain ⟨S2, e2, a2, b2⟩ := ih (j + 1) m S1 (by omega) (by omega) ((b1'.1 0 (by decide)).trans h0) (by rw [e28]; exact h28) (by rw [e29]; exact h29) (fun j' hj' => by
      by_cases q : j' = j
      · rw [q]; exact a1
      · exact zSh_ot (by omega) hj6 q (h1 j' (by omega)) b1) (fun j' g1 g2 => by
        obtain ⟨A', hA'⟩ := h2 j' (by omega) g2
        exact ⟨A', zXR_ot g2 hj6 (by omega) hA' b1⟩)
    refine ⟨S2, ?_, a2, zfr_tr b1' b2⟩
    simp (disch := omega) only [fX_X10_drop_44, fX_X10_drop_54, e1, ↓zN_eq, zL0, zL1, zL2, zL3, zL4, zL5, zL6, zL7, zL8, zL10, zL16, zL31, zL42, zL63, zL64, zL100, zL200, zL255, zL256, zL1000, zL12345, zL536870912, zI_le, zI_lt, zI_eq, zI_add, zI_sub, zI_mul, zI_neN, zI_Nne, zI_leN, zI_ltN, zI_Nle, zI_Nlt, zI_pred, zI_clamp, zI_div, zI_rem, zin_t, zgd_t, znz_t, if_pos, if_neg, if_true, if_false, Option.bind_some]
    exact e2

/-! the reference: a whole step, then all of them -/
theorem pM_step_159 {S : zSt} {A A0 : zAt} {i kd ky n c : Nat} {t0 : Int32} (hd : kd < 8) (hk : ky < 64) (hi : i < 200) (hn : n ≤ 200) (hc : c ≤ 200) (hcn : 0 < c → 0 < n) (h18 : S.1 18 = nI (if kd = 0 then n + 1 else n)) (h24 : S.2 24 ky = nI (if kd = 0 then c + 1 else c)) : fM_X11_step_159 (nI i) (nI kd) (nI ky) t0 (nI c) S = fM_X11_step_189 (nI i) (nI kd) (nI ky) t0 (nI c) (if kd = 2 ∧ 0 < c then zsR (zsI S 18 (nI (n - 1))) 24 ky (nI (c - 1)) else S) := by
  by_cases q : kd = 2
  · by_cases w : 0 < c
    · rw [if_pos ⟨q, w⟩]
      rw [if_neg (by omega)] at h18 h24
      have := hcn w
      rw [q]
      simp (disch := omega) only [fM_X11_step_159, h18, h24, ↓zN_eq, zL0, zL1, zL2, zL3, zL4, zL5, zL6, zL7, zL8, zL10, zL16, zL31, zL42, zL63, zL64, zL100, zL200, zL255, zL256, zL1000, zL12345, zL536870912, zI_le, zI_lt, zI_eq, zI_add, zI_sub, zI_mul, zI_neN, zI_Nne, zI_leN, zI_ltN, zI_Nle, zI_Nlt, zI_pred, zI_clamp, zI_div, zI_rem, zin_t, zgd_t, znz_t, if_pos, if_neg, if_true, if_false, Option.bind_some]
    · rw [if_neg (fun e => w e.2)]
      rw [q]
      simp (disch := omega) only [fM_X11_step_159, ↓zN_eq, zL0, zL1, zL2, zL3, zL4, zL5, zL6, zL7, zL8, zL10, zL16, zL31, zL42, zL63, zL64, zL100, zL200, zL255, zL256, zL1000, zL12345, zL536870912, zI_le, zI_lt, zI_eq, zI_add, zI_sub, zI_mul, zI_neN, zI_Nne, zI_leN, zI_ltN, zI_Nle, zI_Nlt, zI_pred, zI_clamp, zI_div, zI_rem, zin_t, zgd_t, znz_t, if_pos, if_neg, if_true, if_false, Option.bind_some]
  · rw [if_neg (fun e => q e.1)]
    simp (disch := omega) only [fM_X11_step_159, ↓zN_eq, zL0, zL1, zL2, zL3, zL4, zL5, zL6, zL7, zL8, zL10, zL16, zL31, zL42, zL63, zL64, zL100, zL200, zL255, zL256, zL1000, zL12345, zL536870912, zI_le, zI_lt, zI_eq, zI_add, zI_sub, zI_mul, zI_neN, zI_Nne, zI_leN, zI_ltN, zI_Nle, zI_Nlt, zI_pred, zI_clamp, zI_div, zI_rem, zin_t, zgd_t, znz_t, if_pos, if_neg, if_true, if_false, Option.bind_some]
def zcI6 : List Nat := [18, 21, 22, 25, 28, 30, 31]
def zcR6 : List Nat := [9, 10, 11, 12, 13, 14, 15, 16, 17, 19, 20, 23, 24, 29]
theorem zup1 {f : Nat → Int32} {p : Nat} {v : Int32} (t : Nat) : upd f p v t = if t = p then v else f t := by
  by_cases q : t = p
  · rw [if_pos q, q, pk_us]
  · rw [if_neg q, pk_un q]
theorem pM_step_31 {S : zSt} {A : zAt} {i kd ky : Nat} {mr : Nat → Nat} {t0 : Int32} (hA : zaOK A i) (hi : i < 200) (hd : kd < 8) (hk : ky < 64) (h : zMR S A i) (hmr : ∀ j, j < 6 → mr j < 1000) (h13 : ∀ t, t < 6 → S.2 13 t = nI (mr t)) (ht0 : t0 = if zaN A = 0 then zN else nI (zaG A 0)) : ∃ S', fM_X11_step_31 (nI i) (nI kd) (nI ky) t0 S = some S' ∧ zMR S' (zas kd ky A) (i + 1) ∧ S'.2 9 = upd (S.2 9) i (zans kd ky (zaN A) (zaG A)) ∧ S'.2 10 = upd (S.2 10) i (nI (zaN (zas kd ky A))) ∧ (∀ t, S'.2 11 t = if 6 * i ≤ t ∧ t < 6 * i + 6 then nI (zac (t - 6 * i) kd ky A) else S.2 11 t) ∧ (∀ t, t < 6 → S'.2 12 t = nI (zar t (zas kd ky A))) ∧ (∀ t, t < 6 → S'.2 13 t = nI (max (mr t) (zar t (zas kd ky A)))) ∧ zfr S S' zcI6 zcR6 := by
  have h' := h
  obtain ⟨a, ⟨b1, b2, b3⟩, ⟨c1, c2, c3⟩, ⟨d1, d2, d3⟩, st, hh, hs, s, e1, e2, e3⟩ := h'
  have hA' := hA
  obtain ⟨⟨o1, o2, o3, o4, o7, o5, o6⟩, ⟨p1, p2, p3, p4⟩, ⟨q1, q2⟩, ⟨u1, u2, u3⟩, v1, v2, v3⟩ := hA'
  have hB := zPw_b o5
  have hcn : zct2 A ky ≤ 200 := zC2_ct hA ky hk
  have hcp : 0 < zct2 A ky → 0 < zaN A := fun w => by
    have := zcn_le (zaG A) ky (zaN A)
    unfold zct2 at w
    omega
  have hA2 : zaOK (zas kd ky A) (i + 1) := zas_ok hA hi hk
  obtain ⟨S1, f1, g1, k1, r1, w1⟩ := pM_onRow a b1 o2 o3 (by omega) c1 p1 hd hk (fun _ => by omega)
  obtain ⟨T1, hT1⟩ : ∃ T1, T1 = zsR S1 11 (6 * i) (nI (zrwC kd ky (zaN A) (zaC A) (zaG A))) := ⟨_, rfl⟩
  have y1 : zfr S1 T1 [] [11] := by rw [hT1]; exact zfr_sR (by decide)
  obtain ⟨S2, f2, g2, k2, r2, w2⟩ := pM_onSorted (S := T1) ((y1.1 18 (by decide)).trans ((w1.1 18 (by decide)).trans a)) (by rw [y1.2 17 (by decide), k1 1 (by decide)]; exact b2) o2 o3 (by omega) (by rw [y1.2 15 (by decide), w1.2 15 (by decide)]; exact c2) p2 hd hk (fun _ => by omega)
  obtain ⟨T2, hT2⟩ : ∃ T2, T2 = zsR S2 11 (6 * i + 1) (nI (zsoC kd ky (zaN A) (zaC A) (zaS A))) := ⟨_, rfl⟩
  have y2 : zfr S2 T2 [] [11] := by rw [hT2]; exact zfr_sR (by decide)
  have z2 : zfr S T2 [28] [11, 14, 15, 17] := zfr_tr (zfr_tr (zfr_mono w1 (by decide) (by decide)) (zfr_mono y1 (by decide) (by decide))) (zfr_tr (zfr_mono w2 (by decide) (by decide)) (zfr_mono y2 (by decide) (by decide)))
  obtain ⟨S3, st', hh', hs', s', f3, g3, x22, xst, x19, x20, x64, xmx, xR, w3⟩ := pM_onHash (S := T2) (zHM_cg e1 (z2.1 18 (by decide)) (z2.1 21 (by decide)) (z2.1 22 (by decide)) (z2.2 19 (by decide)) (z2.2 20 (by decide))) e2 q2 hd hk (fun _ => by omega) (by omega)
  obtain ⟨T3, hT3⟩ : ∃ T3, T3 = zsR S3 11 (6 * i + 2) (nI (zhaC kd ky (zaN A) (zaB A) (zaH A))) := ⟨_, rfl⟩
  have y3 : zfr S3 T3 [] [11] := by rw [hT3]; exact zfr_sR (by decide)
  have z3 : zfr S T3 [21, 22, 28] [11, 14, 15, 17, 19, 20, 29] := zfr_tr (zfr_mono z2 (by decide) (by decide)) (zfr_tr (zfr_mono w3 (by decide) (by decide)) (zfr_mono y3 (by decide) (by decide)))
  obtain ⟨S4, f4, r4, x25, w4⟩ := pM_onTree (S := T3) (by rw [z3.2 23 (by decide)]; exact d1) (by rw [z3.2 24 (by decide)]; exact d2) ((z3.1 25 (by decide)).trans d3) v1 (zC2_ct hA) v3 v2 hd hk
  obtain ⟨T4, hT4⟩ : ∃ T4, T4 = zsR S4 11 (6 * i + 3) (nI (ztrC kd ky (zct2 A) (zaT A))) := ⟨_, rfl⟩
  have y4 : zfr S4 T4 [] [11] := by rw [hT4]; exact zfr_sR (by decide)
  have z34 : zfr T2 T4 [21, 22, 25, 30, 31] [11, 19, 20, 23, 29] := zfr_tr (zfr_tr (zfr_mono w3 (by decide) (by decide)) (zfr_mono y3 (by decide) (by decide))) (zfr_tr (zfr_mono w4 (by decide) (by decide)) (zfr_mono y4 (by decide) (by decide)))
  have z4 : zfr S T4 [21, 22, 25, 28, 30, 31] [11, 14, 15, 17, 19, 20, 23, 29] := zfr_tr (zfr_mono z2 (by decide) (by decide)) (zfr_mono z34 (by decide) (by decide))
  obtain ⟨S5, f5, g5, k5, r5, w5⟩ := pM_onHeap (S := T4) ((z4.1 18 (by decide)).trans a) (by rw [z34.2 17 (by decide), y2.2 17 (by decide), k2 4 (by decide), y1.2 17 (by decide), k1 4 (by decide)]; exact b3) o2 o3 (by omega) (by rw [z4.2 16 (by decide)]; exact c3) p4 hd hk (fun _ => by omega)
  obtain ⟨T5, hT5⟩ : ∃ T5, T5 = zsR S5 11 (6 * i + 4) (nI (zhpC kd ky (zaN A) (zaC A) (zaX A))) := ⟨_, rfl⟩
  have y5 : zfr S5 T5 [] [11] := by rw [hT5]; exact zfr_sR (by decide)
  have z5 : zfr S T5 [21, 22, 25, 28, 30, 31] [11, 14, 15, 16, 17, 19, 20, 23, 29] := zfr_tr (zfr_mono z4 (by decide) (by decide)) (zfr_tr (zfr_mono w5 (by decide) (by decide)) (zfr_mono y5 (by decide) (by decide)))
  have f6 := pM_onBits (S := T5) (kd := kd) (ky := ky) (by rw [z5.2 24 (by decide)]; exact d2) (zC2_ct hA) hd hk
  obtain ⟨T6, hT6⟩ : ∃ T6, T6 = zsR T5 11 (6 * i + 5) (nI (zbtC kd ky (zct2 A))) := ⟨_, rfl⟩
  have y6 : zfr T5 T6 [] [11] := by rw [hT6]; exact zfr_sR (by decide)
  have z6 : zfr S T6 [21, 22, 25, 28, 30, 31] [11, 14, 15, 16, 17, 19, 20, 23, 29] := zfr_tr z5 (zfr_mono y6 (by decide) (by decide))
  obtain ⟨T7, hT7⟩ : ∃ T7, T7 = if kd = 0 then zsR (zsI T6 18 (nI (zaN A + 1))) 24 ky (nI (zct2 A ky + 1)) else T6 := ⟨_, rfl⟩
  have t24 : S.2 24 ky = nI (zct2 A ky) := d2 ky hk
  have s24 : S5.2 24 ky = nI (zct2 A ky) := by rw [w5.2 24 (by decide), z4.2 24 (by decide)]; exact t24
  have s18 : S5.1 18 = nI (zaN A) := by rw [w5.1 18 (by decide), z4.1 18 (by decide)]; exact a
  have m6 : T6.1 18 = nI (zaN A) := (z6.1 18 (by decide)).trans a
  have m24 : zRp (T6.2 24) 64 (zct2 A) := by rw [z6.2 24 (by decide)]; exact d2
  have E1 : fM_X11_step_31 (nI i) (nI kd) (nI ky) t0 S = fM_X11_step_159 (nI i) (nI kd) (nI ky) t0 (nI (zct2 A ky)) T7 := by
    rw [hT1] at f2
    rw [hT2] at f3
    rw [hT3] at f4
    rw [hT4] at f5
    rw [hT5] at f6
    rw [hT7, hT6, hT5]
    unfold fM_X11_step_31
    by_cases q : kd = 0
    · rw [if_pos q]
      simp (disch := omega) only [f1, f2, f3, f4, f5, f6, t24, s24, s18, ↓zN_eq, zL0, zL1, zL2, zL3, zL4, zL5, zL6, zL7, zL8, zL10, zL16, zL31, zL42, zL63, zL64, zL100, zL200, zL255, zL256, zL1000, zL12345, zL536870912, zI_le, zI_lt, zI_eq, zI_add, zI_sub, zI_mul, zI_neN, zI_Nne, zI_leN, zI_ltN, zI_Nle, zI_Nlt, zI_pred, zI_clamp, zI_div, zI_rem, zin_t, zgd_t, znz_t, if_pos, if_neg, if_true, if_false, Option.bind_some]
    · rw [if_neg q]
      simp (disch := omega) only [f1, f2, f3, f4, f5, f6, t24, s24, s18, ↓zN_eq, zL0, zL1, zL2, zL3, zL4, zL5, zL6, zL7, zL8, zL10, zL16, zL31, zL42, zL63, zL64, zL100, zL200, zL255, zL256, zL1000, zL12345, zL536870912, zI_le, zI_lt, zI_eq, zI_add, zI_sub, zI_mul, zI_neN, zI_Nne, zI_leN, zI_ltN, zI_Nle, zI_Nlt, zI_pred, zI_clamp, zI_div, zI_rem, zin_t, zgd_t, znz_t, if_pos, if_neg, if_true, if_false, Option.bind_some]
  obtain ⟨T8, hT8⟩ : ∃ T8, T8 = if kd = 2 ∧ 0 < zct2 A ky then zsR (zsI T7 18 (nI (zaN A - 1))) 24 ky (nI (zct2 A ky - 1)) else T7 := ⟨_, rfl⟩
  have x18 : T7.1 18 = nI (if kd = 0 then zaN A + 1 else zaN A) := by
    rw [hT7]
    by_cases q : kd = 0
    · rw [if_pos q, if_pos q]; rfl
    · rw [if_neg q, if_neg q]; exact m6
  have x24 : T7.2 24 ky = nI (if kd = 0 then zct2 A ky + 1 else zct2 A ky) := by
    rw [hT7]
    by_cases q : kd = 0
    · rw [if_pos q, if_pos q, zsR_2, if_pos rfl, pk_us]
    · rw [if_neg q, if_neg q]; exact m24 ky hk
  have E2 := pM_step_159 (A := A) (A0 := A) (t0 := t0) hd hk hi o2 hcn hcp x18 x24
  rw [← hT8] at E2
  have y7 : zfr T6 T7 [18] [24] := by
    rw [hT7]
    by_cases q : kd = 0
    · rw [if_pos q]; exact zfr_tr (zfr_sI (by decide)) (zfr_sR (by decide))
    · rw [if_neg q]; exact zfr_rf
  have y8 : zfr T7 T8 [18] [24] := by
    rw [hT8]
    by_cases q : kd = 2 ∧ 0 < zct2 A ky
    · rw [if_pos q]; exact zfr_tr (zfr_sI (by decide)) (zfr_sR (by decide))
    · rw [if_neg q]; exact zfr_rf
  have y68 : zfr T6 T8 [18] [24] := zfr_tr y7 y8
  have hfd : zpl (zaG A) ky (zaN A) 0 < zaN A ↔ 0 < zct2 A ky := by rw [zpl_cn]; exact Iff.rfl
  have n18 : T8.1 18 = nI (zaN (zas kd ky A)) := by
    show _ = nI (znx kd (zpl (zaG A) ky (zaN A) 0 < zaN A) (zaN A))
    rw [znx_iff hfd, hT8]
    by_cases q0 : kd = 0
    · rw [if_neg (fun e => by omega), x18, if_pos q0, q0, znx_0]
    · by_cases q2 : kd = 2
      · by_cases w : 0 < zct2 A ky
        · rw [if_pos ⟨q2, w⟩, q2, znx_2t w]; rfl
        · rw [if_neg (fun e => w e.2), x18, if_neg q0, q2, znx_2f w]
      · rw [if_neg (fun e => q2 e.1), x18, if_neg q0, znx_n q0 q2]
  have n24 : zRp (T8.2 24) 64 (zct2 (zas kd ky A)) := by
    intro j hj
    rw [zct2_as, hT8]
    have mj := m24 j hj
    by_cases q0 : kd = 0
    · rw [if_neg (fun e => by omega), hT7, if_pos q0, q0, zbtN_0, zsR_2, if_pos rfl, zup1]
      by_cases w : j = ky
      · rw [if_pos w, if_pos w, w]
      · rw [if_neg w, if_neg w]; exact mj
    · have e7 : T7 = T6 := by rw [hT7, if_neg q0]
      rw [e7]
      by_cases q2 : kd = 2
      · rw [q2, zbtN_2]
        by_cases w : 0 < zct2 A ky
        · rw [if_pos ⟨rfl, w⟩, zsR_2, if_pos rfl, zup1]
          by_cases y : j = ky
          · rw [if_pos y, if_pos y, y]
          · rw [if_neg y, if_neg y]; exact mj
        · rw [if_neg (fun e => w e.2), mj]
          by_cases y : j = ky
          · rw [if_pos y]; rw [y]; rw [show zct2 A ky = 0 by omega]
          · rw [if_neg y]
      · rw [if_neg (fun e => q2 e.1), zbtN_n q0 q2]; exact mj
  have z58 : zfr S5 T8 [18] [11, 24] := zfr_tr (zfr_tr (zfr_mono y5 (by decide) (by decide)) (zfr_mono y6 (by decide) (by decide))) (zfr_mono y68 (by decide) (by decide))
  have z48 : zfr S4 T8 [18] [11, 16, 17, 24] := zfr_tr (zfr_tr (zfr_mono y4 (by decide) (by decide)) (zfr_mono w5 (by decide) (by decide))) (zfr_mono z58 (by decide) (by decide))
  have z38 : zfr S3 T8 [18, 25, 30, 31] [11, 16, 17, 23, 24] := zfr_tr (zfr_tr (zfr_mono y3 (by decide) (by decide)) (zfr_mono w4 (by decide) (by decide))) (zfr_mono z48 (by decide) (by decide))
  have z28 : zfr S2 T8 [18, 21, 22, 25, 30, 31] [11, 16, 17, 19, 20, 23, 24, 29] := zfr_tr (zfr_tr (zfr_mono y2 (by decide) (by decide)) (zfr_mono w3 (by decide) (by decide))) (zfr_mono z38 (by decide) (by decide))
  have z18 : zfr S1 T8 [18, 21, 22, 25, 28, 30, 31] [11, 15, 16, 17, 19, 20, 23, 24, 29] := zfr_tr (zfr_tr (zfr_mono y1 (by decide) (by decide)) (zfr_mono w2 (by decide) (by decide))) (zfr_mono z28 (by decide) (by decide))
  have z08 : zfr S T8 zcI6 zcR6 := zfr_tr (zfr_mono w1 (by decide) (by decide)) (zfr_mono z18 (by decide) (by decide))
  have s17 : T8.2 17 = S5.2 17 := z58.2 17 (by decide)
  have eSn : znx kd (zhe (zaS A) ky (zaN A) < zaN A ∧ zaS A (zhe (zaS A) ky (zaN A)) = ky) (zaN A) = zaN (zas kd ky A) := znx_iff (zaF_S hA ky)
  have eHn : znx kd (zpl (zaH A) ky (zaN A) 0 < zaN A) (zaN A) = zaN (zas kd ky A) := znx_iff (zaF_H hA ky)
  have eXn : znx kd (zpl (zaX A) ky (zaN A) 0 < zaN A) (zaN A) = zaN (zas kd ky A) := znx_iff (zaF_X hA ky)
  rw [eSn] at r2
  rw [eXn] at r5
  rw [eHn] at x19 x20 x64 xmx xR
  have M8 : zMR T8 (zas kd ky A) (i + 1) := by
    refine ⟨n18, ⟨?_, ?_, ?_⟩, ⟨?_, ?_, ?_⟩, ⟨?_, n24, ?_⟩, st', hh', hs', s', ⟨n18, ?_, ?_, ?_, ?_, hA2.1.2.2.2.2.2.1, hA2.1.2.1, x64, ?_, xmx⟩, xR, ?_⟩
    · rw [s17, k5 0 (by decide), z34.2 17 (by decide), y2.2 17 (by decide), k2 0 (by decide), y1.2 17 (by decide)]; exact g1
    · rw [s17, k5 1 (by decide), z34.2 17 (by decide), y2.2 17 (by decide)]; exact g2
    · rw [s17]; exact g5
    · rw [z18.2 14 (by decide)]; exact r1
    · rw [z28.2 15 (by decide)]; exact r2
    · rw [z58.2 16 (by decide)]; exact r5
    · rw [z48.2 23 (by decide)]; exact r4
    · rw [z48.1 25 (by decide)]; exact x25
    · rw [z38.1 21 (by decide)]; exact g3
    · rw [z38.1 22 (by decide)]; exact x22
    · rw [z38.2 19 (by decide)]; exact x19
    · rw [z38.2 20 (by decide)]; exact x20
    · have : zhaB kd (zaN A) (zaB A) - zaB A ≤ 128 := by
        have := (zPw_b hA2.1.2.2.2.2.2.1).2
        have e : zaB (zas kd ky A) = zhaB kd (zaN A) (zaB A) := rfl
        omega
      omega
    · have e : zaB (zas kd ky A) = zhaB kd (zaN A) (zaB A) := rfl
      have : zaB A ≤ zhaB kd (zaN A) (zaB A) := by
        unfold zhaB
        by_cases q : kd = 0
        · rw [if_pos q]
          by_cases w : zaN A = 2 * zaB A
          · rw [if_pos w]; omega
          · rw [if_neg w]; omega
        · rw [if_neg q]; omega
      omega
  obtain ⟨S', e, m, a9, a10, a12, a13, fr⟩ := pM_step_189 hA2 hA rfl hi hd hk hmr M8 (fun t ht => by rw [z18.2 13 (by decide), w1.2 13 (by decide)]; exact h13 t ht)
  refine ⟨S', ?_, m, ?_, ?_, fun t => ?_, a12, a13, zfr_tr z08 (zfr_mono fr (by decide) (by decide))⟩
  · rw [E1, E2, ht0]; exact e
  · rw [a9, show T8.2 9 = S.2 9 from by rw [z18.2 9 (by decide), w1.2 9 (by decide)]]
  · rw [a10, show T8.2 10 = S.2 10 from by rw [z18.2 10 (by decide), w1.2 10 (by decide)]]
  · rw [fr.2 11 (by decide), y68.2 11 (by decide), hT6, zsR_2, if_pos rfl, zup1, hT5, zsR_2, if_pos rfl, zup1, w5.2 11 (by decide), hT4, zsR_2, if_pos rfl, zup1, w4.2 11 (by decide), hT3, zsR_2, if_pos rfl, zup1, w3.2 11 (by decide), hT2, zsR_2, if_pos rfl, zup1, w2.2 11 (by decide), hT1, zsR_2, if_pos rfl, zup1, w1.2 11 (by decide)]
    by_cases q : 6 * i ≤ t ∧ t < 6 * i + 6
    · rw [if_pos q]
      have : t = 6 * i + 5 ∨ t = 6 * i + 4 ∨ t = 6 * i + 3 ∨ t = 6 * i + 2 ∨ t = 6 * i + 1 ∨ t = 6 * i := by omega
      rcases this with w | w | w | w | w | w
      · rw [if_pos w, show t - 6 * i = 5 by omega]; rfl
      · rw [if_neg (by omega), if_pos w, show t - 6 * i = 4 by omega]; rfl
      · rw [if_neg (by omega), if_neg (by omega), if_pos w, show t - 6 * i = 3 by omega]; rfl
      · rw [if_neg (by omega), if_neg (by omega), if_neg (by omega), if_pos w, show t - 6 * i = 2 by omega]; rfl
      · rw [if_neg (by omega), if_neg (by omega), if_neg (by omega), if_neg (by omega), if_pos w, show t - 6 * i = 1 by omega]; rfl
      · rw [if_neg (by omega), if_neg (by omega), if_neg (by omega), if_neg (by omega), if_neg (by omega), if_pos w, show t - 6 * i = 0 by omega]; rfl
    · rw [if_neg q, if_neg (by omega), if_neg (by omega), if_neg (by omega), if_neg (by omega), if_neg (by omega), if_neg (by omega)]
theorem pM_step {S : zSt} {A : zAt} {i kd ky : Nat} {mr : Nat → Nat} (hA : zaOK A i) (hi : i < 200) (hd : kd < 8) (hk : ky < 64) (h0 : S.2 0 i = nI kd) (h1 : S.2 1 i = nI ky) (h : zMR S A i) (hmr : ∀ j, j < 6 → mr j < 1000) (h13 : ∀ t, t < 6 → S.2 13 t = nI (mr t)) : ∃ S', fM_X11_step (nI i) S = some S' ∧ zMR S' (zas kd ky A) (i + 1) ∧ S'.2 9 = upd (S.2 9) i (zans kd ky (zaN A) (zaG A)) ∧ S'.2 10 = upd (S.2 10) i (nI (zaN (zas kd ky A))) ∧ (∀ t, S'.2 11 t = if 6 * i ≤ t ∧ t < 6 * i + 6 then nI (zac (t - 6 * i) kd ky A) else S.2 11 t) ∧ (∀ t, t < 6 → S'.2 12 t = nI (zar t (zas kd ky A))) ∧ (∀ t, t < 6 → S'.2 13 t = nI (max (mr t) (zar t (zas kd ky A)))) ∧ zfr S S' zcI6 zcR6 := by
  have a := h.1
  have o2 := hA.1.2.1
  obtain ⟨S', e, rest⟩ := pM_step_31 hA hi hd hk h hmr h13 rfl
  refine ⟨S', ?_, rest⟩
  rw [← e]
  by_cases q : zaN A = 0
  · rw [if_pos q]
    simp (disch := omega) only [fM_X11_step, a, h0, h1, ↓zN_eq, zL0, zL1, zL2, zL3, zL4, zL5, zL6, zL7, zL8, zL10, zL16, zL31, zL42, zL63, zL64, zL100, zL200, zL255, zL256, zL1000, zL12345, zL536870912, zI_le, zI_lt, zI_eq, zI_add, zI_sub, zI_mul, zI_neN, zI_Nne, zI_leN, zI_ltN, zI_Nle, zI_Nlt, zI_pred, zI_clamp, zI_div, zI_rem, zin_t, zgd_t, znz_t, if_pos, if_neg, if_true, if_false, Option.bind_some]
  · rw [if_neg q]
    have g0 : S.2 14 0 = nI (zaG A 0) := h.2.2.1.1 0 (by omega)
    simp (disch := omega) only [fM_X11_step, a, h0, h1, g0, ↓zN_eq, zL0, zL1, zL2, zL3, zL4, zL5, zL6, zL7, zL8, zL10, zL16, zL31, zL42, zL63, zL64, zL100, zL200, zL255, zL256, zL1000, zL12345, zL536870912, zI_le, zI_lt, zI_eq, zI_add, zI_sub, zI_mul, zI_neN, zI_Nne, zI_leN, zI_ltN, zI_Nle, zI_Nlt, zI_pred, zI_clamp, zI_div, zI_rem, zin_t, zgd_t, znz_t, if_pos, if_neg, if_true, if_false, Option.bind_some]

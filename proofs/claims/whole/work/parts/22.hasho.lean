/-! HASH: a call on the reference's things -/
theorem pM_onHash_29 {S : zSt} {n B st kd ky : Nat} {hk hs g s : Nat → Nat} (h : zHM S n B st hk hs) (hR : zHR hk hs n B g s) (hc : zchn g B n) (hd : kd < 8) (hky : ky < 64) (h0 : kd = 0 → n < 200) (hst : st + 500 < 100000) :
    ∃ S' st' hk' hs' s', fM_X11_onHash_29 (nI kd) (nI ky) (if zpl g ky n 0 < n then nI (zpl g ky n 0 - zHd g B n (ky % B)) else zN) (nI (zhsK ky n B g)) S = some (nI (zhaC kd ky n B g), S') ∧ S'.1 21 = nI (zhaB kd n B) ∧ S'.1 22 = nI st' ∧ st' ≤ st + (zhaB kd n B - B) * 2 + 1 ∧ zRp (S'.2 19) (znx kd (zpl g ky n 0 < n) n) hk' ∧ zRp (S'.2 20) (znx kd (zpl g ky n 0 < n) n) hs' ∧ zK64 hk' (znx kd (zpl g ky n 0 < n) n) ∧ (∀ t, t < znx kd (zpl g ky n 0 < n) n → hs' t ≤ st') ∧ zHR hk' hs' (znx kd (zpl g ky n 0 < n) n) (zhaB kd n B) (zhaG kd ky n B g) s' ∧ zfr S S' [21, 22] [19, 20, 29] := by
  have h' := h
  obtain ⟨hz, hB, hst0, hr1, hr2, hPw, hn, hg, hsb, hmx⟩ := h'
  have hb := zPw_b hPw
  have hen := zEn_le g B n (ky % B)
  rcases z8 hd with rfl | rfl | rfl | rfl | rfl | rfl | rfl | rfl
  · have h5 := h0 rfl
    by_cases a : n = 2 * B
    · obtain ⟨S1, hs1, e1, a1, b1, c1⟩ := pM_rehash h hR hc a (by omega)
      obtain ⟨S2, hk2, hs2, e2, a2, b2, c2, d2, f2, g2, i2, j2⟩ := pM_put (ky := ky) (x := 1 + n) a1 b1 (zchn_sp n) h5 (by omega) hky
      have hBe : zhaB 0 n B = B * 2 := by unfold zhaB; rw [if_pos rfl, if_pos a]
      have hG : zhaG 0 ky n B g = zins (zsp g (B * 2) n) (zHd (zsp g (B * 2) n) (B * 2) n (ky % (B * 2))) ky := by
        unfold zhaG; rw [if_pos rfl, hBe]; unfold zha1; rw [if_pos a]
      rw [hBe, hG]
      refine ⟨S2, st + n + 1, hk2, hs2, _, ?_, a2, b2, by omega, c2, d2, f2, g2, i2, zfr_tr (zfr_mono c1 (by decide) (by decide)) (zfr_mono j2 (by decide) (by decide))⟩
      have hz1 := a1.1
      have hC : zhaC 0 ky n B g = 1 + n := by unfold zhaC; rw [if_pos rfl, if_pos a]; omega
      rw [hC, ← e2]
      simp (disch := omega) only [fM_X11_onHash_29, hz, hB, e1, hz1, ↓zN_eq, zL0, zL1, zL2, zL3, zL4, zL5, zL6, zL7, zL8, zL10, zL16, zL31, zL42, zL63, zL64, zL100, zL200, zL255, zL256, zL1000, zL12345, zL536870912, zI_le, zI_lt, zI_eq, zI_add, zI_sub, zI_mul, zI_neN, zI_Nne, zI_leN, zI_ltN, zI_Nle, zI_Nlt, zI_pred, zI_clamp, zI_div, zI_rem, zin_t, zgd_t, znz_t, if_pos, if_neg, if_true, if_false, Option.bind_some]
    · obtain ⟨S2, hk2, hs2, e2, a2, b2, c2, d2, f2, g2, i2, j2⟩ := pM_put (ky := ky) (x := 1) h hR hc h5 (by omega) hky
      have hBe : zhaB 0 n B = B := by unfold zhaB; rw [if_pos rfl, if_neg a]
      have hG : zhaG 0 ky n B g = zins g (zHd g B n (ky % B)) ky := by
        unfold zhaG; rw [if_pos rfl, hBe]; unfold zha1; rw [if_neg a]
      rw [hBe, hG]
      refine ⟨S2, st + 1, hk2, hs2, _, ?_, a2, b2, by omega, c2, d2, f2, g2, i2, zfr_mono j2 (by decide) (by decide)⟩
      have hC : zhaC 0 ky n B g = 1 := by unfold zhaC; rw [if_pos rfl, if_neg a]
      rw [hC, ← e2]
      simp (disch := omega) only [fM_X11_onHash_29, hz, hB, ↓zN_eq, zL0, zL1, zL2, zL3, zL4, zL5, zL6, zL7, zL8, zL10, zL16, zL31, zL42, zL63, zL64, zL100, zL200, zL255, zL256, zL1000, zL12345, zL536870912, zI_le, zI_lt, zI_eq, zI_add, zI_sub, zI_mul, zI_neN, zI_Nne, zI_leN, zI_ltN, zI_Nle, zI_Nlt, zI_pred, zI_clamp, zI_div, zI_rem, zin_t, zgd_t, znz_t, if_pos, if_neg, if_true, if_false, Option.bind_some]
  · refine ⟨S, st, hk, hs, s, ?_, hB, hst0, by omega, hr1, hr2, hg, hmx, hR, zfr_rf⟩
    simp (disch := omega) only [fM_X11_onHash_29, zhaC, ↓zN_eq, zL0, zL1, zL2, zL3, zL4, zL5, zL6, zL7, zL8, zL10, zL16, zL31, zL42, zL63, zL64, zL100, zL200, zL255, zL256, zL1000, zL12345, zL536870912, zI_le, zI_lt, zI_eq, zI_add, zI_sub, zI_mul, zI_neN, zI_Nne, zI_leN, zI_ltN, zI_Nle, zI_Nlt, zI_pred, zI_clamp, zI_div, zI_rem, zin_t, zgd_t, znz_t, if_pos, if_neg, if_true, if_false, Option.bind_some]
  · by_cases q : zpl g ky n 0 < n
    · have e1 := zpl_at g ky n 0 (by omega)
      have ht := pM_thingAt h hR hc q
      rw [e1] at ht
      have hsq := (hR.1 _ q).1
      obtain ⟨S1, f1, a1, b1⟩ := pM_takeOut_hashKey hn hsq hr1
      have hz1 : S1.1 18 = nI n := (b1.1 18 (by decide)).trans hz
      have hr3 : zRp (S1.2 20) n hs := by rw [b1.2 20 (by decide)]; exact hr2
      obtain ⟨S2, f2, a2, b2⟩ := pM_takeOut_hashStamp hn hsq hr3
      have hnx : znx 2 (zpl g ky n 0 < n) n = n - 1 := by unfold znx; rw [if_neg (by decide), if_pos rfl, if_pos q]
      have hG : zhaG 2 ky n B g = zdel g (zpl g ky n 0) := by unfold zhaG; rw [if_neg (by decide), if_pos rfl, if_pos q]
      rw [hnx, hG]
      have hmod : ky % B < B := Nat.mod_lt _ (by omega)
      refine ⟨S2, st, _, _, _, ?_, (b2.1 21 (by decide)).trans ((b1.1 21 (by decide)).trans hB), (b2.1 22 (by decide)).trans ((b1.1 22 (by decide)).trans hst0), by omega, by rw [b2.2 19 (by decide)]; exact a1, a2, zK64_del hg, ?_, zHR_del hR q, zfr_tr (zfr_mono b1 (by decide) (by decide)) (zfr_mono b2 (by decide) (by decide))⟩
      · rw [if_pos q]
        simp (disch := omega) only [fM_X11_onHash_29, hz, hB, ht, f1, hz1, f2, zhaC, ↓zN_eq, zL0, zL1, zL2, zL3, zL4, zL5, zL6, zL7, zL8, zL10, zL16, zL31, zL42, zL63, zL64, zL100, zL200, zL255, zL256, zL1000, zL12345, zL536870912, zI_le, zI_lt, zI_eq, zI_add, zI_sub, zI_mul, zI_neN, zI_Nne, zI_leN, zI_ltN, zI_Nle, zI_Nlt, zI_pred, zI_clamp, zI_div, zI_rem, zin_t, zgd_t, znz_t, if_pos, if_neg, if_true, if_false, Option.bind_some]
      · intro t ht2
        unfold zdel
        by_cases w : t < s (zpl g ky n 0)
        · rw [if_pos w]; exact hmx t (by omega)
        · rw [if_neg w]; exact hmx (t + 1) (by omega)
    · have hnx : znx 2 (zpl g ky n 0 < n) n = n := by unfold znx; rw [if_neg (by decide), if_pos rfl, if_neg q]
      have hG : zhaG 2 ky n B g = g := by unfold zhaG; rw [if_neg (by decide), if_pos rfl, if_neg q]
      rw [hnx, hG]
      refine ⟨S, st, hk, hs, s, ?_, hB, hst0, by omega, hr1, hr2, hg, hmx, hR, zfr_rf⟩
      rw [if_neg q]
      simp (disch := omega) only [fM_X11_onHash_29, zhaC, ↓zN_eq, zL0, zL1, zL2, zL3, zL4, zL5, zL6, zL7, zL8, zL10, zL16, zL31, zL42, zL63, zL64, zL100, zL200, zL255, zL256, zL1000, zL12345, zL536870912, zI_le, zI_lt, zI_eq, zI_add, zI_sub, zI_mul, zI_neN, zI_Nne, zI_leN, zI_ltN, zI_Nle, zI_Nlt, zI_pred, zI_clamp, zI_div, zI_rem, zin_t, zgd_t, znz_t, if_pos, if_neg, if_true, if_false, Option.bind_some]
  · refine ⟨S, st, hk, hs, s, ?_, hB, hst0, by omega, hr1, hr2, hg, hmx, hR, zfr_rf⟩
    simp (disch := omega) only [fM_X11_onHash_29, hz, hB, zhaC, ↓zN_eq, zL0, zL1, zL2, zL3, zL4, zL5, zL6, zL7, zL8, zL10, zL16, zL31, zL42, zL63, zL64, zL100, zL200, zL255, zL256, zL1000, zL12345, zL536870912, zI_le, zI_lt, zI_eq, zI_add, zI_sub, zI_mul, zI_neN, zI_Nne, zI_leN, zI_ltN, zI_Nle, zI_Nlt, zI_pred, zI_clamp, zI_div, zI_rem, zin_t, zgd_t, znz_t, if_pos, if_neg, if_true, if_false, Option.bind_some]
  · refine ⟨S, st, hk, hs, s, ?_, hB, hst0, by omega, hr1, hr2, hg, hmx, hR, zfr_rf⟩
    simp (disch := omega) only [fM_X11_onHash_29, hz, hB, zhaC, ↓zN_eq, zL0, zL1, zL2, zL3, zL4, zL5, zL6, zL7, zL8, zL10, zL16, zL31, zL42, zL63, zL64, zL100, zL200, zL255, zL256, zL1000, zL12345, zL536870912, zI_le, zI_lt, zI_eq, zI_add, zI_sub, zI_mul, zI_neN, zI_Nne, zI_leN, zI_ltN, zI_Nle, zI_Nlt, zI_pred, zI_clamp, zI_div, zI_rem, zin_t, zgd_t, znz_t, if_pos, if_neg, if_true, if_false, Option.bind_some]
  · refine ⟨S, st, hk, hs, s, ?_, hB, hst0, by omega, hr1, hr2, hg, hmx, hR, zfr_rf⟩
    simp (disch := omega) only [fM_X11_onHash_29, hz, hB, zhaC, ↓zN_eq, zL0, zL1, zL2, zL3, zL4, zL5, zL6, zL7, zL8, zL10, zL16, zL31, zL42, zL63, zL64, zL100, zL200, zL255, zL256, zL1000, zL12345, zL536870912, zI_le, zI_lt, zI_eq, zI_add, zI_sub, zI_mul, zI_neN, zI_Nne, zI_leN, zI_ltN, zI_Nle, zI_Nlt, zI_pred, zI_clamp, zI_div, zI_rem, zin_t, zgd_t, znz_t, if_pos, if_neg, if_true, if_false, Option.bind_some]
  · refine ⟨S, st, hk, hs, s, ?_, hB, hst0, by omega, hr1, hr2, hg, hmx, hR, zfr_rf⟩
    simp (disch := omega) only [fM_X11_onHash_29, hz, hB, zhaC, ↓zN_eq, zL0, zL1, zL2, zL3, zL4, zL5, zL6, zL7, zL8, zL10, zL16, zL31, zL42, zL63, zL64, zL100, zL200, zL255, zL256, zL1000, zL12345, zL536870912, zI_le, zI_lt, zI_eq, zI_add, zI_sub, zI_mul, zI_neN, zI_Nne, zI_leN, zI_ltN, zI_Nle, zI_Nlt, zI_pred, zI_clamp, zI_div, zI_rem, zin_t, zgd_t, znz_t, if_pos, if_neg, if_true, if_false, Option.bind_some]
  · refine ⟨S, st, hk, hs, s, ?_, hB, hst0, by omega, hr1, hr2, hg, hmx, hR, zfr_rf⟩
    have hmod : ky % B < B := Nat.mod_lt _ (by omega)
    have hlen := pM_length h (show ky % B < 1000 by omega)
    rw [zHR_len hR hc] at hlen
    simp (disch := omega) only [fM_X11_onHash_29, hz, hB, hlen, zhaC, ↓zN_eq, zL0, zL1, zL2, zL3, zL4, zL5, zL6, zL7, zL8, zL10, zL16, zL31, zL42, zL63, zL64, zL100, zL200, zL255, zL256, zL1000, zL12345, zL536870912, zI_le, zI_lt, zI_eq, zI_add, zI_sub, zI_mul, zI_neN, zI_Nne, zI_leN, zI_ltN, zI_Nle, zI_Nlt, zI_pred, zI_clamp, zI_div, zI_rem, zin_t, zgd_t, znz_t, if_pos, if_neg, if_true, if_false, Option.bind_some]
    congr 3; omega
theorem pM_onHash {S : zSt} {n B st kd ky : Nat} {hk hs g s : Nat → Nat} (h : zHM S n B st hk hs) (hR : zHR hk hs n B g s) (hc : zchn g B n) (hd : kd < 8) (hky : ky < 64) (h0 : kd = 0 → n < 200) (hst : st + 500 < 100000) :
    ∃ S' st' hk' hs' s', fM_X11_onHash (nI kd) (nI ky) S = some (nI (zhaC kd ky n B g), S') ∧ S'.1 21 = nI (zhaB kd n B) ∧ S'.1 22 = nI st' ∧ st' ≤ st + (zhaB kd n B - B) * 2 + 1 ∧ zRp (S'.2 19) (znx kd (zpl g ky n 0 < n) n) hk' ∧ zRp (S'.2 20) (znx kd (zpl g ky n 0 < n) n) hs' ∧ zK64 hk' (znx kd (zpl g ky n 0 < n) n) ∧ (∀ t, t < znx kd (zpl g ky n 0 < n) n → hs' t ≤ st') ∧ zHR hk' hs' (znx kd (zpl g ky n 0 < n) n) (zhaB kd n B) (zhaG kd ky n B g) s' ∧ zfr S S' [21, 22] [19, 20, 29] := by
  obtain ⟨S', st', hk', hs', s', e, rest⟩ := pM_onHash_29 h hR hc hd hky h0 hst
  refine ⟨S', st', hk', hs', s', ?_, rest⟩
  rw [← e]
  have h' := h
  obtain ⟨hz, hB, hst0, hr1, hr2, hPw, hn, hg, hsb, hmx⟩ := h'
  have hb := zPw_b hPw
  have hen := zEn_le g B n (ky % B)
  have ha := pM_aheadIn h hR hc hky
  by_cases q : zpl g ky n 0 < n
  · have h2 := zpl_ch hc q
    have hK : zhsK ky n B g = zpl g ky n 0 - zHd g B n (ky % B) + 2 := by unfold zhsK; rw [if_pos q]; omega
    rw [if_pos q] at ha ⊢
    rw [hK]
    simp (disch := omega) only [fM_X11_onHash, ha, ↓zN_eq, zL0, zL1, zL2, zL3, zL4, zL5, zL6, zL7, zL8, zL10, zL16, zL31, zL42, zL63, zL64, zL100, zL200, zL255, zL256, zL1000, zL12345, zL536870912, zI_le, zI_lt, zI_eq, zI_add, zI_sub, zI_mul, zI_neN, zI_Nne, zI_leN, zI_ltN, zI_Nle, zI_Nlt, zI_pred, zI_clamp, zI_div, zI_rem, zin_t, zgd_t, znz_t, if_pos, if_neg, if_true, if_false, Option.bind_some]
  · have hK : zhsK ky n B g = 1 + (zEn g B n (ky % B) - zHd g B n (ky % B)) := by unfold zhsK; rw [if_neg q]; omega
    have hmod : ky % B < B := Nat.mod_lt _ (by omega)
    have hlen := pM_length h (show ky % B < 1000 by omega)
    rw [zHR_len hR hc] at hlen
    rw [if_neg q] at ha ⊢
    rw [hK]
    simp (disch := omega) only [fM_X11_onHash, ha, hB, hlen, ↓zN_eq, zL0, zL1, zL2, zL3, zL4, zL5, zL6, zL7, zL8, zL10, zL16, zL31, zL42, zL63, zL64, zL100, zL200, zL255, zL256, zL1000, zL12345, zL536870912, zI_le, zI_lt, zI_eq, zI_add, zI_sub, zI_mul, zI_neN, zI_Nne, zI_leN, zI_ltN, zI_Nle, zI_Nlt, zI_pred, zI_clamp, zI_div, zI_rem, zin_t, zgd_t, znz_t, if_pos, if_neg, if_true, if_false, Option.bind_some]
/-- the thing at a place of the line, chain by chain -/
theorem pM_chained_4 {S : zSt} {n B st i : Nat} {hk hs g s : Nat → Nat} (h : zHM S n B st hk hs) (hR : zHR hk hs n B g s) (hc : zchn g B n) (hi : i < n) : ∀ r c m, r < m → c + r = g i % B → fM_X11_chained_4 m (nI (i - zHd g B n c)) (nI c) S = some (nI (g i)) := by
  have h' := h
  obtain ⟨hz, hB, hst0, hr1, hr2, hPw, hn, hg, hsb, hmx⟩ := h'
  have hb := zPw_b hPw
  have hgi : g i % B < B := Nat.mod_lt _ (by omega)
  have hr' : ∀ j, j < n → S.2 19 j = nI (hk j) := hr1
  intro r
  induction r with
  | zero =>
    intro c m hm hcr
    obtain ⟨m, rfl⟩ : ∃ m', m = m' + 1 := ⟨m - 1, by omega⟩
    have e : c = g i % B := by omega
    subst e
    have hlen := pM_length h (show g i % B < 1000 by omega)
    rw [zHR_len hR hc] at hlen
    have a1 := zEn_le g B n (g i % B)
    have a2 := zEn_ch (c := g i % B) hc
    have a3 := zHd_ch (c := g i % B) hc
    have b1 : ¬ i < zHd g B n (g i % B) := fun q => by have := a3.1 i q; omega
    have b2 : ¬ zEn g B n (g i % B) ≤ i := fun q => by have := a2.2 i q hi; omega
    have ht := pM_thingAt h hR hc hi
    have hsi := hR.1 i hi
    have hv : S.2 19 (s i) = nI (g i) := by rw [hr' _ hsi.1, hsi.2]
    have hsl : s i < n := hsi.1
    simp (disch := omega) only [fM_X11_chained_4, hlen, hz, ht, hv, ↓zN_eq, zL0, zL1, zL2, zL3, zL4, zL5, zL6, zL7, zL8, zL10, zL16, zL31, zL42, zL63, zL64, zL100, zL200, zL255, zL256, zL1000, zL12345, zL536870912, zI_le, zI_lt, zI_eq, zI_add, zI_sub, zI_mul, zI_neN, zI_Nne, zI_leN, zI_ltN, zI_Nle, zI_Nlt, zI_pred, zI_clamp, zI_div, zI_rem, zin_t, zgd_t, znz_t, if_pos, if_neg, if_true, if_false, Option.bind_some]
  | succ r ih =>
    intro c m hm hcr
    obtain ⟨m, rfl⟩ : ∃ m', m = m' + 1 := ⟨m - 1, by omega⟩
    have hlen := pM_length h (show c < 1000 by omega)
    rw [zHR_len hR hc] at hlen
    have a1 := zEn_le g B n c
    have a2 := zEn_ch (c := c) hc
    have a3 := zHd_ch (c := c) hc
    have b2 : zEn g B n c ≤ i := by
      rcases Nat.lt_or_ge i (zEn g B n c) with q | q
      · rcases Nat.lt_or_ge i (zHd g B n c) with q2 | q2
        · have := a3.1 i q2; omega
        · have := a2.1 i q2 q; omega
      · exact q
    have ih1 := ih (c + 1) m (by omega) (by omega)
    rw [← zEn_Hd hc] at ih1
    rw [← ih1]
    simp (disch := omega) only [fM_X11_chained_4, hlen, ↓zN_eq, zL0, zL1, zL2, zL3, zL4, zL5, zL6, zL7, zL8, zL10, zL16, zL31, zL42, zL63, zL64, zL100, zL200, zL255, zL256, zL1000, zL12345, zL536870912, zI_le, zI_lt, zI_eq, zI_add, zI_sub, zI_mul, zI_neN, zI_Nne, zI_leN, zI_ltN, zI_Nle, zI_Nlt, zI_pred, zI_clamp, zI_div, zI_rem, zin_t, zgd_t, znz_t, if_pos, if_neg, if_true, if_false, Option.bind_some]
    rw [show i - zHd g B n c - (zEn g B n c - zHd g B n c) = i - zEn g B n c by omega]
theorem pM_chained {S : zSt} {n B st i : Nat} {hk hs g s : Nat → Nat} (h : zHM S n B st hk hs) (hR : zHR hk hs n B g s) (hc : zchn g B n) (hi : i < n) : fM_X11_chained (nI i) S = some (nI (g i)) := by
  have hb := zPw_b h.2.2.2.2.2.1
  have hgi : g i % B < B := Nat.mod_lt _ (by omega)
  have h1 := pM_chained_4 h hR hc hi (g i % B) 0 1000 (by omega) (by omega)
  rw [zHd_0, Nat.sub_zero] at h1
  unfold fM_X11_chained
  rw [zL0]
  exact h1

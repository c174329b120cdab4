/-! TREE: a node goes, in the class -/
theorem pX_out_74 {S : zSt} {tm l r : Nat → Nat} {root k : Nat} (hL : zLK tm l r root) (hj : zJ tm) (hl : zRl (S.2 40) tm l) : ∀ f c par u h hb, f < u → k + 1 ≤ c → c - (k + 1) ≤ f → zIv tm (k + 1) hb → zT tm (k + 1) hb c → c < 64 → h + (c - (k + 1)) < 64 → fX_X9_takeOut_74 u (nI k) (nI par) (nI c) (nI h) S = fX_X9_takeOut_106 (nI k) (nI (zsq tm (k + 1) f c par).2.2) (nI (zsq tm (k + 1) f c par).2.1) (nI (h + (zsq tm (k + 1) f c par).1 - 1)) S := by
  intro f
  induction f with
  | zero =>
    intro c par u h hb hu h1 h2 hI hT hc hh
    obtain ⟨u, rfl⟩ : ∃ m', u = m' + 1 := ⟨u - 1, by omega⟩
    obtain ⟨t1, t2, t3, t4⟩ := zT_lt hI.2.1 hT hc
    obtain ⟨lk, _⟩ := hL.2 _ _ c hI hT hc
    have e : l c = 64 := zT_uniq hj (by omega) lk (Or.inl ⟨rfl, fun j j1 j2 => absurd j2 (by omega)⟩)
    have hv := hl c hc t3
    rw [e, zec_64] at hv
    rw [show (zsq tm (k + 1) 0 c par).1 = 1 from rfl, show (zsq tm (k + 1) 0 c par).2.1 = c from rfl, show (zsq tm (k + 1) 0 c par).2.2 = par from rfl, show h + 1 - 1 = h by omega, fX_X9_takeOut_74]
    generalize fX_X9_takeOut_106 = F
    simp (disch := omega) only [hv, ↓zN_eq, zL0, zL1, zL2, zL3, zL4, zL5, zL6, zL7, zL8, zL10, zL16, zL31, zL42, zL63, zL64, zL100, zL200, zL255, zL256, zL1000, zL12345, zL536870912, zI_le, zI_lt, zI_eq, zI_add, zI_sub, zI_mul, zI_neN, zI_Nne, zI_leN, zI_ltN, zI_Nle, zI_Nlt, zI_pred, zI_clamp, zI_div, zI_rem, zin_t, zgd_t, znz_t, if_pos, if_neg, if_true, if_false, Option.bind_some]
  | succ f ih =>
    intro c par u h hb hu h1 h2 hI hT hc hh
    obtain ⟨u, rfl⟩ : ∃ m', u = m' + 1 := ⟨u - 1, by omega⟩
    obtain ⟨t1, t2, t3, t4⟩ := zT_lt hI.2.1 hT hc
    obtain ⟨lk, _⟩ := hL.2 _ _ c hI hT hc
    have hT2 := ztop_T (tm := tm) t1 (by omega : c ≤ 64)
    have hle := zT_le (by omega) hT2
    have e : l c = ztop tm (k + 1) c := zT_uniq hj (by omega) lk hT2
    have hv := hl c hc t3
    rw [e] at hv
    unfold zsq
    by_cases q : ztop tm (k + 1) c = 64
    · rw [if_pos q]
      rw [q, zec_64] at hv
      dsimp only
      rw [show h + 1 - 1 = h by omega, fX_X9_takeOut_74]
      generalize fX_X9_takeOut_106 = F
      simp (disch := omega) only [hv, ↓zN_eq, zL0, zL1, zL2, zL3, zL4, zL5, zL6, zL7, zL8, zL10, zL16, zL31, zL42, zL63, zL64, zL100, zL200, zL255, zL256, zL1000, zL12345, zL536870912, zI_le, zI_lt, zI_eq, zI_add, zI_sub, zI_mul, zI_neN, zI_Nne, zI_leN, zI_ltN, zI_Nle, zI_Nlt, zI_pred, zI_clamp, zI_div, zI_rem, zin_t, zgd_t, znz_t, if_pos, if_neg, if_true, if_false, Option.bind_some]
    · rw [if_neg q]
      obtain ⟨u1, u2, u3, u4⟩ := zT_lt (by omega) hT2 (by omega)
      rw [zec_lt (by omega)] at hv
      have ih1 := ih (ztop tm (k + 1) c) c u (h + 1) c (by omega) u1 (by omega) (zIv_l hj hI hT hc).1 hT2 (by omega) (by omega)
      dsimp only
      rw [show h + ((zsq tm (k + 1) f (ztop tm (k + 1) c) c).1 + 1) - 1 = h + 1 + (zsq tm (k + 1) f (ztop tm (k + 1) c) c).1 - 1 by omega, ← ih1, fX_X9_takeOut_74]
      generalize fX_X9_takeOut_106 = F
      simp (disch := omega) only [hv, ↓zN_eq, zL0, zL1, zL2, zL3, zL4, zL5, zL6, zL7, zL8, zL10, zL16, zL31, zL42, zL63, zL64, zL100, zL200, zL255, zL256, zL1000, zL12345, zL536870912, zI_le, zI_lt, zI_eq, zI_add, zI_sub, zI_mul, zI_neN, zI_Nne, zI_leN, zI_ltN, zI_Nle, zI_Nlt, zI_pred, zI_clamp, zI_div, zI_rem, zin_t, zgd_t, znz_t, if_pos, if_neg, if_true, if_false, Option.bind_some]
theorem zRl_mono {f : Nat → Int32} {tm tm' l : Nat → Nat} (h : zRl f tm l) (e : ∀ j, j < 64 → 0 < tm' j → 0 < tm j) : zRl f tm' l := fun j j1 j2 => h j j1 (e j j1 j2)
theorem zJ_sub {tm tm' : Nat → Nat} {k : Nat} (h : zJ tm) (e0 : tm' k = 0) (en : ∀ j, j ≠ k → tm' j = tm j) : zJ tm' := fun i j hi hj h0 e => by
  have hik : i ≠ k := fun q => by rw [q, e0] at h0; omega
  rw [en i hik] at h0 e
  have hjk : j ≠ k := fun q => by rw [q, e0] at e; omega
  rw [en j hjk] at e
  exact h i j hi hj h0 e
theorem zec_ne {t : Nat} (h : t ≠ 64) (h2 : t ≤ 64) : ¬ zec t = zN := fun e => by
  rw [zec_lt (by omega)] at e
  rw [zI_neN (by omega)] at e
  exact e
theorem pX_takeOut {S : zSt} {tm l r : Nat → Nat} {root k a b ab : Nat} (hX : zTX S tm l r root) (hj : zJ tm) (hk : k < 64) (h33 : S.1 33 = zec ab) (h32 : S.1 32 = nI (znd tm)) (hI : zIv tm a b) (hA : zAb tm a b ab) (hab : ab ≤ 64) (hT : zT tm a b k) : ∃ S' l' r' root', fX_X9_takeOut (nI k) S = some (nI (ztn tm k a b), S') ∧ zTX S' (ztk tm k a b) l' r' root' ∧ S'.1 32 = nI (znd tm - 1) ∧ zfr S S' [31, 32] [40, 41] := by
  obtain ⟨x1, x2, x3, x4⟩ := hX
  have hb := hI.2.1
  obtain ⟨k1, k2, k3, k4⟩ := zT_lt hb hT hk
  obtain ⟨lk, rk⟩ := x4.2 a b k hI hT hk
  have hTl := ztop_T (tm := tm) k1 (by omega : k ≤ 64)
  have hTr := ztop_T (tm := tm) (show k + 1 ≤ b by omega) hb
  have ll := zT_le (by omega) hTl
  have lr := zT_le hb hTr
  have el : l k = ztop tm a k := zT_uniq hj (by omega) lk hTl
  have er : r k = ztop tm (k + 1) b := zT_uniq hj hb rk hTr
  have vl := x2 k hk k3
  have vr := x3 k hk k3
  have hn1 : 1 ≤ znd tm := by have := znd_del hk k3; omega
  have hnl := znd_le tm
  by_cases hor : ztop tm a k = 64 ∨ ztop tm (k + 1) b = 64
  · -- at most one child
    have en : ztn tm k a b = 0 := if_pos hor
    have ek : ztk tm k a b = ztmP tm k 0 := if_pos hor
    rw [en, ek]
    have hm : ∀ j, j < 64 → 0 < ztmP tm k 0 j → 0 < tm j := fun j _ q => by
      unfold ztmP at q
      by_cases w : j = k
      · rw [if_pos w] at q; omega
      · rw [if_neg w] at q; exact q
    have go : ∀ x, x ≤ 64 → ((l k = 64 ∧ x = r k) ∨ (r k = 64 ∧ x = l k)) → fX_X9_takeOut (nI k) S = fX_X9_takeOut_56 (nI k) (zec x) (zsI S 32 (nI (znd tm - 1))) → ∃ S' l' r' root', fX_X9_takeOut (nI k) S = some (nI 0, S') ∧ zTX S' (ztmP tm k 0) l' r' root' ∧ S'.1 32 = nI (znd tm - 1) ∧ zfr S S' [31, 32] [40, 41] := fun x hx hxx hf => by
      obtain ⟨S2, e2, a2, b2, c2, d2⟩ := pX_hang (S := zsI S 32 (nI (znd tm - 1))) (x := x) hk hab hx h33 x1 x2 x3
      refine ⟨S2, _, _, _, ?_, ⟨a2, zRl_mono b2 hm, zRl_mono c2 hm, zLK_del hj x4 hk k3 hI hA hT hxx⟩, (d2.1 32 (by decide)).trans rfl, zfr_tr (zfr_sI (by decide)) (zfr_mono d2 (by decide) (by decide))⟩
      rw [hf]
      unfold fX_X9_takeOut_56
      rw [e2, Option.bind_some, zL0]
    by_cases q : ztop tm a k = 64
    · refine go (r k) (by rw [er]; exact lr) (Or.inl ⟨by rw [el]; exact q, rfl⟩) ?_
      have vl2 : S.2 40 k = zN := by rw [vl, el, q, zec_64]
      simp (disch := omega) only [fX_X9_takeOut, fX_X9_takeOut_30, vl2, h32, zsI_2, vr, ↓zN_eq, zL0, zL1, zL2, zL3, zL4, zL5, zL6, zL7, zL8, zL10, zL16, zL31, zL42, zL63, zL64, zL100, zL200, zL255, zL256, zL1000, zL12345, zL536870912, zI_le, zI_lt, zI_eq, zI_add, zI_sub, zI_mul, zI_neN, zI_Nne, zI_leN, zI_ltN, zI_Nle, zI_Nlt, zI_pred, zI_clamp, zI_div, zI_rem, zin_t, zgd_t, znz_t, if_pos, if_neg, if_true, if_false, Option.bind_some]
    · have w : ztop tm (k + 1) b = 64 := hor.resolve_left q
      refine go (l k) (by rw [el]; exact ll) (Or.inr ⟨by rw [er]; exact w, rfl⟩) ?_
      have vl2 : S.2 40 k = nI (ztop tm a k) := by rw [vl, el, zec_lt (by omega)]
      have vr2 : S.2 41 k = zN := by rw [vr, er, w, zec_64]
      rw [el, zec_lt (by omega)]
      simp (disch := omega) only [fX_X9_takeOut, fX_X9_takeOut_30, vl2, h32, zsI_2, vr2, ↓zN_eq, zL0, zL1, zL2, zL3, zL4, zL5, zL6, zL7, zL8, zL10, zL16, zL31, zL42, zL63, zL64, zL100, zL200, zL255, zL256, zL1000, zL12345, zL536870912, zI_le, zI_lt, zI_eq, zI_add, zI_sub, zI_mul, zI_neN, zI_Nne, zI_leN, zI_ltN, zI_Nle, zI_Nlt, zI_pred, zI_clamp, zI_div, zI_rem, zin_t, zgd_t, znz_t, if_pos, if_neg, if_true, if_false, Option.bind_some]
  · have q : ztop tm a k ≠ 64 := fun e => hor (Or.inl e)
    have w : ztop tm (k + 1) b ≠ 64 := fun e => hor (Or.inr e)
    have en : ztn tm k a b = (zsq tm (k + 1) 64 (ztop tm (k + 1) b) k).1 := if_neg hor
    have ek : ztk tm k a b = (fun j => if j = (zsq tm (k + 1) 64 (ztop tm (k + 1) b) k).2.1 then tm k else if j = k then 0 else tm j) := if_neg hor
    obtain ⟨i1, i2⟩ := zIv_r hj hI hT hk
    obtain ⟨t1, t2, t3, t4⟩ := zT_lt hb hTr (by omega)
    obtain ⟨hb', r1, r2, r3, r4, r5, r6, r7⟩ := zsq_ok hj 64 (ztop tm (k + 1) b) k b (by omega) i1 hTr (by omega) i2
    have h74 := pX_out_74 (S := zsI S 32 (nI (znd tm - 1))) (k := k) x4 hj x2 64 (ztop tm (k + 1) b) k 1000 1 b (by omega) t1 (by omega) i1 hTr (by omega) (by omega)
    have hsl := zsq_le (tm := tm) 64 (ztop tm (k + 1) b) k t1 (by omega) (by omega)
    rw [en, ek]
    generalize zsq tm (k + 1) 64 (ztop tm (k + 1) b) k = sq at *
    obtain ⟨stp, m, par⟩ := sq
    dsimp only at *
    have hstart : fX_X9_takeOut (nI k) S = fX_X9_takeOut_106 (nI k) (nI par) (nI m) (nI stp) (zsI S 32 (nI (znd tm - 1))) := by
      rw [show 1 + stp - 1 = stp by omega] at h74
      rw [← h74]
      have vl2 : S.2 40 k = nI (ztop tm a k) := by rw [vl, el, zec_lt (by omega)]
      have vr2 : S.2 41 k = nI (ztop tm (k + 1) b) := by rw [vr, er, zec_lt (by omega)]
      unfold fX_X9_takeOut
      generalize fX_X9_takeOut_74 1000 = F
      simp (disch := omega) only [vl2, h32, vr2, ↓zN_eq, zL0, zL1, zL2, zL3, zL4, zL5, zL6, zL7, zL8, zL10, zL16, zL31, zL42, zL63, zL64, zL100, zL200, zL255, zL256, zL1000, zL12345, zL536870912, zI_le, zI_lt, zI_eq, zI_add, zI_sub, zI_mul, zI_neN, zI_Nne, zI_leN, zI_ltN, zI_Nle, zI_Nlt, zI_pred, zI_clamp, zI_div, zI_rem, zin_t, zgd_t, znz_t, if_pos, if_neg, if_true, if_false, Option.bind_some]
    sorry

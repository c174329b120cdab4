/-! TREE: a node goes, in the class -/
theorem pX_out_74 {S : zSt} {tm l r : Nat → Nat} {root k : Nat} (hL : zLK tm l r root) (hj : zJ tm) (hl : zRl (S.2 40) tm l) : ∀ f c par u h hb, f < u → k + 1 ≤ c → c - (k + 1) ≤ f → zIv tm (k + 1) hb → zT tm (k + 1) hb c → c < 64 → h + (c - (k + 1)) < 64 → fX_X9_takeOut_74 u (nI k) (nI par) (nI c) (nI h) S = fX_X9_takeOut_106 (nI k) (nI (zsq tm (k + 1) f c par).2.2) (nI (zsq tm (k + 1) f c par).2.1) (nI (h + (zsq tm (k + 1) f c par).1 - 1)) S := by
  intro f
  induction f with
  | zero =>
    intro c par u h hb hu h1 h2 hI hT hc hh
    obtain ⟨u, rfl⟩ : ∃ m', u = m' + 1 := ⟨u - 1, by omega⟩
    obtain ⟨t1, t2, t3, t4⟩ := zT_lt hI.2.1 hT hc
    obtain ⟨lk, _⟩ := hL.2 _ _ c hI hT hc
    have e : l c = 64 := zT_uniq hj (by omega) lk (Or.inl ⟨rfl, fun j j1 j2 => absurd j2 (by omega)⟩)
    have hv := hl c hc t3
    rw [e, zec_64] at hv
    rw [show (zsq tm (k + 1) 0 c par).1 = 1 from rfl, show (zsq tm (k + 1) 0 c par).2.1 = c from rfl, show (zsq tm (k + 1) 0 c par).2.2 = par from rfl, show h + 1 - 1 = h by omega, fX_X9_takeOut_74]
    generalize fX_X9_takeOut_106 = F
    simp (disch := omega) only [hv, ↓zN_eq, zL0, zL1, zL2, zL3, zL4, zL5, zL6, zL7, zL8, zL10, zL16, zL31, zL42, zL63, zL64, zL100, zL200, zL255, zL256, zL1000, zL12345, zL536870912, zI_le, zI_lt, zI_eq, zI_add, zI_sub, zI_mul, zI_neN, zI_Nne, zI_leN, zI_ltN, zI_Nle, zI_Nlt, zI_pred, zI_clamp, zI_div, zI_rem, zin_t, zgd_t, znz_t, if_pos, if_neg, if_true, if_false, Option.bind_some]
  | succ f ih =>
    intro c par u h hb hu h1 h2 hI hT hc hh
    obtain ⟨u, rfl⟩ : ∃ m', u = m' + 1 := ⟨u - 1, by omega⟩
    obtain ⟨t1, t2, t3, t4⟩ := zT_lt hI.2.1 hT hc
    obtain ⟨lk, _⟩ := hL.2 _ _ c hI hT hc
    have hT2 := ztop_T (tm := tm) t1 (by omega : c ≤ 64)
    have hle := zT_le (by omega) hT2
    have e : l c = ztop tm (k + 1) c := zT_uniq hj (by omega) lk hT2
    have hv := hl c hc t3
    rw [e] at hv
    unfold zsq
    by_cases q : ztop tm (k + 1) c = 64
    · rw [if_pos q]
      rw [q, zec_64] at hv
      dsimp only
      rw [show h + 1 - 1 = h by omega, fX_X9_takeOut_74]
      generalize fX_X9_takeOut_106 = F
      simp (disch := omega) only [hv, ↓zN_eq, zL0, zL1, zL2, zL3, zL4, zL5, zL6, zL7, zL8, zL10, zL16, zL31, zL42, zL63, zL64, zL100, zL200, zL255, zL256, zL1000, zL12345, zL536870912, zI_le, zI_lt, zI_eq, zI_add, zI_sub, zI_mul, zI_neN, zI_Nne, zI_leN, zI_ltN, zI_Nle, zI_Nlt, zI_pred, zI_clamp, zI_div, zI_rem, zin_t, zgd_t, znz_t, if_pos, if_neg, if_true, if_false, Option.bind_some]
    · rw [if_neg q]
      obtain ⟨u1, u2, u3, u4⟩ := zT_lt (by omega) hT2 (by omega)
      rw [zec_lt (by omega)] at hv
      have ih1 := ih (ztop tm (k + 1) c) c u (h + 1) c (by omega) u1 (by omega) (zIv_l hj hI hT hc).1 hT2 (by omega) (by omega)
      dsimp only
      rw [show h + ((zsq tm (k + 1) f (ztop tm (k + 1) c) c).1 + 1) - 1 = h + 1 + (zsq tm (k + 1) f (ztop tm (k + 1) c) c).1 - 1 by omega, ← ih1, fX_X9_takeOut_74]
      generalize fX_X9_takeOut_106 = F
      simp (disch := omega) only [hv, ↓zN_eq, zL0, zL1, zL2, zL3, zL4, zL5, zL6, zL7, zL8, zL10, zL16, zL31, zL42, zL63, zL64, zL100, zL200, zL255, zL256, zL1000, zL12345, zL536870912, zI_le, zI_lt, zI_eq, zI_add, zI_sub, zI_mul, zI_neN, zI_Nne, zI_leN, zI_ltN, zI_Nle, zI_Nlt, zI_pred, zI_clamp, zI_div, zI_rem, zin_t, zgd_t, znz_t, if_pos, if_neg, if_true, if_false, Option.bind_some]
theorem zRl_mono {f : Nat → Int32} {tm tm' l : Nat → Nat} (h : zRl f tm l) (e : ∀ j, j < 64 → 0 < tm' j → 0 < tm j) : zRl f tm' l := fun j j1 j2 => h j j1 (e j j1 j2)
theorem zJ_sub {tm tm' : Nat → Nat} {k : Nat} (h : zJ tm) (e0 : tm' k = 0) (en : ∀ j, j ≠ k → tm' j = tm j) : zJ tm' := fun i j hi hj h0 e => by
  have hik : i ≠ k := fun q => by rw [q, e0] at h0; omega
  rw [en i hik] at h0 e
  have hjk : j ≠ k := fun q => by rw [q, e0] at e; omega
  rw [en j hjk] at e
  exact h i j hi hj h0 e
theorem zec_ne {t : Nat} (h : t ≠ 64) (h2 : t ≤ 64) : ¬ zec t = zN := fun e => by
  rw [zec_lt (by omega)] at e
  rw [zI_neN (by omega)] at e
  exact e
theorem pX_takeOut {S : zSt} {tm l r : Nat → Nat} {root k a b ab : Nat} (hX : zTX S tm l r root) (hj : zJ tm) (hk : k < 64) (h33 : S.1 33 = zec ab) (h32 : S.1 32 = nI (znd tm)) (hI : zIv tm a b) (hA : zAb tm a b ab) (hab : ab ≤ 64) (hT : zT tm a b k) : ∃ S' l' r' root', fX_X9_takeOut (nI k) S = some (nI (ztn tm k a b), S') ∧ zTX S' (ztk tm k a b) l' r' root' ∧ S'.1 32 = nI (znd tm - 1) ∧ zfr S S' [31, 32] [40, 41] := by
  obtain ⟨x1, x2, x3, x4⟩ := hX
  have hb := hI.2.1
  obtain ⟨k1, k2, k3, k4⟩ := zT_lt hb hT hk
  obtain ⟨lk, rk⟩ := x4.2 a b k hI hT hk
  have hTl := ztop_T (tm := tm) k1 (by omega : k ≤ 64)
  have hTr := ztop_T (tm := tm) (show k + 1 ≤ b by omega) hb
  have ll := zT_le (by omega) hTl
  have lr := zT_le hb hTr
  have el : l k = ztop tm a k := zT_uniq hj (by omega) lk hTl
  have er : r k = ztop tm (k + 1) b := zT_uniq hj hb rk hTr
  have vl := x2 k hk k3
  have vr := x3 k hk k3
  have hn1 : 1 ≤ znd tm := by have := znd_del hk k3; omega
  have hnl := znd_le tm
  by_cases hor : ztop tm a k = 64 ∨ ztop tm (k + 1) b = 64
  · -- at most one child
    have en : ztn tm k a b = 0 := if_pos hor
    have ek : ztk tm k a b = ztmP tm k 0 := if_pos hor
    rw [en, ek]
    have hm : ∀ j, j < 64 → 0 < ztmP tm k 0 j → 0 < tm j := fun j _ q => by
      unfold ztmP at q
      by_cases w : j = k
      · rw [if_pos w] at q; omega
      · rw [if_neg w] at q; exact q
    have go : ∀ x, x ≤ 64 → ((l k = 64 ∧ x = r k) ∨ (r k = 64 ∧ x = l k)) → fX_X9_takeOut (nI k) S = fX_X9_takeOut_56 (nI k) (zec x) (zsI S 32 (nI (znd tm - 1))) → ∃ S' l' r' root', fX_X9_takeOut (nI k) S = some (nI 0, S') ∧ zTX S' (ztmP tm k 0) l' r' root' ∧ S'.1 32 = nI (znd tm - 1) ∧ zfr S S' [31, 32] [40, 41] := fun x hx hxx hf => by
      obtain ⟨S2, e2, a2, b2, c2, d2⟩ := pX_hang (S := zsI S 32 (nI (znd tm - 1))) (x := x) hk hab hx h33 x1 x2 x3
      refine ⟨S2, _, _, _, ?_, ⟨a2, zRl_mono b2 hm, zRl_mono c2 hm, zLK_del hj x4 hk k3 hI hA hT hxx⟩, (d2.1 32 (by decide)).trans rfl, zfr_tr (zfr_sI (by decide)) (zfr_mono d2 (by decide) (by decide))⟩
      rw [hf]
      unfold fX_X9_takeOut_56
      rw [e2, Option.bind_some, zL0]
    by_cases q : ztop tm a k = 64
    · refine go (r k) (by rw [er]; exact lr) (Or.inl ⟨by rw [el]; exact q, rfl⟩) ?_
      have vl2 : S.2 40 k = zN := by rw [vl, el, q, zec_64]
      simp (disch := omega) only [fX_X9_takeOut, fX_X9_takeOut_30, vl2, h32, zsI_2, vr, ↓zN_eq, zL0, zL1, zL2, zL3, zL4, zL5, zL6, zL7, zL8, zL10, zL16, zL31, zL42, zL63, zL64, zL100, zL200, zL255, zL256, zL1000, zL12345, zL536870912, zI_le, zI_lt, zI_eq, zI_add, zI_sub, zI_mul, zI_neN, zI_Nne, zI_leN, zI_ltN, zI_Nle, zI_Nlt, zI_pred, zI_clamp, zI_div, zI_rem, zin_t, zgd_t, znz_t, if_pos, if_neg, if_true, if_false, Option.bind_some]
    · have w : ztop tm (k + 1) b = 64 := hor.resolve_left q
      refine go (l k) (by rw [el]; exact ll) (Or.inr ⟨by rw [er]; exact w, rfl⟩) ?_
      have vl2 : S.2 40 k = nI (ztop tm a k) := by rw [vl, el, zec_lt (by omega)]
      have vr2 : S.2 41 k = zN := by rw [vr, er, w, zec_64]
      rw [el, zec_lt (by omega)]
      simp (disch := omega) only [fX_X9_takeOut, fX_X9_takeOut_30, vl2, h32, zsI_2, vr2, ↓zN_eq, zL0, zL1, zL2, zL3, zL4, zL5, zL6, zL7, zL8, zL10, zL16, zL31, zL42, zL63, zL64, zL100, zL200, zL255, zL256, zL1000, zL12345, zL536870912, zI_le, zI_lt, zI_eq, zI_add, zI_sub, zI_mul, zI_neN, zI_Nne, zI_leN, zI_ltN, zI_Nle, zI_Nlt, zI_pred, zI_clamp, zI_div, zI_rem, zin_t, zgd_t, znz_t, if_pos, if_neg, if_true, if_false, Option.bind_some]
  · have q : ztop tm a k ≠ 64 := fun e => hor (Or.inl e)
    have w : ztop tm (k + 1) b ≠ 64 := fun e => hor (Or.inr e)
    have en : ztn tm k a b = (zsq tm (k + 1) 64 (ztop tm (k + 1) b) k).1 := if_neg hor
    have ek : ztk tm k a b = (fun j => if j = (zsq tm (k + 1) 64 (ztop tm (k + 1) b) k).2.1 then tm k else if j = k then 0 else tm j) := if_neg hor
    obtain ⟨i1, i2⟩ := zIv_r hj hI hT hk
    obtain ⟨t1, t2, t3, t4⟩ := zT_lt hb hTr (by omega)
    obtain ⟨hb', r1, r2, r3, r4, r5, r6, r7⟩ := zsq_ok hj 64 (ztop tm (k + 1) b) k b (by omega) i1 hTr (by omega) i2
    have h74 := pX_out_74 (S := zsI S 32 (nI (znd tm - 1))) (k := k) x4 hj x2 64 (ztop tm (k + 1) b) k 1000 1 b (by omega) t1 (by omega) i1 hTr (by omega) (by omega)
    have hsl := zsq_le (tm := tm) 64 (ztop tm (k + 1) b) k t1 (by omega) (by omega)
    rw [en, ek]
    generalize zsq tm (k + 1) 64 (ztop tm (k + 1) b) k = sq at *
    obtain ⟨stp, m, par⟩ := sq
    dsimp only at *
    have hstart : fX_X9_takeOut (nI k) S = fX_X9_takeOut_106 (nI k) (nI par) (nI m) (nI stp) (zsI S 32 (nI (znd tm - 1))) := by
      rw [show 1 + stp - 1 = stp by omega] at h74
      rw [← h74]
      have vl2 : S.2 40 k = nI (ztop tm a k) := by rw [vl, el, zec_lt (by omega)]
      have vr2 : S.2 41 k = nI (ztop tm (k + 1) b) := by rw [vr, er, zec_lt (by omega)]
      unfold fX_X9_takeOut
      generalize fX_X9_takeOut_74 1000 = F
      simp (disch := omega) only [vl2, h32, vr2, ↓zN_eq, zL0, zL1, zL2, zL3, zL4, zL5, zL6, zL7, zL8, zL10, zL16, zL31, zL42, zL63, zL64, zL100, zL200, zL255, zL256, zL1000, zL12345, zL536870912, zI_le, zI_lt, zI_eq, zI_add, zI_sub, zI_mul, zI_neN, zI_Nne, zI_leN, zI_ltN, zI_Nle, zI_Nlt, zI_pred, zI_clamp, zI_div, zI_rem, zin_t, zgd_t, znz_t, if_pos, if_neg, if_true, if_false, Option.bind_some]
    obtain ⟨m1, m2, m3, m4⟩ := zT_lt r1.2.1 r2 r3
    obtain ⟨lm, rm⟩ := x4.2 _ _ m r1 r2 r3
    have lm64 : l m = 64 := zT_uniq hj (by omega) lm (Or.inl ⟨rfl, r5⟩)
    have hpar : par < 64 ∧ par ≠ m := by
      rcases r6 with z | z <;> omega
    have hA1 := zLK_del hj x4 r3 m3 r1 r4 r2 (Or.inl ⟨lm64, rfl⟩)
    rw [if_neg (show ¬ par = 64 by omega)] at hA1
    have e0 : (fun j => if j = m then 0 else tm j) m = 0 := if_pos rfl
    have e1 : ∀ j, j ≠ m → (fun j => if j = m then 0 else tm j) j = tm j := fun j y => if_neg y
    have hfin : (fun j => if j = m then tm k else if j = k then 0 else tm j) = (fun j => if j = m then (fun j => if j = m then 0 else tm j) k else if j = k then 0 else (fun j => if j = m then 0 else tm j) j) := by
      funext j
      show _ = if j = m then (if k = m then 0 else tm k) else if j = k then 0 else (if j = m then 0 else tm j)
      rw [if_neg (show ¬ k = m by omega)]
      by_cases y : j = m
      · rw [if_pos y, if_pos y]
      · rw [if_neg y, if_neg y, if_neg y]
    generalize (fun j => if j = m then 0 else tm j) = tm1 at hA1 e0 e1 hfin
    have hj1 : zJ tm1 := zJ_sub hj e0 e1
    have hI1 : zIv tm1 a b := by
      refine ⟨hI.1, hb, ?_, ?_⟩
      · rcases hI.2.2.1 with z | z
        · exact Or.inl z
        · refine Or.inr ⟨by rw [e1 _ (by omega)]; exact z.1, fun j j1 j2 j3 => ?_⟩
          have hjm : j ≠ m := fun y => by rw [y, e0] at j3; omega
          rw [e1 j hjm] at j3 ⊢
          rw [e1 _ (by omega)]
          exact z.2 j j1 j2 j3
      · rcases hI.2.2.2 with z | z
        · exact Or.inl z
        · refine Or.inr ⟨by rw [e1 _ (by omega)]; exact z.1, fun j j1 j2 j3 => ?_⟩
          have hjm : j ≠ m := fun y => by rw [y, e0] at j3; omega
          rw [e1 j hjm] at j3 ⊢
          rw [e1 _ (by omega)]
          exact z.2 j j1 j2 j3
    have hAb1 : zAb tm1 a b ab := by
      rcases hA with z | z | z
      · exact Or.inl z
      · refine Or.inr (Or.inl ⟨z.1, z.2.1, ?_⟩)
        rcases z.2.2 with y | y
        · exact Or.inl y
        · by_cases v : a = 0
          · exact Or.inl v
          · right; rw [e1 _ (by omega), e1 _ (by omega)]; exact y
      · refine Or.inr (Or.inr ⟨z.1, z.2.1, ?_⟩)
        rcases z.2.2 with y | y
        · exact Or.inl y
        · right; rw [e1 _ (by omega), e1 _ (by omega)]; exact y
    have hT1 : zT tm1 a b k := zT_drop e0 e1 hb hT (by omega)
    have hB := zLK_ren hj1 hA1 r3 (show k < m by omega) (by rw [e1 k (by omega)]; exact k3) (fun j j1 j2 => by
      by_cases y : j = m
      · rw [y]; exact e0
      · rw [e1 j y]; exact r5 j (by omega) (by omega)) hI1 hAb1 hT1
    rw [← hfin] at hB
    have vm := x3 m r3 m3
    have finish : ∀ W : zSt, W.1 33 = S.1 33 → W.1 31 = S.1 31 → W.1 32 = nI (znd tm - 1) → zfr S W [31, 32] [40, 41] → zRl (W.2 40) (fun j => if j = m then tm k else if j = k then 0 else tm j) (fun j => if j = m then zhL l par m (r m) k else zhL l par m (r m) j) → zRl (W.2 41) (fun j => if j = m then tm k else if j = k then 0 else tm j) (fun j => if j = m then zhR r par m (r m) k else zhR r par m (r m) j) → fX_X9_takeOut_106 (nI k) (nI par) (nI m) (nI stp) (zsI S 32 (nI (znd tm - 1))) = (fX_X9_hang (nI m) (nI k) W).bind (fun u3 => some (nI stp, u3)) → ∃ S' l' r' root', fX_X9_takeOut (nI k) S = some (nI stp, S') ∧ zTX S' (fun j => if j = m then tm k else if j = k then 0 else tm j) l' r' root' ∧ S'.1 32 = nI (znd tm - 1) ∧ zfr S S' [31, 32] [40, 41] := fun W w1 w2 w3 w4 w5 w6 w7 => by
      obtain ⟨S2, f2, a2, b2, c2, d2⟩ := pX_hang (S := W) (x := m) (root := root) hk hab (by omega) (w1.trans h33) (w2.trans x1) w5 w6
      rw [zec_lt r3] at f2
      refine ⟨S2, _, _, _, ?_, ⟨a2, b2, c2, hB⟩, (d2.1 32 (by decide)).trans w3, zfr_tr w4 (zfr_mono d2 (by decide) (by decide))⟩
      rw [hstart, w7, f2]
      rfl
    have hpres : ∀ j, 0 < (fun j => if j = m then tm k else if j = k then 0 else tm j) j → j ≠ m → j ≠ k ∧ 0 < tm j := fun j y1 y2 => by
      have y3 : 0 < (if j = m then tm k else if j = k then 0 else tm j) := y1
      rw [if_neg y2] at y3
      by_cases v : j = k
      · rw [if_pos v] at y3; omega
      · rw [if_neg v] at y3; exact ⟨v, y3⟩
    by_cases hp : par = k
    · refine finish (zsR (zsI S 32 (nI (znd tm - 1))) 40 m (S.2 40 k)) rfl rfl rfl (zfr_tr (S' := zsI S 32 (nI (znd tm - 1))) (zfr_sI (by decide)) (zfr_sR (by decide))) ?_ ?_ ?_
      · intro j j1 j2
        show upd (S.2 40) m (S.2 40 k) j = zec (if j = m then zhL l par m (r m) k else zhL l par m (r m) j)
        unfold zhL
        by_cases y : j = m
        · rw [y, pk_us, if_pos rfl, if_neg (by omega)]; exact vl
        · rw [pk_un y, if_neg y, if_neg (by omega)]; exact x2 j j1 (hpres j j2 y).2
      · intro j j1 j2
        show S.2 41 j = zec (if j = m then zhR r par m (r m) k else zhR r par m (r m) j)
        unfold zhR
        by_cases y : j = m
        · rw [y, if_pos rfl, if_pos ⟨hp.symm, by omega⟩]; exact vm
        · rw [if_neg y, if_neg (fun v => (hpres j j2 y).1 (by omega))]; exact x3 j j1 (hpres j j2 y).2
      · rw [hp]
        simp (disch := omega) only [fX_X9_takeOut_106, fX_X9_takeOut_135, zsI_2, ↓zN_eq, zL0, zL1, zL2, zL3, zL4, zL5, zL6, zL7, zL8, zL10, zL16, zL31, zL42, zL63, zL64, zL100, zL200, zL255, zL256, zL1000, zL12345, zL536870912, zI_le, zI_lt, zI_eq, zI_add, zI_sub, zI_mul, zI_neN, zI_Nne, zI_leN, zI_ltN, zI_Nle, zI_Nlt, zI_pred, zI_clamp, zI_div, zI_rem, zin_t, zgd_t, znz_t, if_pos, if_neg, if_true, if_false, Option.bind_some]
    · have hp2 : k + 1 ≤ par ∧ m < par := by
        rcases r6 with z | z <;> omega
      refine finish (zsR (zsR (zsR (zsI S 32 (nI (znd tm - 1))) 40 par (S.2 41 m)) 41 m (S.2 41 k)) 40 m (S.2 40 k)) rfl rfl rfl (zfr_tr (zfr_tr (zfr_tr (S' := zsI S 32 (nI (znd tm - 1))) (zfr_sI (by decide)) (zfr_sR (by decide))) (zfr_sR (by decide))) (zfr_sR (by decide))) ?_ ?_ ?_
      · intro j j1 j2
        show upd (upd (S.2 40) par (S.2 41 m)) m (S.2 40 k) j = zec (if j = m then zhL l par m (r m) k else zhL l par m (r m) j)
        unfold zhL
        by_cases y : j = m
        · rw [y, pk_us, if_pos rfl, if_neg (fun v => hp v.1.symm)]; exact vl
        · rw [pk_un y, if_neg y]
          by_cases v : j = par
          · rw [v, pk_us, if_pos ⟨rfl, hp2.2⟩]; exact vm
          · rw [pk_un v, if_neg (fun z => v z.1)]; exact x2 j j1 (hpres j j2 y).2
      · intro j j1 j2
        show upd (S.2 41) m (S.2 41 k) j = zec (if j = m then zhR r par m (r m) k else zhR r par m (r m) j)
        unfold zhR
        by_cases y : j = m
        · rw [y, pk_us, if_pos rfl, if_neg (fun v => hp v.1.symm)]; exact vr
        · rw [pk_un y, if_neg y, if_neg (by omega)]; exact x3 j j1 (hpres j j2 y).2
      · have h40 : (zsR (zsR (zsI S 32 (nI (znd tm - 1))) 40 par (S.2 41 m)) 41 m (S.2 41 k)).2 40 k = S.2 40 k := by
          show upd (S.2 40) par (S.2 41 m) k = _
          exact pk_un (fun v => hp v.symm)
        simp (disch := omega) only [fX_X9_takeOut_106, fX_X9_takeOut_135, zsI_2, h40, ↓zN_eq, zL0, zL1, zL2, zL3, zL4, zL5, zL6, zL7, zL8, zL10, zL16, zL31, zL42, zL63, zL64, zL100, zL200, zL255, zL256, zL1000, zL12345, zL536870912, zI_le, zI_lt, zI_eq, zI_add, zI_sub, zI_mul, zI_neN, zI_Nne, zI_leN, zI_ltN, zI_Nle, zI_Nlt, zI_pred, zI_clamp, zI_div, zI_rem, zin_t, zgd_t, znz_t, if_pos, if_neg, if_true, if_false, Option.bind_some]

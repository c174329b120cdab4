/-! TREE: a node goes -/
theorem zsq_ok {tm : Nat → Nat} {lo : Nat} (hj : zJ tm) : ∀ f c par hb, c - lo ≤ f → zIv tm lo hb → zT tm lo hb c → c < 64 → zAb tm lo hb par → ∃ hb', zIv tm lo hb' ∧ zT tm lo hb' (zsq tm lo f c par).2.1 ∧ (zsq tm lo f c par).2.1 < 64 ∧ zAb tm lo hb' (zsq tm lo f c par).2.2 ∧ (∀ j, lo ≤ j → j < (zsq tm lo f c par).2.1 → tm j = 0) ∧ ((zsq tm lo f c par).2.2 = par ∧ (zsq tm lo f c par).2.1 = c ∨ (lo ≤ (zsq tm lo f c par).2.2 ∧ (zsq tm lo f c par).2.1 < (zsq tm lo f c par).2.2 ∧ (zsq tm lo f c par).2.2 < 64)) ∧ (zsq tm lo f c par).2.1 ≤ c := by
  intro f
  induction f with
  | zero =>
    intro c par hb h1 hI hT hc hA
    obtain ⟨t1, t2, t3, t4⟩ := zT_lt hI.2.1 hT hc
    exact ⟨hb, hI, hT, hc, hA, fun j j1 j2 => absurd j2 (by show ¬ j < c; omega), Or.inl ⟨rfl, rfl⟩, Nat.le_refl _⟩
  | succ f ih =>
    intro c par hb h1 hI hT hc hA
    obtain ⟨t1, t2, t3, t4⟩ := zT_lt hI.2.1 hT hc
    have hT2 := ztop_T (tm := tm) t1 (by omega : c ≤ 64)
    have hle := zT_le (by omega) hT2
    unfold zsq
    by_cases q : ztop tm lo c = 64
    · rw [if_pos q]
      rw [q] at hT2
      exact ⟨hb, hI, hT, hc, hA, zT_no (show c ≤ 64 by omega) hT2, Or.inl ⟨rfl, rfl⟩, Nat.le_refl _⟩
    · rw [if_neg q]
      obtain ⟨u1, u2, u3, u4⟩ := zT_lt (by omega) hT2 (by omega)
      obtain ⟨i1, i2⟩ := zIv_l hj hI hT hc
      obtain ⟨hb', r1, r2, r3, r4, r5, r6, r7⟩ := ih (ztop tm lo c) c c (by omega) i1 hT2 (by omega) i2
      refine ⟨hb', r1, r2, r3, r4, r5, Or.inr ?_, by dsimp only; omega⟩
      dsimp only
      rcases r6 with w | w
      · omega
      · exact w
/-- the times when the node k goes; the place of k is [a, b) -/
def ztk (tm : Nat → Nat) (k a b : Nat) : Nat → Nat := if ztop tm a k = 64 ∨ ztop tm (k + 1) b = 64 then ztmP tm k 0 else (fun j => if j = (zsq tm (k + 1) 64 (ztop tm (k + 1) b) k).2.1 then tm k else if j = k then 0 else tm j)
def ztn (tm : Nat → Nat) (k a b : Nat) : Nat := if ztop tm a k = 64 ∨ ztop tm (k + 1) b = 64 then 0 else (zsq tm (k + 1) 64 (ztop tm (k + 1) b) k).1
theorem pM_node_63 {S : zSt} {tm : Nat → Nat} {clk k m : Nat} (hr : zRp (S.2 23) 64 tm) (hc : zM3 tm clk) (hk : k < 64) (hm : m < 64) : ∀ f c par u h, f + 1 < u → k + 1 ≤ c → c < 64 → c - (k + 1) ≤ f → fM_X11_takeNode_63 u (nI k) (nI h) (nI m) (nI c) S = some (nI (h + (zsq tm (k + 1) f c par).1), zsR (zsR S 23 m (nI (tm k))) 23 k (nI 0)) := by
  have hr' : ∀ j, j < 64 → S.2 23 j = nI (tm j) := hr
  intro f
  induction f with
  | zero =>
    intro c par u h hu h1 h2 h3
    obtain ⟨u, rfl⟩ : ∃ m', u = m' + 1 + 1 := ⟨u - 2, by omega⟩
    have hc0 : c = k + 1 := by omega
    subst hc0
    have ht := pM_topOf (a := k + 1) hr hc (show k + 1 ≤ 64 by omega) (Nat.le_refl _)
    have e : ztop tm (k + 1) (k + 1) = 64 := by unfold ztop; rw [Nat.sub_self]; rfl
    rw [e, zec_64, zlw_s] at ht
    rw [show (zsq tm (k + 1) 0 (k + 1) par).1 = 1 from rfl]
    simp (disch := omega) only [fM_X11_takeNode_63, fM_X11_takeNode_101, ht, hr', ↓zN_eq, zL0, zL1, zL2, zL3, zL4, zL5, zL6, zL7, zL8, zL10, zL16, zL31, zL42, zL63, zL64, zL100, zL200, zL255, zL256, zL1000, zL12345, zL536870912, zI_le, zI_lt, zI_eq, zI_add, zI_sub, zI_mul, zI_neN, zI_Nne, zI_leN, zI_ltN, zI_Nle, zI_Nlt, zI_pred, zI_clamp, zI_div, zI_rem, zin_t, zgd_t, znz_t, if_pos, if_neg, if_true, if_false, Option.bind_some]
  | succ f ih =>
    intro c par u h hu h1 h2 h3
    obtain ⟨u, rfl⟩ : ∃ m', u = m' + 1 + 1 := ⟨u - 2, by omega⟩
    have ht := pM_topOf (a := k + 1) hr hc (show c ≤ 64 by omega) h1
    rw [zlw_s] at ht
    have hT := ztop_T (tm := tm) h1 (by omega : c ≤ 64)
    have hle := zT_le (by omega) hT
    unfold zsq
    by_cases q : ztop tm (k + 1) c = 64
    · rw [if_pos q]
      rw [q, zec_64] at ht
      simp (disch := omega) only [fM_X11_takeNode_63, fM_X11_takeNode_101, ht, hr', ↓zN_eq, zL0, zL1, zL2, zL3, zL4, zL5, zL6, zL7, zL8, zL10, zL16, zL31, zL42, zL63, zL64, zL100, zL200, zL255, zL256, zL1000, zL12345, zL536870912, zI_le, zI_lt, zI_eq, zI_add, zI_sub, zI_mul, zI_neN, zI_Nne, zI_leN, zI_ltN, zI_Nle, zI_Nlt, zI_pred, zI_clamp, zI_div, zI_rem, zin_t, zgd_t, znz_t, if_pos, if_neg, if_true, if_false, Option.bind_some]
    · rw [if_neg q]
      obtain ⟨t1, t2, t3, t4⟩ := zT_lt (by omega) hT (by omega)
      rw [zec_lt (by omega)] at ht
      have ih1 := ih (ztop tm (k + 1) c) c (u + 1) (h + 1) (by omega) t1 (by omega) (by omega)
      rw [fM_X11_takeNode_63]
      rw [zN_eq, if_neg (by rw [zI_neN (by omega)]; exact id), ht, Option.bind_some, zL1, zI_add, ih1]
      congr 3; show _ = h + (_ + 1); omega
theorem pM_node_38 {S : zSt} {tm : Nat → Nat} {clk k m c : Nat} (hr : zRp (S.2 23) 64 tm) (hc : zM3 tm clk) (hm : m < 64) (hpm : 0 < tm m) (x3 : Int32) : ∀ r i u, r < u → i + r = m → k < i → (∀ j, i ≤ j → j < m → tm j = 0) → fM_X11_takeNode_38 u (nI k) x3 (nI 0) (nI i) S = fM_X11_takeNode_63 1000 (nI k) (nI 0) (nI m) x3 S := by
  obtain ⟨hc1, hc2⟩ := hc
  have hr' : ∀ j, j < 64 → S.2 23 j = nI (tm j) := hr
  have hmb := hc2 m hm
  intro r
  induction r with
  | zero =>
    intro i u hu hi hk _
    obtain ⟨u, rfl⟩ : ∃ m', u = m' + 1 := ⟨u - 1, by omega⟩
    have e : i = m := by omega
    subst e
    rw [fM_X11_takeNode_38]
    generalize fM_X11_takeNode_63 1000 = F
    simp (disch := omega) only [hr', ↓zN_eq, zL0, zL1, zL2, zL3, zL4, zL5, zL6, zL7, zL8, zL10, zL16, zL31, zL42, zL63, zL64, zL100, zL200, zL255, zL256, zL1000, zL12345, zL536870912, zI_le, zI_lt, zI_eq, zI_add, zI_sub, zI_mul, zI_neN, zI_Nne, zI_leN, zI_ltN, zI_Nle, zI_Nlt, zI_pred, zI_clamp, zI_div, zI_rem, zin_t, zgd_t, znz_t, if_pos, if_neg, if_true, if_false, Option.bind_some]
  | succ r ih =>
    intro i u hu hi hk hz
    obtain ⟨u, rfl⟩ : ∃ m', u = m' + 1 := ⟨u - 1, by omega⟩
    have h0 := hz i (Nat.le_refl i) (by omega)
    rw [← ih (i + 1) u (by omega) (by omega) (by omega) (fun j j1 j2 => hz j (by omega) j2)]
    rw [fM_X11_takeNode_38]
    generalize fM_X11_takeNode_63 1000 = F
    simp (disch := omega) only [hr', h0, ↓zN_eq, zL0, zL1, zL2, zL3, zL4, zL5, zL6, zL7, zL8, zL10, zL16, zL31, zL42, zL63, zL64, zL100, zL200, zL255, zL256, zL1000, zL12345, zL536870912, zI_le, zI_lt, zI_eq, zI_add, zI_sub, zI_mul, zI_neN, zI_Nne, zI_leN, zI_ltN, zI_Nle, zI_Nlt, zI_pred, zI_clamp, zI_div, zI_rem, zin_t, zgd_t, znz_t, if_pos, if_neg, if_true, if_false, Option.bind_some]
theorem zRp_two {f : Nat → Int32} {tm : Nat → Nat} {k m : Nat} (h : zRp f 64 tm) (hkm : k ≠ m) : zRp (upd (upd f m (nI (tm k))) k (nI 0)) 64 (fun j => if j = m then tm k else if j = k then 0 else tm j) := by
  intro j hj
  show _ = nI (if j = m then tm k else if j = k then 0 else tm j)
  by_cases q : j = k
  · rw [q, pk_us, if_neg hkm, if_pos rfl]
  · rw [pk_un q]
    by_cases w : j = m
    · rw [w, pk_us, if_pos rfl]
    · rw [pk_un w, if_neg w, if_neg q]; exact h j hj
theorem pM_takeNode {S : zSt} {tm : Nat → Nat} {clk k a b : Nat} (hr : zRp (S.2 23) 64 tm) (hc : zM3 tm clk) (hj : zJ tm) (hk : k < 64) (hI : zIv tm a b) (hT : zT tm a b k) (h30 : S.1 30 = zlw a) (h31 : S.1 31 = nI b) : ∃ S', fM_X11_takeNode (nI k) S = some (nI (ztn tm k a b), S') ∧ zRp (S'.2 23) 64 (ztk tm k a b) ∧ zfr S S' [] [23] := by
  have hb := hI.2.1
  obtain ⟨k1, k2, k3, k4⟩ := zT_lt hb hT hk
  have hl := pM_topOf (a := a) hr hc (show k ≤ 64 by omega) k1
  have hrr := pM_topOf (a := k + 1) hr hc hb (by omega)
  rw [zlw_s] at hrr
  have hTl := ztop_T (tm := tm) k1 (by omega : k ≤ 64)
  have hTr := ztop_T (tm := tm) (show k + 1 ≤ b by omega) hb
  have ll := zT_le (by omega) hTl
  have lr := zT_le hb hTr
  have hone : zRp ((zsR S 23 k (nI 0)).2 23) 64 (ztmP tm k 0) := zRp_up hr
  by_cases q : ztop tm a k = 64
  · refine ⟨zsR S 23 k (nI 0), ?_, ?_, zfr_sR (by decide)⟩
    · rw [q, zec_64] at hl
      have e : ztn tm k a b = 0 := if_pos (Or.inl q)
      rw [e]
      unfold fM_X11_takeNode
      rw [h30, h31, hl, Option.bind_some, hrr, Option.bind_some, zN_eq, if_pos rfl]
      simp (disch := omega) only [fM_X11_takeNode_101, ↓zN_eq, zL0, zL1, zL2, zL3, zL4, zL5, zL6, zL7, zL8, zL10, zL16, zL31, zL42, zL63, zL64, zL100, zL200, zL255, zL256, zL1000, zL12345, zL536870912, zI_le, zI_lt, zI_eq, zI_add, zI_sub, zI_mul, zI_neN, zI_Nne, zI_leN, zI_ltN, zI_Nle, zI_Nlt, zI_pred, zI_clamp, zI_div, zI_rem, zin_t, zgd_t, znz_t, if_pos, if_neg, if_true, if_false, Option.bind_some]
    · have e : ztk tm k a b = ztmP tm k 0 := if_pos (Or.inl q)
      rw [e]; exact hone
  · by_cases w : ztop tm (k + 1) b = 64
    · refine ⟨zsR S 23 k (nI 0), ?_, ?_, zfr_sR (by decide)⟩
      · rw [w, zec_64] at hrr
        rw [zec_lt (by omega)] at hl
        have e : ztn tm k a b = 0 := if_pos (Or.inr w)
        rw [e]
        unfold fM_X11_takeNode
        rw [h30, h31, hl, Option.bind_some, hrr, Option.bind_some, zN_eq, if_neg (by rw [zI_neN (by omega)]; exact id), if_pos rfl]
        simp (disch := omega) only [fM_X11_takeNode_101, ↓zN_eq, zL0, zL1, zL2, zL3, zL4, zL5, zL6, zL7, zL8, zL10, zL16, zL31, zL42, zL63, zL64, zL100, zL200, zL255, zL256, zL1000, zL12345, zL536870912, zI_le, zI_lt, zI_eq, zI_add, zI_sub, zI_mul, zI_neN, zI_Nne, zI_leN, zI_ltN, zI_Nle, zI_Nlt, zI_pred, zI_clamp, zI_div, zI_rem, zin_t, zgd_t, znz_t, if_pos, if_neg, if_true, if_false, Option.bind_some]
      · have e : ztk tm k a b = ztmP tm k 0 := if_pos (Or.inr w)
        rw [e]; exact hone
    · have hor : ¬ (ztop tm a k = 64 ∨ ztop tm (k + 1) b = 64) := fun z => z.elim q w
      obtain ⟨i1, i2⟩ := zIv_r hj hI hT hk
      obtain ⟨t1, t2, t3, t4⟩ := zT_lt hb hTr (by omega)
      obtain ⟨hb', r1, r2, r3, r4, r5, r6, r7⟩ := zsq_ok hj 64 (ztop tm (k + 1) b) k b (by omega) i1 hTr (by omega) i2
      have e1 : ztn tm k a b = (zsq tm (k + 1) 64 (ztop tm (k + 1) b) k).1 := if_neg hor
      have e2 : ztk tm k a b = (fun j => if j = (zsq tm (k + 1) 64 (ztop tm (k + 1) b) k).2.1 then tm k else if j = k then 0 else tm j) := if_neg hor
      have h63 := pM_node_63 (m := (zsq tm (k + 1) 64 (ztop tm (k + 1) b) k).2.1) hr hc hk r3 64 (ztop tm (k + 1) b) k 1000 0 (by omega) t1 (by omega) (by omega)
      obtain ⟨m1, m2, m3, m4⟩ := zT_lt r1.2.1 r2 r3
      have h38 := pM_node_38 (k := k) (c := 0) hr hc r3 m3 (nI (ztop tm (k + 1) b)) ((zsq tm (k + 1) 64 (ztop tm (k + 1) b) k).2.1 - (k + 1)) (k + 1) 1000 (by omega) (by omega) (by omega) r5
      rw [e1, e2]
      generalize zsq tm (k + 1) 64 (ztop tm (k + 1) b) k = sq at *
      refine ⟨zsR (zsR S 23 sq.2.1 (nI (tm k))) 23 k (nI 0), ?_, ?_, zfr_tr (zfr_sR (by decide)) (zfr_sR (by decide))⟩
      · rw [Nat.zero_add] at h63
        rw [zec_lt (by omega)] at hl hrr
        unfold fM_X11_takeNode
        rw [h30, h31, hl, Option.bind_some, hrr, Option.bind_some, zN_eq, if_neg (by rw [zI_neN (by omega)]; exact id), if_neg (by rw [zI_neN (by omega)]; exact id), zL0, zL1, zI_add, h38, h63]
      · exact zRp_two hr (by omega)

/-! TREE: nodes, the way left, a put -/
abbrev zpr (tm : Nat → Nat) : Nat → Bool := fun j => decide (0 < tm j)
def znd (tm : Nat → Nat) : Nat := zct (zpr tm) 64
theorem pM_nodes_4 {S : zSt} {tm : Nat → Nat} {clk : Nat} (hr : zRp (S.2 23) 64 tm) (hc : zM3 tm clk) : ∀ r i m, r < m → i + r = 64 → fM_X11_nodes_4 m (nI (zct (zpr tm) i)) (nI i) S = some (nI (znd tm)) := by
  obtain ⟨hc1, hc2⟩ := hc
  have hr' : ∀ j, j < 64 → S.2 23 j = nI (tm j) := hr
  intro r
  induction r with
  | zero =>
    intro i m hm hi
    obtain ⟨m, rfl⟩ : ∃ m', m = m' + 1 := ⟨m - 1, by omega⟩
    have e : i = 64 := by omega
    subst e
    unfold znd
    simp (disch := omega) only [fM_X11_nodes_4, ↓zN_eq, zL0, zL1, zL2, zL3, zL4, zL5, zL6, zL7, zL8, zL10, zL16, zL31, zL42, zL63, zL64, zL100, zL200, zL255, zL256, zL1000, zL12345, zL536870912, zI_le, zI_lt, zI_eq, zI_add, zI_sub, zI_mul, zI_neN, zI_Nne, zI_leN, zI_ltN, zI_Nle, zI_Nlt, zI_pred, zI_clamp, zI_div, zI_rem, zin_t, zgd_t, znz_t, if_pos, if_neg, if_true, if_false, Option.bind_some]
  | succ r ih =>
    intro i m hm hi
    obtain ⟨m, rfl⟩ : ∃ m', m = m' + 1 := ⟨m - 1, by omega⟩
    have h1 := hc2 i (by omega)
    have ih1 := ih (i + 1) m (by omega) (by omega)
    rw [show zct (zpr tm) (i + 1) = zct (zpr tm) i + (if decide (0 < tm i) = true then 1 else 0) from rfl] at ih1
    by_cases q : 0 < tm i
    · rw [if_pos (decide_eq_true q)] at ih1
      rw [← ih1]
      simp (disch := omega) only [fM_X11_nodes_4, hr', ↓zN_eq, zL0, zL1, zL2, zL3, zL4, zL5, zL6, zL7, zL8, zL10, zL16, zL31, zL42, zL63, zL64, zL100, zL200, zL255, zL256, zL1000, zL12345, zL536870912, zI_le, zI_lt, zI_eq, zI_add, zI_sub, zI_mul, zI_neN, zI_Nne, zI_leN, zI_ltN, zI_Nle, zI_Nlt, zI_pred, zI_clamp, zI_div, zI_rem, zin_t, zgd_t, znz_t, if_pos, if_neg, if_true, if_false, Option.bind_some]
    · rw [if_neg (fun w => q (of_decide_eq_true w))] at ih1
      rw [← ih1]
      simp (disch := omega) only [fM_X11_nodes_4, hr', Nat.add_zero, ↓zN_eq, zL0, zL1, zL2, zL3, zL4, zL5, zL6, zL7, zL8, zL10, zL16, zL31, zL42, zL63, zL64, zL100, zL200, zL255, zL256, zL1000, zL12345, zL536870912, zI_le, zI_lt, zI_eq, zI_add, zI_sub, zI_mul, zI_neN, zI_Nne, zI_leN, zI_ltN, zI_Nle, zI_Nlt, zI_pred, zI_clamp, zI_div, zI_rem, zin_t, zgd_t, znz_t, if_pos, if_neg, if_true, if_false, Option.bind_some]
theorem pM_nodes {S : zSt} {tm : Nat → Nat} {clk : Nat} (hr : zRp (S.2 23) 64 tm) (hc : zM3 tm clk) : fM_X11_nodes S = some (nI (znd tm)) := by
  have h := pM_nodes_4 hr hc 64 0 1000 (by omega) (by omega)
  unfold fM_X11_nodes
  rw [zL0]
  exact h
/-- the way left from at, above lo: steps, the last node, the one above it -/
def zsq (tm : Nat → Nat) (lo : Nat) : Nat → Nat → Nat → Nat × Nat × Nat
  | 0, c, par => (1, c, par)
  | f + 1, c, par => if ztop tm lo c = 64 then (1, c, par) else ((zsq tm lo f (ztop tm lo c) c).1 + 1, (zsq tm lo f (ztop tm lo c) c).2)
theorem zsq_le {tm : Nat → Nat} {lo : Nat} : ∀ f c par, lo ≤ c → c < 64 → c - lo ≤ f → (zsq tm lo f c par).1 ≤ c - lo + 1 := by
  intro f
  induction f with
  | zero => intro c par _ _ _; show 1 ≤ _; omega
  | succ f ih =>
    intro c par h1 h2 h3
    have hT := ztop_T (tm := tm) h1 (by omega : c ≤ 64)
    have hle := zT_le (by omega) hT
    unfold zsq
    by_cases q : ztop tm lo c = 64
    · rw [if_pos q]; show 1 ≤ _; omega
    · rw [if_neg q]
      obtain ⟨t1, t2, t3, t4⟩ := zT_lt (by omega) hT (by omega)
      have := ih (ztop tm lo c) c t1 (by omega) (by omega)
      show _ + 1 ≤ _; omega
theorem pM_left_10 {S : zSt} {tm : Nat → Nat} {clk : Nat} (hr : zRp (S.2 23) 64 tm) (hc : zM3 tm clk) : ∀ f c par m h, f + 1 < m → c < 64 → c ≤ f → fM_X11_leftMost_10 m (nI h) (nI c) S = some (nI (h + (zsq tm 0 f c par).1)) := by
  intro f
  induction f with
  | zero =>
    intro c par m h hm h1 h2
    obtain ⟨m, rfl⟩ : ∃ m', m = m' + 1 + 1 := ⟨m - 2, by omega⟩
    have hc0 : c = 0 := by omega
    subst hc0
    have ht := pM_topOf (a := 0) hr hc (show 0 ≤ 64 by omega) (Nat.le_refl 0)
    have e : ztop tm 0 0 = 64 := rfl
    rw [e, zec_64] at ht
    have hl0 : zlw 0 = zN := rfl
    rw [hl0] at ht
    rw [show (zsq tm 0 0 0 par).1 = 1 from rfl]
    simp (disch := omega) only [fM_X11_leftMost_10, ht, ↓zN_eq, zL0, zL1, zL2, zL3, zL4, zL5, zL6, zL7, zL8, zL10, zL16, zL31, zL42, zL63, zL64, zL100, zL200, zL255, zL256, zL1000, zL12345, zL536870912, zI_le, zI_lt, zI_eq, zI_add, zI_sub, zI_mul, zI_neN, zI_Nne, zI_leN, zI_ltN, zI_Nle, zI_Nlt, zI_pred, zI_clamp, zI_div, zI_rem, zin_t, zgd_t, znz_t, if_pos, if_neg, if_true, if_false, Option.bind_some]
  | succ f ih =>
    intro c par m h hm h1 h2
    obtain ⟨m, rfl⟩ : ∃ m', m = m' + 1 + 1 := ⟨m - 2, by omega⟩
    have ht := pM_topOf (a := 0) hr hc (show c ≤ 64 by omega) (Nat.zero_le c)
    have hl0 : zlw 0 = zN := rfl
    rw [hl0] at ht
    have hT := ztop_T (tm := tm) (Nat.zero_le c) (by omega : c ≤ 64)
    have hle := zT_le (by omega) hT
    unfold zsq
    by_cases q : ztop tm 0 c = 64
    · rw [if_pos q]
      rw [q, zec_64] at ht
      simp (disch := omega) only [fM_X11_leftMost_10, ht, ↓zN_eq, zL0, zL1, zL2, zL3, zL4, zL5, zL6, zL7, zL8, zL10, zL16, zL31, zL42, zL63, zL64, zL100, zL200, zL255, zL256, zL1000, zL12345, zL536870912, zI_le, zI_lt, zI_eq, zI_add, zI_sub, zI_mul, zI_neN, zI_Nne, zI_leN, zI_ltN, zI_Nle, zI_Nlt, zI_pred, zI_clamp, zI_div, zI_rem, zin_t, zgd_t, znz_t, if_pos, if_neg, if_true, if_false, Option.bind_some]
    · rw [if_neg q]
      obtain ⟨t1, t2, t3, t4⟩ := zT_lt (by omega) hT (by omega)
      rw [zec_lt (by omega)] at ht
      have ih1 := ih (ztop tm 0 c) c (m + 1) (h + 1) (by omega) (by omega) (by omega)
      rw [fM_X11_leftMost_10]
      rw [zN_eq, if_neg (by rw [zI_neN (by omega)]; exact id), ht, Option.bind_some, zL1, zI_add, ih1]
      congr 2; show _ = h + (_ + 1); omega
def zlm (tm : Nat → Nat) : Nat := if ztop tm 0 64 = 64 then 0 else (zsq tm 0 64 (ztop tm 0 64) 64).1
theorem pM_leftMost {S : zSt} {tm : Nat → Nat} {clk : Nat} (hr : zRp (S.2 23) 64 tm) (hc : zM3 tm clk) : fM_X11_leftMost S = some (nI (zlm tm)) := by
  have ht := pM_topOf (a := 0) hr hc (Nat.le_refl 64) (Nat.zero_le 64)
  have hT := ztop_T (tm := tm) (Nat.zero_le 64) (Nat.le_refl 64)
  have hle := zT_le (by omega) hT
  have hl0 : zlw 0 = zN := rfl
  rw [hl0] at ht
  unfold fM_X11_leftMost zlm
  rw [zN_eq, zL64, ht, Option.bind_some]
  by_cases q : ztop tm 0 64 = 64
  · rw [q, zec_64, if_pos rfl, show (1000 : Nat) = 999 + 1 from rfl, fM_X11_leftMost_10, zN_eq, if_pos rfl, zL0]
  · rw [if_neg q, zec_lt (by omega), zL0, pM_left_10 hr hc 64 (ztop tm 0 64) 64 1000 0 (by omega) (by omega) (by omega), Nat.zero_add]
theorem pX_least_7 {S : zSt} {tm l r : Nat → Nat} {root : Nat} (hL : zLK tm l r root) (hj : zJ tm) (hl : zRl (S.2 40) tm l) : ∀ f c par b m h, f + 1 < m → c < 64 → c ≤ f → zIv tm 0 b → zT tm 0 b c → h + c < 64 → fX_X9_seekLeast_7 m (nI c) (nI h) S = some (nI (h + (zsq tm 0 f c par).1)) := by
  intro f
  induction f with
  | zero =>
    intro c par b m h hm h1 h2 hI hT h3
    obtain ⟨m, rfl⟩ : ∃ m', m = m' + 1 + 1 := ⟨m - 2, by omega⟩
    have hc0 : c = 0 := by omega
    subst hc0
    obtain ⟨t1, t2, t3, t4⟩ := zT_lt hI.2.1 hT h1
    obtain ⟨lk, _⟩ := hL.2 0 b 0 hI hT h1
    have e : l 0 = 64 := zT_uniq hj (by omega) lk (Or.inl ⟨rfl, fun k _ q => absurd q (by omega)⟩)
    have hv := hl 0 h1 t3
    rw [e, zec_64] at hv
    have k1 := pX_isKey (S := S) h1
    have k2 := pX_isKeyN (S := S)
    rw [show (zsq tm 0 0 0 par).1 = 1 from rfl]
    simp (disch := omega) only [fX_X9_seekLeast_7, k1, k2, hv, ↓zN_eq, zL0, zL1, zL2, zL3, zL4, zL5, zL6, zL7, zL8, zL10, zL16, zL31, zL42, zL63, zL64, zL100, zL200, zL255, zL256, zL1000, zL12345, zL536870912, zI_le, zI_lt, zI_eq, zI_add, zI_sub, zI_mul, zI_neN, zI_Nne, zI_leN, zI_ltN, zI_Nle, zI_Nlt, zI_pred, zI_clamp, zI_div, zI_rem, zin_t, zgd_t, znz_t, if_pos, if_neg, if_true, if_false, Option.bind_some]
  | succ f ih =>
    intro c par b m h hm h1 h2 hI hT h3
    obtain ⟨m, rfl⟩ : ∃ m', m = m' + 1 + 1 := ⟨m - 2, by omega⟩
    obtain ⟨t1, t2, t3, t4⟩ := zT_lt hI.2.1 hT h1
    obtain ⟨lk, _⟩ := hL.2 0 b c hI hT h1
    have hT2 := ztop_T (tm := tm) (Nat.zero_le c) (by omega : c ≤ 64)
    have hle := zT_le (by omega) hT2
    have e : l c = ztop tm 0 c := zT_uniq hj (by omega) lk hT2
    have hv := hl c h1 t3
    rw [e] at hv
    have k1 := pX_isKey (S := S) h1
    unfold zsq
    by_cases q : ztop tm 0 c = 64
    · rw [if_pos q]
      rw [q, zec_64] at hv
      have k2 := pX_isKeyN (S := S)
      simp (disch := omega) only [fX_X9_seekLeast_7, k1, k2, hv, ↓zN_eq, zL0, zL1, zL2, zL3, zL4, zL5, zL6, zL7, zL8, zL10, zL16, zL31, zL42, zL63, zL64, zL100, zL200, zL255, zL256, zL1000, zL12345, zL536870912, zI_le, zI_lt, zI_eq, zI_add, zI_sub, zI_mul, zI_neN, zI_Nne, zI_leN, zI_ltN, zI_Nle, zI_Nlt, zI_pred, zI_clamp, zI_div, zI_rem, zin_t, zgd_t, znz_t, if_pos, if_neg, if_true, if_false, Option.bind_some]
    · rw [if_neg q]
      obtain ⟨u1, u2, u3, u4⟩ := zT_lt (by omega) hT2 (by omega)
      rw [zec_lt (by omega)] at hv
      have ih1 := ih (ztop tm 0 c) c c (m + 1) (h + 1) (by omega) (by omega) (by omega) (zIv_l hj hI hT h1).1 hT2 (by omega)
      rw [fX_X9_seekLeast_7]
      simp (disch := omega) only [k1, hv, ↓zN_eq, zL0, zL1, zL2, zL3, zL4, zL5, zL6, zL7, zL8, zL10, zL16, zL31, zL42, zL63, zL64, zL100, zL200, zL255, zL256, zL1000, zL12345, zL536870912, zI_le, zI_lt, zI_eq, zI_add, zI_sub, zI_mul, zI_neN, zI_Nne, zI_leN, zI_ltN, zI_Nle, zI_Nlt, zI_pred, zI_clamp, zI_div, zI_rem, zin_t, zgd_t, znz_t, if_pos, if_neg, if_true, if_false, Option.bind_some]
      rw [ih1]
      congr 2; show _ = h + (_ + 1); omega
theorem pX_seekLeast {S : zSt} {tm l r : Nat → Nat} {root : Nat} (h : zTX S tm l r root) (hj : zJ tm) : fX_X9_seekLeast S = some (nI (zlm tm)) := by
  obtain ⟨h1, h2, h3, h4⟩ := h
  have hT := ztop_T (tm := tm) (Nat.zero_le 64) (Nat.le_refl 64)
  have hle := zT_le (by omega) hT
  have e0 : root = ztop tm 0 64 := zT_uniq hj (Nat.le_refl 64) h4.1 hT
  unfold fX_X9_seekLeast zlm
  rw [h1, e0]
  by_cases q : ztop tm 0 64 = 64
  · rw [q, zec_64, if_pos rfl]
    have k2 := pX_isKeyN (S := S)
    rw [show (1000 : Nat) = 999 + 1 from rfl, fX_X9_seekLeast_7, k2, Option.bind_some, if_pos zL0.symm, zL0]
  · rw [if_neg q, zec_lt (by omega), zL0, pX_least_7 h4 hj h2 64 (ztop tm 0 64) 64 64 1000 0 (by omega) (by omega) (by omega) (zIv_all tm) hT (by omega), Nat.zero_add]
theorem pX_hang {S : zSt} {tm l r : Nat → Nat} {root k x ab : Nat} (hk : k < 64) (hab : ab ≤ 64) (hx : x ≤ 64) (h33 : S.1 33 = zec ab) (h31 : S.1 31 = zec root) (hl : zRl (S.2 40) tm l) (hr : zRl (S.2 41) tm r) : ∃ S', fX_X9_hang (zec x) (nI k) S = some S' ∧ S'.1 31 = zec (if ab = 64 then x else root) ∧ zRl (S'.2 40) tm (zhL l ab k x) ∧ zRl (S'.2 41) tm (zhR r ab k x) ∧ zfr S S' [31] [40, 41] := by
  by_cases q : ab = 64
  · refine ⟨zsI S 31 (zec x), ?_, by rw [if_pos q]; rfl, ?_, ?_, zfr_sI (by decide)⟩
    · unfold fX_X9_hang
      rw [h33, q, zec_64, zN_eq, if_pos rfl]
    · intro j j1 j2
      unfold zhL; rw [if_neg (by omega)]; exact hl j j1 j2
    · intro j j1 j2
      unfold zhR; rw [if_neg (by omega)]; exact hr j j1 j2
  · have hab2 : ab < 64 := by omega
    rw [zec_lt hab2] at h33
    by_cases w : ab ≤ k
    · refine ⟨zsR S 41 ab (zec x), ?_, by rw [if_neg q]; exact h31, ?_, ?_, zfr_sR (by decide)⟩
      · simp (disch := omega) only [fX_X9_hang, h33, ↓zN_eq, zL0, zL1, zL2, zL3, zL4, zL5, zL6, zL7, zL8, zL10, zL16, zL31, zL42, zL63, zL64, zL100, zL200, zL255, zL256, zL1000, zL12345, zL536870912, zI_le, zI_lt, zI_eq, zI_add, zI_sub, zI_mul, zI_neN, zI_Nne, zI_leN, zI_ltN, zI_Nle, zI_Nlt, zI_pred, zI_clamp, zI_div, zI_rem, zin_t, zgd_t, znz_t, if_pos, if_neg, if_true, if_false, Option.bind_some]
      · intro j j1 j2
        unfold zhL; rw [if_neg (by omega)]; exact hl j j1 j2
      · intro j j1 j2
        show upd (S.2 41) ab (zec x) j = _
        unfold zhR
        by_cases y : j = ab
        · rw [if_pos ⟨y, w⟩, y, pk_us]
        · rw [if_neg (fun z => y z.1), pk_un y]; exact hr j j1 j2
    · refine ⟨zsR S 40 ab (zec x), ?_, by rw [if_neg q]; exact h31, ?_, ?_, zfr_sR (by decide)⟩
      · simp (disch := omega) only [fX_X9_hang, h33, ↓zN_eq, zL0, zL1, zL2, zL3, zL4, zL5, zL6, zL7, zL8, zL10, zL16, zL31, zL42, zL63, zL64, zL100, zL200, zL255, zL256, zL1000, zL12345, zL536870912, zI_le, zI_lt, zI_eq, zI_add, zI_sub, zI_mul, zI_neN, zI_Nne, zI_leN, zI_ltN, zI_Nle, zI_Nlt, zI_pred, zI_clamp, zI_div, zI_rem, zin_t, zgd_t, znz_t, if_pos, if_neg, if_true, if_false, Option.bind_some]
      · intro j j1 j2
        show upd (S.2 40) ab (zec x) j = _
        unfold zhL
        by_cases y : j = ab
        · rw [if_pos ⟨y, by omega⟩, y, pk_us]
        · rw [if_neg (fun z => y z.1), pk_un y]; exact hl j j1 j2
      · intro j j1 j2
        unfold zhR; rw [if_neg (by omega)]; exact hr j j1 j2

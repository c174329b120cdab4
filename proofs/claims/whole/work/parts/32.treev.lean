/-! TREE: what a call does -/
theorem ztk_cases {tm : Nat → Nat} {k a b : Nat} (hj : zJ tm) (hk : k < 64) (hI : zIv tm a b) (hT : zT tm a b k) : ztk tm k a b = ztmP tm k 0 ∨ ∃ m, m < 64 ∧ k < m ∧ 0 < tm m ∧ ztk tm k a b = (fun j => if j = m then tm k else if j = k then 0 else tm j) := by
  by_cases hor : ztop tm a k = 64 ∨ ztop tm (k + 1) b = 64
  · exact Or.inl (if_pos hor)
  · right
    have hb := hI.2.1
    obtain ⟨k1, k2, k3, k4⟩ := zT_lt hb hT hk
    obtain ⟨i1, i2⟩ := zIv_r hj hI hT hk
    have hTr := ztop_T (tm := tm) (show k + 1 ≤ b by omega) hb
    have lr := zT_le hb hTr
    obtain ⟨hb', q1, q2, q3, q4, q5, q6, q7⟩ := zsq_ok hj 64 (ztop tm (k + 1) b) k b (by omega) i1 hTr (by omega) i2
    obtain ⟨t1, t2, t3, t4⟩ := zT_lt q1.2.1 q2 q3
    exact ⟨_, q3, by omega, t3, if_neg hor⟩
theorem ztk_pos {tm : Nat → Nat} {k a b : Nat} (hj : zJ tm) (hk : k < 64) (hI : zIv tm a b) (hT : zT tm a b k) (j : Nat) : 0 < ztk tm k a b j ↔ (j ≠ k ∧ 0 < tm j) := by
  obtain ⟨k1, k2, k3, k4⟩ := zT_lt hI.2.1 hT hk
  rcases ztk_cases hj hk hI hT with e | ⟨m, m1, m2, m3, e⟩
  · rw [e]; unfold ztmP
    by_cases q : j = k
    · rw [if_pos q]; exact ⟨fun h => absurd h (by omega), fun h => absurd q h.1⟩
    · rw [if_neg q]; exact ⟨fun h => ⟨q, h⟩, fun h => h.2⟩
  · rw [e]; dsimp only
    by_cases w : j = m
    · rw [if_pos w]; exact ⟨fun _ => ⟨by omega, by rw [w]; exact m3⟩, fun _ => k3⟩
    · rw [if_neg w]
      by_cases q : j = k
      · rw [if_pos q]; exact ⟨fun h => absurd h (by omega), fun h => absurd q h.1⟩
      · rw [if_neg q]; exact ⟨fun h => ⟨q, h⟩, fun h => h.2⟩
theorem ztk_J {tm : Nat → Nat} {k a b : Nat} (hj : zJ tm) (hk : k < 64) (hI : zIv tm a b) (hT : zT tm a b k) : zJ (ztk tm k a b) := by
  obtain ⟨k1, k2, k3, k4⟩ := zT_lt hI.2.1 hT hk
  rcases ztk_cases hj hk hI hT with e | ⟨m, m1, m2, m3, e⟩
  · rw [e]; exact zJ_sub hj (if_pos rfl) (fun j q => if_neg q)
  · rw [e]
    intro i j hi hjj h0 h
    dsimp only at h0 h
    by_cases wi : i = m
    · rw [if_pos wi] at h h0
      by_cases wj : j = m
      · omega
      · rw [if_neg wj] at h
        by_cases qj : j = k
        · rw [if_pos qj] at h; omega
        · rw [if_neg qj] at h
          have := hj k j hk hjj k3 h; omega
    · rw [if_neg wi] at h h0
      by_cases qi : i = k
      · rw [if_pos qi] at h0; omega
      · rw [if_neg qi] at h h0
        by_cases wj : j = m
        · rw [if_pos wj] at h
          have := hj i k hi hk h0 h; omega
        · rw [if_neg wj] at h
          by_cases qj : j = k
          · rw [if_pos qj] at h; omega
          · rw [if_neg qj] at h
            exact hj i j hi hjj h0 h
theorem ztk_le {tm : Nat → Nat} {k a b clk : Nat} (hj : zJ tm) (hk : k < 64) (hI : zIv tm a b) (hT : zT tm a b k) (hc : zM3 tm clk) : zM3 (ztk tm k a b) clk := by
  refine ⟨hc.1, fun j hjj => ?_⟩
  rcases ztk_cases hj hk hI hT with e | ⟨m, m1, m2, m3, e⟩
  · rw [e]; unfold ztmP
    by_cases q : j = k
    · rw [if_pos q]; omega
    · rw [if_neg q]; exact hc.2 j hjj
  · rw [e]; dsimp only
    by_cases w : j = m
    · rw [if_pos w]; exact hc.2 k hk
    · rw [if_neg w]
      by_cases q : j = k
      · rw [if_pos q]; omega
      · rw [if_neg q]; exact hc.2 j hjj
theorem ztk_nd {tm : Nat → Nat} {k a b : Nat} (hj : zJ tm) (hk : k < 64) (hI : zIv tm a b) (hT : zT tm a b k) : znd (ztk tm k a b) = znd tm - 1 := by
  obtain ⟨k1, k2, k3, k4⟩ := zT_lt hI.2.1 hT hk
  have h := znd_del hk k3
  have e : znd (ztk tm k a b) = znd (ztmP tm k 0) := zct_congr 64 (fun j _ => by
    show decide _ = decide _
    have h1 := ztk_pos hj hk hI hT j
    have h2 : 0 < ztmP tm k 0 j ↔ (j ≠ k ∧ 0 < tm j) := by
      unfold ztmP
      by_cases q : j = k
      · rw [if_pos q]; exact ⟨fun h => absurd h (by omega), fun h => absurd q h.1⟩
      · rw [if_neg q]; exact ⟨fun h => ⟨q, h⟩, fun h => h.2⟩
    exact decide_eq_decide.mpr (h1.trans h2.symm))
  omega
def zwA (tm : Nat → Nat) (ky : Nat) : Nat := (zwy tm ky 65 0 64 64).2.1
def zwB (tm : Nat → Nat) (ky : Nat) : Nat := (zwy tm ky 65 0 64 64).2.2.1
def zwW (tm : Nat → Nat) (ky : Nat) : Nat := (zwy tm ky 65 0 64 64).1
def ztrT (kd ky clk : Nat) (cn tm : Nat → Nat) : Nat → Nat := if kd = 0 then (if tm ky = 0 then ztmP tm ky (clk + 1) else tm) else if kd = 2 then (if cn ky = 1 then ztk tm ky (zwA tm ky) (zwB tm ky) else tm) else tm
def ztrK (kd ky clk : Nat) (tm : Nat → Nat) : Nat := if kd = 0 then (if tm ky = 0 then clk + 1 else clk) else clk
def ztrC (kd ky : Nat) (cn tm : Nat → Nat) : Nat := if kd = 0 then (if tm ky = 0 then zwW tm ky + 1 else zwW tm ky) else if kd = 2 then (if cn ky = 1 then zwW tm ky + ztn tm ky (zwA tm ky) (zwB tm ky) else zwW tm ky) else if kd = 3 then znd tm else if kd = 4 then zlm tm else if kd = 6 then 0 else zwW tm ky
theorem zway_in {tm : Nat → Nat} {k : Nat} (hj : zJ tm) (hk : k < 64) (h0 : 0 < tm k) : zIv tm (zwA tm k) (zwB tm k) ∧ zT tm (zwA tm k) (zwB tm k) k := by
  have h := zwy_ok hj 65 0 64 64 (by omega) (zIv_all tm) (Or.inl ⟨rfl, rfl, rfl⟩) (Nat.zero_le k) hk
  refine ⟨h.1, ?_⟩
  rcases h.2.2.2.2.2 with q | q
  · omega
  · exact q.2
theorem ztrT_ok {kd ky clk : Nat} {cn tm : Nat → Nat} (hj : zJ tm) (hM : zM3 tm clk) (hclk : clk + 1 < 100000) (hi : ∀ j, j < 64 → (0 < tm j ↔ 0 < cn j)) (hk : ky < 64) : zJ (ztrT kd ky clk cn tm) ∧ zM3 (ztrT kd ky clk cn tm) (ztrK kd ky clk tm) ∧ ∀ j, j < 64 → (0 < ztrT kd ky clk cn tm j ↔ 0 < zbtN kd ky cn j) := by
  unfold ztrT ztrK zbtN
  by_cases h0 : kd = 0
  · simp only [if_pos h0]
    by_cases q : tm ky = 0
    · simp only [if_pos q]
      refine ⟨fun i j hi1 hj1 p e => ?_, ⟨hclk, fun j hj1 => ?_⟩, fun j hj1 => ?_⟩
      · unfold ztmP at p e
        by_cases w : i = ky
        · rw [if_pos w] at e
          by_cases y : j = ky
          · omega
          · rw [if_neg y] at e; have := hM.2 j hj1; omega
        · rw [if_neg w] at e p
          by_cases y : j = ky
          · rw [if_pos y] at e; have := hM.2 i hi1; omega
          · rw [if_neg y] at e; exact hj i j hi1 hj1 p e
      · unfold ztmP
        by_cases w : j = ky
        · rw [if_pos w]; omega
        · rw [if_neg w]; have := hM.2 j hj1; omega
      · unfold ztmP
        by_cases w : j = ky
        · rw [if_pos w, if_pos w]; exact ⟨fun _ => by omega, fun _ => by omega⟩
        · rw [if_neg w, if_neg w]; exact hi j hj1
    · simp only [if_neg q]
      refine ⟨hj, hM, fun j hj1 => ?_⟩
      by_cases w : j = ky
      · rw [if_pos w, w]; exact ⟨fun _ => by omega, fun _ => by omega⟩
      · rw [if_neg w]; exact hi j hj1
  · simp only [if_neg h0]
    by_cases h2 : kd = 2
    · simp only [if_pos h2]
      by_cases q : cn ky = 1
      · simp only [if_pos q]
        have hp : 0 < tm ky := (hi ky hk).mpr (by omega)
        obtain ⟨i1, i2⟩ := zway_in hj hk hp
        refine ⟨ztk_J hj hk i1 i2, ztk_le hj hk i1 i2 hM, fun j hj1 => ?_⟩
        rw [ztk_pos hj hk i1 i2 j]
        by_cases w : j = ky
        · rw [if_pos w, w, q]; exact ⟨fun z => absurd rfl z.1, fun z => absurd z (by omega)⟩
        · rw [if_neg w, ← hi j hj1]; exact ⟨fun z => z.2, fun z => ⟨w, z⟩⟩
      · simp only [if_neg q]
        refine ⟨hj, hM, fun j hj1 => ?_⟩
        rw [hi j hj1]
        by_cases w : j = ky
        · rw [if_pos w, w]; omega
        · rw [if_neg w]
    · simp only [if_neg h2]
      exact ⟨hj, hM, hi⟩
theorem zTA_congr {S : zSt} {tm cn cn' : Nat → Nat} (h : zTA S tm cn) (e : ∀ j, j < 64 → cn j = cn' j) : zTA S tm cn' := by
  obtain ⟨l, r, root, a, b, c⟩ := h
  exact ⟨l, r, root, a, zRp_congr b e, c⟩
theorem zTA_33 {S S' : zSt} {tm cn : Nat → Nat} (h : zTA S tm cn) (f : zfr S S' [33] []) : zTA S' tm cn := by
  obtain ⟨l, r, root, ⟨a1, a2, a3, a4⟩, b, c⟩ := h
  refine ⟨l, r, root, ⟨(f.1 31 (by decide)).trans a1, ?_, ?_, a4⟩, ?_, (f.1 32 (by decide)).trans c⟩
  · rw [f.2 40 (by decide)]; exact a2
  · rw [f.2 41 (by decide)]; exact a3
  · rw [f.2 38 (by decide)]; exact b
theorem pX_tstrike {S : zSt} {tm cn : Nat → Nat} {k clk : Nat} (h : zTA S tm cn) (hj : zJ tm) (hc : zC2 cn) (hi : ∀ j, j < 64 → (0 < tm j ↔ 0 < cn j)) (hk : k < 64) : ∃ S', fX_X9_strike (nI k) S = some (nI (ztrC 2 k cn tm), S') ∧ zTA S' (ztrT 2 k clk cn tm) (zbtN 2 k cn) ∧ zfr S S' [31, 32, 33] [38, 40, 41] := by
  have hC : ztrC 2 k cn tm = if cn k = 1 then zwW tm k + ztn tm k (zwA tm k) (zwB tm k) else zwW tm k := by unfold ztrC; rw [if_neg (by decide), if_pos rfl]
  have hT : ztrT 2 k clk cn tm = if cn k = 1 then ztk tm k (zwA tm k) (zwB tm k) else tm := by unfold ztrT; rw [if_neg (by decide), if_pos rfl]
  have hN : ∀ j, zbtN 2 k cn j = if j = k then cn j - 1 else cn j := fun j => by unfold zbtN; rw [if_neg (by decide), if_pos rfl]
  rw [hC, hT]
  have h' := h
  obtain ⟨l, r, root, hX, hn, hd⟩ := h'
  obtain ⟨S1, e1, a1, b1⟩ := pX_tseek hX hj hk
  have h1 := zTA_33 h b1
  obtain ⟨l1, r1, root1, hX1, hn1, hd1⟩ := h1
  have hck := hc k hk
  have hv1 : S1.2 38 k = nI (cn k) := hn1 k hk
  have hw : (zwy tm k 65 0 64 64).1 = zwW tm k := rfl
  rw [hw] at e1
  have hfr1 : zfr S S1 [31, 32, 33] [38, 40, 41] := zfr_mono b1 (by decide) (by decide)
  by_cases q0 : cn k = 0
  · rw [if_neg (by omega), if_neg (by omega)]
    rw [q0] at hv1
    refine ⟨S1, ?_, ⟨l1, r1, root1, hX1, zRp_congr hn1 (fun j _ => ?_), hd1⟩, hfr1⟩
    · unfold fX_X9_strike
      rw [e1]
      simp (disch := omega) only [hv1, ↓zN_eq, zL0, zL1, zL2, zL3, zL4, zL5, zL6, zL7, zL8, zL10, zL16, zL31, zL42, zL63, zL64, zL100, zL200, zL255, zL256, zL1000, zL12345, zL536870912, zI_le, zI_lt, zI_eq, zI_add, zI_sub, zI_mul, zI_neN, zI_Nne, zI_leN, zI_ltN, zI_Nle, zI_Nlt, zI_pred, zI_clamp, zI_div, zI_rem, zin_t, zgd_t, znz_t, if_pos, if_neg, if_true, if_false, Option.bind_some]
    · rw [hN]
      by_cases w : j = k
      · rw [if_pos w, w]; omega
      · rw [if_neg w]
  · have hrd : (zsR S1 38 k (nI (cn k - 1))).2 38 k = nI (cn k - 1) := pk_us
    have hnew : zRp (upd (S1.2 38) k (nI (cn k - 1))) 64 (zbtN 2 k cn) := zRp_congr (zRp_up hn1) (fun j _ => by
      rw [hN]
      by_cases w : j = k
      · rw [if_pos w, if_pos w, w]
      · rw [if_neg w, if_neg w])
    obtain ⟨x1, x2, x3, x4⟩ := hX1
    by_cases q1 : cn k = 1
    · rw [if_pos q1, if_pos q1]
      have hp : 0 < tm k := (hi k hk).mpr (by omega)
      have hok := zwy_ok hj 65 0 64 64 (by omega) (zIv_all tm) (Or.inl ⟨rfl, rfl, rfl⟩) (Nat.zero_le k) hk
      obtain ⟨i1, i2⟩ := zway_in hj hk hp
      have hab : (zwy tm k 65 0 64 64).2.2.2 ≤ 64 := by
        have h1 := hok.1.2.1
        have h2 := hok.1.1
        rcases hok.2.1 with q | q | q <;> omega
      have hX2 : zTX (zsR S1 38 k (nI (cn k - 1))) tm l1 r1 root1 := ⟨x1, x2, x3, x4⟩
      obtain ⟨S2, l2, r2, root2, e2, a2, b2, c2⟩ := pX_takeOut hX2 hj hk (show (zsR S1 38 k (nI (cn k - 1))).1 33 = _ from a1) (show (zsR S1 38 k (nI (cn k - 1))).1 32 = _ from hd1) i1 hok.2.1 hab i2
      refine ⟨S2, ?_, ⟨l2, r2, root2, a2, ?_, ?_⟩, zfr_tr hfr1 (zfr_tr (S' := zsR S1 38 k (nI (cn k - 1))) (zfr_sR (by decide)) (zfr_mono c2 (by decide) (by decide)))⟩
      · have z1 : nI (cn k) - 1 = nI (cn k - 1) := by rw [zL1, zI_sub (by omega)]
        have z0 : (nI (cn k - 1) ≤ nI 0) = True := by rw [q1]; exact eq_true (by decide)
        unfold fX_X9_strike
        rw [e1]
        simp (disch := omega) only [hv1, hrd, e2, ↓zN_eq, zL0, zL1, zL2, zL3, zL4, zL5, zL6, zL7, zL8, zL10, zL16, zL31, zL42, zL63, zL64, zL100, zL200, zL255, zL256, zL1000, zL12345, zL536870912, zI_le, zI_lt, zI_eq, zI_add, zI_sub, zI_mul, zI_neN, zI_Nne, zI_leN, zI_ltN, zI_Nle, zI_Nlt, zI_pred, zI_clamp, zI_div, zI_rem, zin_t, zgd_t, znz_t, if_pos, if_neg, if_true, if_false, Option.bind_some]
      · rw [c2.2 38 (by decide)]; exact hnew
      · rw [b2, ztk_nd hj hk i1 i2]
    · rw [if_neg q1, if_neg q1]
      refine ⟨zsR S1 38 k (nI (cn k - 1)), ?_, ⟨l1, r1, root1, ⟨x1, x2, x3, x4⟩, hnew, hd1⟩, zfr_tr hfr1 (zfr_sR (by decide))⟩
      unfold fX_X9_strike
      rw [e1]
      simp (disch := omega) only [hv1, hrd, ↓zN_eq, zL0, zL1, zL2, zL3, zL4, zL5, zL6, zL7, zL8, zL10, zL16, zL31, zL42, zL63, zL64, zL100, zL200, zL255, zL256, zL1000, zL12345, zL536870912, zI_le, zI_lt, zI_eq, zI_add, zI_sub, zI_mul, zI_neN, zI_Nne, zI_leN, zI_ltN, zI_Nle, zI_Nlt, zI_pred, zI_clamp, zI_div, zI_rem, zin_t, zgd_t, znz_t, if_pos, if_neg, if_true, if_false, Option.bind_some]
theorem pX_Tree_step {S : zSt} {tm cn : Nat → Nat} {kd ky clk : Nat} (h : zTA S tm cn) (hj : zJ tm) (hc : zC2 cn) (hi : ∀ j, j < 64 → (0 < tm j ↔ 0 < cn j)) (hM : zM3 tm clk) (hd : kd < 8) (hk : ky < 64) : ∃ S', fX_X9_step (nI kd) (nI ky) S = some (nI (ztrC kd ky cn tm), S') ∧ zTA S' (ztrT kd ky clk cn tm) (zbtN kd ky cn) ∧ zfr S S' [31, 32, 33] [38, 40, 41] := by
  have h' := h
  obtain ⟨l, r, root, hX, hn, hnd⟩ := h'
  obtain ⟨S1, e1, a1, b1⟩ := pX_tseek hX hj hk
  have h1 := zTA_33 h b1
  have hw : (zwy tm ky 65 0 64 64).1 = zwW tm ky := rfl
  rw [hw] at e1
  have hfr1 : zfr S S1 [31, 32, 33] [38, 40, 41] := zfr_mono b1 (by decide) (by decide)
  rcases z8 hd with rfl | rfl | rfl | rfl | rfl | rfl | rfl | rfl
  · obtain ⟨S2, e2, a2, b2⟩ := pX_putNode (v := clk + 1) h hj hc hi (fun j hj1 => by have := hM.2 j hj1; omega) hk
    refine ⟨S2, ?_, zTA_congr a2 (fun j _ => ?_), b2⟩
    · simp (disch := omega) only [fX_X9_step, e2, ztrC, zwW, ↓zN_eq, zL0, zL1, zL2, zL3, zL4, zL5, zL6, zL7, zL8, zL10, zL16, zL31, zL42, zL63, zL64, zL100, zL200, zL255, zL256, zL1000, zL12345, zL536870912, zI_le, zI_lt, zI_eq, zI_add, zI_sub, zI_mul, zI_neN, zI_Nne, zI_leN, zI_ltN, zI_Nle, zI_Nlt, zI_pred, zI_clamp, zI_div, zI_rem, zin_t, zgd_t, znz_t, if_pos, if_neg, if_true, if_false, Option.bind_some]
    · show _ = if j = ky then cn j + 1 else cn j
      by_cases w : j = ky
      · rw [if_pos w, if_pos w, w]
      · rw [if_neg w, if_neg w]
  · exact ⟨S1, by simp (disch := omega) only [fX_X9_step, e1, ztrC, ↓zN_eq, zL0, zL1, zL2, zL3, zL4, zL5, zL6, zL7, zL8, zL10, zL16, zL31, zL42, zL63, zL64, zL100, zL200, zL255, zL256, zL1000, zL12345, zL536870912, zI_le, zI_lt, zI_eq, zI_add, zI_sub, zI_mul, zI_neN, zI_Nne, zI_leN, zI_ltN, zI_Nle, zI_Nlt, zI_pred, zI_clamp, zI_div, zI_rem, zin_t, zgd_t, znz_t, if_pos, if_neg, if_true, if_false, Option.bind_some], h1, hfr1⟩
  · obtain ⟨S2, e2, a2, b2⟩ := pX_tstrike (clk := clk) h hj hc hi hk
    exact ⟨S2, by simp (disch := omega) only [fX_X9_step, e2, ↓zN_eq, zL0, zL1, zL2, zL3, zL4, zL5, zL6, zL7, zL8, zL10, zL16, zL31, zL42, zL63, zL64, zL100, zL200, zL255, zL256, zL1000, zL12345, zL536870912, zI_le, zI_lt, zI_eq, zI_add, zI_sub, zI_mul, zI_neN, zI_Nne, zI_leN, zI_ltN, zI_Nle, zI_Nlt, zI_pred, zI_clamp, zI_div, zI_rem, zin_t, zgd_t, znz_t, if_pos, if_neg, if_true, if_false, Option.bind_some], a2, b2⟩
  · exact ⟨S, by simp (disch := omega) only [fX_X9_step, hnd, ztrC, ↓zN_eq, zL0, zL1, zL2, zL3, zL4, zL5, zL6, zL7, zL8, zL10, zL16, zL31, zL42, zL63, zL64, zL100, zL200, zL255, zL256, zL1000, zL12345, zL536870912, zI_le, zI_lt, zI_eq, zI_add, zI_sub, zI_mul, zI_neN, zI_Nne, zI_leN, zI_ltN, zI_Nle, zI_Nlt, zI_pred, zI_clamp, zI_div, zI_rem, zin_t, zgd_t, znz_t, if_pos, if_neg, if_true, if_false, Option.bind_some], h, zfr_rf⟩
  · have hl := pX_seekLeast hX hj
    exact ⟨S, by simp (disch := omega) only [fX_X9_step, hl, ztrC, ↓zN_eq, zL0, zL1, zL2, zL3, zL4, zL5, zL6, zL7, zL8, zL10, zL16, zL31, zL42, zL63, zL64, zL100, zL200, zL255, zL256, zL1000, zL12345, zL536870912, zI_le, zI_lt, zI_eq, zI_add, zI_sub, zI_mul, zI_neN, zI_Nne, zI_leN, zI_ltN, zI_Nle, zI_Nlt, zI_pred, zI_clamp, zI_div, zI_rem, zin_t, zgd_t, znz_t, if_pos, if_neg, if_true, if_false, Option.bind_some], h, zfr_rf⟩
  · exact ⟨S1, by simp (disch := omega) only [fX_X9_step, e1, ztrC, ↓zN_eq, zL0, zL1, zL2, zL3, zL4, zL5, zL6, zL7, zL8, zL10, zL16, zL31, zL42, zL63, zL64, zL100, zL200, zL255, zL256, zL1000, zL12345, zL536870912, zI_le, zI_lt, zI_eq, zI_add, zI_sub, zI_mul, zI_neN, zI_Nne, zI_leN, zI_ltN, zI_Nle, zI_Nlt, zI_pred, zI_clamp, zI_div, zI_rem, zin_t, zgd_t, znz_t, if_pos, if_neg, if_true, if_false, Option.bind_some], h1, hfr1⟩
  · exact ⟨S, by simp (disch := omega) only [fX_X9_step, ztrC, ↓zN_eq, zL0, zL1, zL2, zL3, zL4, zL5, zL6, zL7, zL8, zL10, zL16, zL31, zL42, zL63, zL64, zL100, zL200, zL255, zL256, zL1000, zL12345, zL536870912, zI_le, zI_lt, zI_eq, zI_add, zI_sub, zI_mul, zI_neN, zI_Nne, zI_leN, zI_ltN, zI_Nle, zI_Nlt, zI_pred, zI_clamp, zI_div, zI_rem, zin_t, zgd_t, znz_t, if_pos, if_neg, if_true, if_false, Option.bind_some], h, zfr_rf⟩
  · exact ⟨S1, by simp (disch := omega) only [fX_X9_step, e1, ztrC, ↓zN_eq, zL0, zL1, zL2, zL3, zL4, zL5, zL6, zL7, zL8, zL10, zL16, zL31, zL42, zL63, zL64, zL100, zL200, zL255, zL256, zL1000, zL12345, zL536870912, zI_le, zI_lt, zI_eq, zI_add, zI_sub, zI_mul, zI_neN, zI_Nne, zI_leN, zI_ltN, zI_Nle, zI_Nlt, zI_pred, zI_clamp, zI_div, zI_rem, zin_t, zgd_t, znz_t, if_pos, if_neg, if_true, if_false, Option.bind_some], h1, hfr1⟩
theorem pM_onTree {S : zSt} {tm cn : Nat → Nat} {kd ky clk : Nat} (hr : zRp (S.2 23) 64 tm) (hrc : zRp (S.2 24) 64 cn) (h25 : S.1 25 = nI clk) (hj : zJ tm) (hc : zC2 cn) (hi : ∀ j, j < 64 → (0 < tm j ↔ 0 < cn j)) (hM : zM3 tm clk) (hd : kd < 8) (hk : ky < 64) : ∃ S', fM_X11_onTree (nI kd) (nI ky) S = some (nI (ztrC kd ky cn tm), S') ∧ zRp (S'.2 23) 64 (ztrT kd ky clk cn tm) ∧ S'.1 25 = nI (ztrK kd ky clk tm) ∧ zfr S S' [25, 30, 31] [23] := by
  obtain ⟨S1, e1, a1, b1, c1⟩ := pM_wayTo hr hM hj hk
  have hw : (zwy tm ky 65 0 64 64).1 = zwW tm ky := rfl
  have hwa : (zwy tm ky 65 0 64 64).2.1 = zwA tm ky := rfl
  have hwb : (zwy tm ky 65 0 64 64).2.2.1 = zwB tm ky := rfl
  rw [hw] at e1
  rw [hwa] at a1
  rw [hwb] at b1
  have hfr1 : zfr S S1 [25, 30, 31] [23] := zfr_mono c1 (by decide) (by decide)
  have hr1 : zRp (S1.2 23) 64 tm := by rw [c1.2 23 (by decide)]; exact hr
  have hrc1 : zRp (S1.2 24) 64 cn := by rw [c1.2 24 (by decide)]; exact hrc
  have h25b : S1.1 25 = nI clk := (c1.1 25 (by decide)).trans h25
  have hv : S1.2 23 ky = nI (tm ky) := hr1 ky hk
  have hvc : S1.2 24 ky = nI (cn ky) := hrc1 ky hk
  have hb1 := hM.2 ky hk
  have hb2 := hc ky hk
  have hM1 := hM.1
  rcases z8 hd with rfl | rfl | rfl | rfl | rfl | rfl | rfl | rfl
  · by_cases q : tm ky = 0
    · have hTT : ztrT 0 ky clk cn tm = ztmP tm ky (clk + 1) := by unfold ztrT; rw [if_pos rfl, if_pos q]
      have hKK : ztrK 0 ky clk tm = clk + 1 := by unfold ztrK; rw [if_pos rfl, if_pos q]
      rw [hTT, hKK]
      refine ⟨zsR (zsI S1 25 (nI (clk + 1))) 23 ky (nI (clk + 1)), ?_, zRp_up hr1, rfl, zfr_tr hfr1 (zfr_tr (zfr_sI (by decide)) (zfr_sR (by decide)))⟩
      rw [q] at hv
      simp (disch := omega) only [fM_X11_onTree, e1, hv, h25b, ztrC, q, ↓zN_eq, zL0, zL1, zL2, zL3, zL4, zL5, zL6, zL7, zL8, zL10, zL16, zL31, zL42, zL63, zL64, zL100, zL200, zL255, zL256, zL1000, zL12345, zL536870912, zI_le, zI_lt, zI_eq, zI_add, zI_sub, zI_mul, zI_neN, zI_Nne, zI_leN, zI_ltN, zI_Nle, zI_Nlt, zI_pred, zI_clamp, zI_div, zI_rem, zin_t, zgd_t, znz_t, if_pos, if_neg, if_true, if_false, Option.bind_some]
    · have hTT : ztrT 0 ky clk cn tm = tm := by unfold ztrT; rw [if_pos rfl, if_neg q]
      have hKK : ztrK 0 ky clk tm = clk := by unfold ztrK; rw [if_pos rfl, if_neg q]
      rw [hTT, hKK]
      refine ⟨S1, ?_, hr1, h25b, hfr1⟩
      simp (disch := omega) only [fM_X11_onTree, e1, hv, h25b, ztrC, ↓zN_eq, zL0, zL1, zL2, zL3, zL4, zL5, zL6, zL7, zL8, zL10, zL16, zL31, zL42, zL63, zL64, zL100, zL200, zL255, zL256, zL1000, zL12345, zL536870912, zI_le, zI_lt, zI_eq, zI_add, zI_sub, zI_mul, zI_neN, zI_Nne, zI_leN, zI_ltN, zI_Nle, zI_Nlt, zI_pred, zI_clamp, zI_div, zI_rem, zin_t, zgd_t, znz_t, if_pos, if_neg, if_true, if_false, Option.bind_some]
  · exact ⟨S1, by simp (disch := omega) only [fM_X11_onTree, e1, ztrC, ↓zN_eq, zL0, zL1, zL2, zL3, zL4, zL5, zL6, zL7, zL8, zL10, zL16, zL31, zL42, zL63, zL64, zL100, zL200, zL255, zL256, zL1000, zL12345, zL536870912, zI_le, zI_lt, zI_eq, zI_add, zI_sub, zI_mul, zI_neN, zI_Nne, zI_leN, zI_ltN, zI_Nle, zI_Nlt, zI_pred, zI_clamp, zI_div, zI_rem, zin_t, zgd_t, znz_t, if_pos, if_neg, if_true, if_false, Option.bind_some], hr1, h25b, hfr1⟩
  · by_cases q : cn ky = 1
    · have hTT : ztrT 2 ky clk cn tm = ztk tm ky (zwA tm ky) (zwB tm ky) := by unfold ztrT; rw [if_neg (by decide), if_pos rfl, if_pos q]
      have hp : 0 < tm ky := (hi ky hk).mpr (by omega)
      obtain ⟨i1, i2⟩ := zway_in hj hk hp
      obtain ⟨S2, e2, a2, b2⟩ := pM_takeNode hr1 hM hj hk i1 i2 a1 b1
      rw [hTT]
      refine ⟨S2, ?_, a2, (b2.1 25 (by decide)).trans h25b, zfr_tr hfr1 (zfr_mono b2 (by decide) (by decide))⟩
      simp (disch := omega) only [fM_X11_onTree, e1, hvc, e2, ztrC, ↓zN_eq, zL0, zL1, zL2, zL3, zL4, zL5, zL6, zL7, zL8, zL10, zL16, zL31, zL42, zL63, zL64, zL100, zL200, zL255, zL256, zL1000, zL12345, zL536870912, zI_le, zI_lt, zI_eq, zI_add, zI_sub, zI_mul, zI_neN, zI_Nne, zI_leN, zI_ltN, zI_Nle, zI_Nlt, zI_pred, zI_clamp, zI_div, zI_rem, zin_t, zgd_t, znz_t, if_pos, if_neg, if_true, if_false, Option.bind_some]
    · have hTT : ztrT 2 ky clk cn tm = tm := by unfold ztrT; rw [if_neg (by decide), if_pos rfl, if_neg q]
      rw [hTT]
      refine ⟨S1, ?_, hr1, h25b, hfr1⟩
      simp (disch := omega) only [fM_X11_onTree, e1, hvc, ztrC, ↓zN_eq, zL0, zL1, zL2, zL3, zL4, zL5, zL6, zL7, zL8, zL10, zL16, zL31, zL42, zL63, zL64, zL100, zL200, zL255, zL256, zL1000, zL12345, zL536870912, zI_le, zI_lt, zI_eq, zI_add, zI_sub, zI_mul, zI_neN, zI_Nne, zI_leN, zI_ltN, zI_Nle, zI_Nlt, zI_pred, zI_clamp, zI_div, zI_rem, zin_t, zgd_t, znz_t, if_pos, if_neg, if_true, if_false, Option.bind_some]
  · have hl := pM_nodes hr hM
    exact ⟨S, by simp (disch := omega) only [fM_X11_onTree, hl, ztrC, ↓zN_eq, zL0, zL1, zL2, zL3, zL4, zL5, zL6, zL7, zL8, zL10, zL16, zL31, zL42, zL63, zL64, zL100, zL200, zL255, zL256, zL1000, zL12345, zL536870912, zI_le, zI_lt, zI_eq, zI_add, zI_sub, zI_mul, zI_neN, zI_Nne, zI_leN, zI_ltN, zI_Nle, zI_Nlt, zI_pred, zI_clamp, zI_div, zI_rem, zin_t, zgd_t, znz_t, if_pos, if_neg, if_true, if_false, Option.bind_some], hr, h25, zfr_rf⟩
  · have hl := pM_leftMost hr hM
    exact ⟨S, by simp (disch := omega) only [fM_X11_onTree, hl, ztrC, ↓zN_eq, zL0, zL1, zL2, zL3, zL4, zL5, zL6, zL7, zL8, zL10, zL16, zL31, zL42, zL63, zL64, zL100, zL200, zL255, zL256, zL1000, zL12345, zL536870912, zI_le, zI_lt, zI_eq, zI_add, zI_sub, zI_mul, zI_neN, zI_Nne, zI_leN, zI_ltN, zI_Nle, zI_Nlt, zI_pred, zI_clamp, zI_div, zI_rem, zin_t, zgd_t, znz_t, if_pos, if_neg, if_true, if_false, Option.bind_some], hr, h25, zfr_rf⟩
  · exact ⟨S1, by simp (disch := omega) only [fM_X11_onTree, e1, ztrC, ↓zN_eq, zL0, zL1, zL2, zL3, zL4, zL5, zL6, zL7, zL8, zL10, zL16, zL31, zL42, zL63, zL64, zL100, zL200, zL255, zL256, zL1000, zL12345, zL536870912, zI_le, zI_lt, zI_eq, zI_add, zI_sub, zI_mul, zI_neN, zI_Nne, zI_leN, zI_ltN, zI_Nle, zI_Nlt, zI_pred, zI_clamp, zI_div, zI_rem, zin_t, zgd_t, znz_t, if_pos, if_neg, if_true, if_false, Option.bind_some], hr1, h25b, hfr1⟩
  · exact ⟨S, by simp (disch := omega) only [fM_X11_onTree, ztrC, ↓zN_eq, zL0, zL1, zL2, zL3, zL4, zL5, zL6, zL7, zL8, zL10, zL16, zL31, zL42, zL63, zL64, zL100, zL200, zL255, zL256, zL1000, zL12345, zL536870912, zI_le, zI_lt, zI_eq, zI_add, zI_sub, zI_mul, zI_neN, zI_Nne, zI_leN, zI_ltN, zI_Nle, zI_Nlt, zI_pred, zI_clamp, zI_div, zI_rem, zin_t, zgd_t, znz_t, if_pos, if_neg, if_true, if_false, Option.bind_some], hr, h25, zfr_rf⟩
  · exact ⟨S1, by simp (disch := omega) only [fM_X11_onTree, e1, ztrC, ↓zN_eq, zL0, zL1, zL2, zL3, zL4, zL5, zL6, zL7, zL8, zL10, zL16, zL31, zL42, zL63, zL64, zL100, zL200, zL255, zL256, zL1000, zL12345, zL536870912, zI_le, zI_lt, zI_eq, zI_add, zI_sub, zI_mul, zI_neN, zI_Nne, zI_leN, zI_ltN, zI_Nle, zI_Nlt, zI_pred, zI_clamp, zI_div, zI_rem, zin_t, zgd_t, znz_t, if_pos, if_neg, if_true, if_false, Option.bind_some], hr1, h25b, hfr1⟩

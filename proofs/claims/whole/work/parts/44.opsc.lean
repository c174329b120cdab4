/-! call, draw, drop -/
theorem pX_isKey_n {x : Int32} {S : zSt} (hx : x.toInt < 0) : fX_X10_isKey x S = some (nI 0) := by
  have h := (zneg hx).2.2.2.2 0 (by omega)
  unfold fX_X10_isKey
  simp only [zL0, h, if_true]
theorem pX_isKey_f {S : zSt} {k : Nat} (hk : 64 ≤ k) (hk2 : k < 2147483648) : fX_X10_isKey (nI k) S = some (nI 0) := by
  unfold fX_X10_isKey
  simp (disch := omega) only [↓zN_eq, zL0, zL1, zL2, zL3, zL4, zL5, zL6, zL7, zL8, zL10, zL16, zL31, zL42, zL63, zL64, zL100, zL200, zL255, zL256, zL1000, zL12345, zL536870912, zI_le, zI_lt, zI_eq, zI_add, zI_sub, zI_mul, zI_neN, zI_Nne, zI_leN, zI_ltN, zI_Nle, zI_Nlt, zI_pred, zI_clamp, zI_div, zI_rem, zin_t, zgd_t, znz_t, if_pos, if_neg, if_true, if_false, Option.bind_some]
theorem zt_add {SX SM : zSt} {kd ky : Nat → Nat} {N gu ac fe ea kv yv : Nat} (hX : zXT SX kd ky N gu ac fe ea) (hM : zMT2 SM kd ky N gu ac fe ea) (hN : N < 200) (hd : kv < 8) (hk : yv < 64) : ∃ SX' SM', fX_X10_lay (nI kv) (nI yv) SX = some SX' ∧ fM_X11_add (nI kv) (nI yv) SM = some SM' ∧ zXT SX' (ztmP kd N kv) (ztmP ky N yv) (N + 1) gu ac fe ea ∧ zMT2 SM' (ztmP kd N kv) (ztmP ky N yv) (N + 1) gu ac fe ea := by
  obtain ⟨d1, d2, d3, d4, d5, d6⟩ := hX
  obtain ⟨⟨a1, a2, a3, a4, a5, a6⟩, m2, m3, m4, m5⟩ := hM
  obtain ⟨S', e, x, y, fr⟩ := pX_lay d1 hN hd hk
  refine ⟨S', zsI (zsI (zsR (zsR SM 0 N (nI kv)) 1 N (nI yv)) 2 (nI (N + 1))) 8 (nI 0), e, ?_, ⟨x, (fr.1 1 (by decide)).trans d2, (fr.1 2 (by decide)).trans d3, (fr.1 3 (by decide)).trans d4, (fr.1 4 (by decide)).trans d5, Or.inl y⟩, ⟨⟨rfl, by omega, ?_, ?_, x.2.2.2.2.1, Or.inl rfl⟩, m2, m3, m4, m5⟩⟩
  · simp (disch := omega) only [fM_X11_add, a1, ↓zN_eq, zL0, zL1, zL2, zL3, zL4, zL5, zL6, zL7, zL8, zL10, zL16, zL31, zL42, zL63, zL64, zL100, zL200, zL255, zL256, zL1000, zL12345, zL536870912, zI_le, zI_lt, zI_eq, zI_add, zI_sub, zI_mul, zI_neN, zI_Nne, zI_leN, zI_ltN, zI_Nle, zI_Nlt, zI_pred, zI_clamp, zI_div, zI_rem, zin_t, zgd_t, znz_t, if_pos, if_neg, if_true, if_false, Option.bind_some]
  · intro t ht
    show upd (SM.2 0) N (nI kv) t = nI (ztmP kd N kv t)
    rw [zup1]
    by_cases q : t = N
    · rw [if_pos q, q, show ztmP kd N kv N = kv from if_pos rfl]
    · rw [if_neg q, show ztmP kd N kv t = kd t from if_neg q]; exact a3 t (by omega)
  · intro t ht
    show upd (SM.2 1) N (nI yv) t = nI (ztmP ky N yv t)
    rw [zup1]
    by_cases q : t = N
    · rw [if_pos q, q, show ztmP ky N yv N = yv from if_pos rfl]
    · rw [if_neg q, show ztmP ky N yv t = ky t from if_neg q]; exact a4 t (by omega)
theorem zt_call {SX SM : zSt} (h : zTp SX SM) (x1 x2 : Int32) : ∃ r SX' SM', fX_X10_call x1 x2 SX = some (r, SX') ∧ fM_X11_call x1 x2 SM = some (r, SM') ∧ zTp SX' SM' := by
  obtain ⟨kd, ky, N, gu, ac, fe, ea, hb, hX, hM⟩ := h
  have hM7 := zMT2_7 (v := nI 0) hM
  have fin : zTp SX (zsI SM 7 (nI 0)) := ⟨kd, ky, N, gu, ac, fe, ea, hb, hX, hM7⟩
  have hN := hX.1.2.1
  have h0 := hX.1.1
  have h2 := hM.1.1
  rcases zcs x1 with q | ⟨a, ha, rfl⟩
  · obtain ⟨n1, n2, n3, n4, n5⟩ := zneg q
    have c := pM_in_n (S := zsI SM 7 (nI 0)) (hi := nI 7) (lo := 0) q (by omega)
    refine ⟨zN, SX, zsI SM 7 (nI 0), ?_, ?_, fin⟩
    · simp (disch := omega) only [fX_X10_call, n5, ↓zN_eq, zL0, zL1, zL2, zL3, zL4, zL5, zL6, zL7, zL8, zL10, zL16, zL31, zL42, zL63, zL64, zL100, zL200, zL255, zL256, zL1000, zL12345, zL536870912, zI_le, zI_lt, zI_eq, zI_add, zI_sub, zI_mul, zI_neN, zI_Nne, zI_leN, zI_ltN, zI_Nle, zI_Nlt, zI_pred, zI_clamp, zI_div, zI_rem, zin_t, zgd_t, znz_t, if_pos, if_neg, if_true, if_false, Option.bind_some]
    · simp (disch := omega) only [fM_X11_call, c, ↓zN_eq, zL0, zL1, zL2, zL3, zL4, zL5, zL6, zL7, zL8, zL10, zL16, zL31, zL42, zL63, zL64, zL100, zL200, zL255, zL256, zL1000, zL12345, zL536870912, zI_le, zI_lt, zI_eq, zI_add, zI_sub, zI_mul, zI_neN, zI_Nne, zI_leN, zI_ltN, zI_Nle, zI_Nlt, zI_pred, zI_clamp, zI_div, zI_rem, zin_t, zgd_t, znz_t, if_pos, if_neg, if_true, if_false, Option.bind_some]
  · by_cases w : a < 8
    · have c := pM_in_t (S := zsI SM 7 (nI 0)) (lo := 0) (hi := 7) ha (by omega) (by omega) (by omega)
      rcases zcs x2 with q | ⟨k, hk, rfl⟩
      · have c2 := pM_in_n (S := zsI SM 7 (nI 0)) (hi := nI 63) (lo := 0) q (by omega)
        have c3 := pX_isKey_n (S := SX) q
        refine ⟨zN, SX, zsI SM 7 (nI 0), ?_, ?_, fin⟩
        · simp (disch := omega) only [fX_X10_call, c3, ↓zN_eq, zL0, zL1, zL2, zL3, zL4, zL5, zL6, zL7, zL8, zL10, zL16, zL31, zL42, zL63, zL64, zL100, zL200, zL255, zL256, zL1000, zL12345, zL536870912, zI_le, zI_lt, zI_eq, zI_add, zI_sub, zI_mul, zI_neN, zI_Nne, zI_leN, zI_ltN, zI_Nle, zI_Nlt, zI_pred, zI_clamp, zI_div, zI_rem, zin_t, zgd_t, znz_t, if_pos, if_neg, if_true, if_false, Option.bind_some]
        · simp (disch := omega) only [fM_X11_call, c, c2, ↓zN_eq, zL0, zL1, zL2, zL3, zL4, zL5, zL6, zL7, zL8, zL10, zL16, zL31, zL42, zL63, zL64, zL100, zL200, zL255, zL256, zL1000, zL12345, zL536870912, zI_le, zI_lt, zI_eq, zI_add, zI_sub, zI_mul, zI_neN, zI_Nne, zI_leN, zI_ltN, zI_Nle, zI_Nlt, zI_pred, zI_clamp, zI_div, zI_rem, zin_t, zgd_t, znz_t, if_pos, if_neg, if_true, if_false, Option.bind_some]
      · by_cases y : k < 64
        · have c2 := pM_in_t (S := zsI SM 7 (nI 0)) (lo := 0) (hi := 63) hk (by omega) (by omega) (by omega)
          have c3 := pX_isKey (S := SX) y
          by_cases z : N < 200
          · obtain ⟨SX', SM', e1, e2, g1, g2⟩ := zt_add hX hM7 z w y
            have v1 := g1.1.1
            have v2 := g2.1.1
            refine ⟨nI N, SX', SM', ?_, ?_, ⟨_, _, N + 1, gu, ac, fe, ea, hb, g1, g2⟩⟩
            · simp (disch := omega) only [fX_X10_call, c3, h0, e1, v1, ↓zN_eq, zL0, zL1, zL2, zL3, zL4, zL5, zL6, zL7, zL8, zL10, zL16, zL31, zL42, zL63, zL64, zL100, zL200, zL255, zL256, zL1000, zL12345, zL536870912, zI_le, zI_lt, zI_eq, zI_add, zI_sub, zI_mul, zI_neN, zI_Nne, zI_leN, zI_ltN, zI_Nle, zI_Nlt, zI_pred, zI_clamp, zI_div, zI_rem, zin_t, zgd_t, znz_t, if_pos, if_neg, if_true, if_false, Option.bind_some]
              rw [show N + 1 - 1 = N by omega]
            · simp (disch := omega) only [fM_X11_call, c, c2, h2, e2, v2, ↓zN_eq, zL0, zL1, zL2, zL3, zL4, zL5, zL6, zL7, zL8, zL10, zL16, zL31, zL42, zL63, zL64, zL100, zL200, zL255, zL256, zL1000, zL12345, zL536870912, zI_le, zI_lt, zI_eq, zI_add, zI_sub, zI_mul, zI_neN, zI_Nne, zI_leN, zI_ltN, zI_Nle, zI_Nlt, zI_pred, zI_clamp, zI_div, zI_rem, zin_t, zgd_t, znz_t, if_pos, if_neg, if_true, if_false, Option.bind_some]
              rw [show N + 1 - 1 = N by omega]
          · refine ⟨zN, SX, zsI SM 7 (nI 0), ?_, ?_, fin⟩
            · simp (disch := omega) only [fX_X10_call, c3, h0, ↓zN_eq, zL0, zL1, zL2, zL3, zL4, zL5, zL6, zL7, zL8, zL10, zL16, zL31, zL42, zL63, zL64, zL100, zL200, zL255, zL256, zL1000, zL12345, zL536870912, zI_le, zI_lt, zI_eq, zI_add, zI_sub, zI_mul, zI_neN, zI_Nne, zI_leN, zI_ltN, zI_Nle, zI_Nlt, zI_pred, zI_clamp, zI_div, zI_rem, zin_t, zgd_t, znz_t, if_pos, if_neg, if_true, if_false, Option.bind_some]
            · simp (disch := omega) only [fM_X11_call, c, c2, h2, ↓zN_eq, zL0, zL1, zL2, zL3, zL4, zL5, zL6, zL7, zL8, zL10, zL16, zL31, zL42, zL63, zL64, zL100, zL200, zL255, zL256, zL1000, zL12345, zL536870912, zI_le, zI_lt, zI_eq, zI_add, zI_sub, zI_mul, zI_neN, zI_Nne, zI_leN, zI_ltN, zI_Nle, zI_Nlt, zI_pred, zI_clamp, zI_div, zI_rem, zin_t, zgd_t, znz_t, if_pos, if_neg, if_true, if_false, Option.bind_some]
        · have c2 := pM_in_f (S := zsI SM 7 (nI 0)) (lo := 0) (hi := 63) hk (by omega) (by omega) (by omega)
          have c3 := pX_isKey_f (S := SX) (show 64 ≤ k by omega) hk
          refine ⟨zN, SX, zsI SM 7 (nI 0), ?_, ?_, fin⟩
          · simp (disch := omega) only [fX_X10_call, c3, ↓zN_eq, zL0, zL1, zL2, zL3, zL4, zL5, zL6, zL7, zL8, zL10, zL16, zL31, zL42, zL63, zL64, zL100, zL200, zL255, zL256, zL1000, zL12345, zL536870912, zI_le, zI_lt, zI_eq, zI_add, zI_sub, zI_mul, zI_neN, zI_Nne, zI_leN, zI_ltN, zI_Nle, zI_Nlt, zI_pred, zI_clamp, zI_div, zI_rem, zin_t, zgd_t, znz_t, if_pos, if_neg, if_true, if_false, Option.bind_some]
          · simp (disch := omega) only [fM_X11_call, c, c2, ↓zN_eq, zL0, zL1, zL2, zL3, zL4, zL5, zL6, zL7, zL8, zL10, zL16, zL31, zL42, zL63, zL64, zL100, zL200, zL255, zL256, zL1000, zL12345, zL536870912, zI_le, zI_lt, zI_eq, zI_add, zI_sub, zI_mul, zI_neN, zI_Nne, zI_leN, zI_ltN, zI_Nle, zI_Nlt, zI_pred, zI_clamp, zI_div, zI_rem, zin_t, zgd_t, znz_t, if_pos, if_neg, if_true, if_false, Option.bind_some]
    · have c := pM_in_f (S := zsI SM 7 (nI 0)) (lo := 0) (hi := 7) ha (by omega) (by omega) (by omega)
      refine ⟨zN, SX, zsI SM 7 (nI 0), ?_, ?_, fin⟩
      · simp (disch := omega) only [fX_X10_call, ↓zN_eq, zL0, zL1, zL2, zL3, zL4, zL5, zL6, zL7, zL8, zL10, zL16, zL31, zL42, zL63, zL64, zL100, zL200, zL255, zL256, zL1000, zL12345, zL536870912, zI_le, zI_lt, zI_eq, zI_add, zI_sub, zI_mul, zI_neN, zI_Nne, zI_leN, zI_ltN, zI_Nle, zI_Nlt, zI_pred, zI_clamp, zI_div, zI_rem, zin_t, zgd_t, znz_t, if_pos, if_neg, if_true, if_false, Option.bind_some]
      · simp (disch := omega) only [fM_X11_call, c, ↓zN_eq, zL0, zL1, zL2, zL3, zL4, zL5, zL6, zL7, zL8, zL10, zL16, zL31, zL42, zL63, zL64, zL100, zL200, zL255, zL256, zL1000, zL12345, zL536870912, zI_le, zI_lt, zI_eq, zI_add, zI_sub, zI_mul, zI_neN, zI_Nne, zI_leN, zI_ltN, zI_Nle, zI_Nlt, zI_pred, zI_clamp, zI_div, zI_rem, zin_t, zgd_t, znz_t, if_pos, if_neg, if_true, if_false, Option.bind_some]
theorem zush_16 (x : Int32) : ∃ a, a < 65536 ∧ zush x 16 = nI a := by
  have h := pk_ushr x 16 16 (by decide)
  have hl := x.toBitVec.isLt
  have hb : x.toBitVec.toNat / 2 ^ 16 < 65536 := by omega
  refine ⟨x.toBitVec.toNat / 2 ^ 16, hb, ?_⟩
  apply Int32.toBitVec_inj.mp
  apply BitVec.eq_of_toNat_eq
  rw [pk_tn (by omega)]
  exact h
theorem zt_draw_l {mask : Int32} {n ke gu ac fe ea : Nat} (hn : n ≤ 100) (hk0 : 1 ≤ ke) (hk1 : ke ≤ 64) : ∀ r i u R SX SM kd ky N, r < u → i + r = n → N + r ≤ 200 → zXT SX kd ky N gu ac fe ea → zMT2 SM kd ky N gu ac fe ea → ∃ SX' SM' kd' ky', fX_X10_draw_54 u (nI n) (nI ke) mask R (nI i) SX = some (nI (N + r), SX') ∧ fM_X11_draw_57 u (nI n) (nI ke) mask R (nI i) SM = some (nI (N + r), SM') ∧ zXT SX' kd' ky' (N + r) gu ac fe ea ∧ zMT2 SM' kd' ky' (N + r) gu ac fe ea := by
  intro r
  induction r with
  | zero =>
    intro i u R SX SM kd ky N hu hi hN hX hM
    obtain ⟨u, rfl⟩ : ∃ u', u = u' + 1 := ⟨u - 1, by omega⟩
    have c : nI n ≤ nI i := by rw [zI_le (by omega) (by omega)]; omega
    refine ⟨SX, SM, kd, ky, ?_, ?_, hX, hM⟩
    · rw [fX_X10_draw_54, if_pos c, hX.1.1, Nat.add_zero]
    · rw [fM_X11_draw_57, if_pos c, hM.1.1, Nat.add_zero]
  | succ r ih =>
    intro i u R SX SM kd ky N hu hi hN hX hM
    obtain ⟨u, rfl⟩ : ∃ u', u = u' + 1 := ⟨u - 1, by omega⟩
    have c : ¬ nI n ≤ nI i := by rw [zI_le (by omega) (by omega)]; omega
    obtain ⟨A, hA⟩ : ∃ A, A = R * 1103515245 + 12345 := ⟨_, rfl⟩
    obtain ⟨B, hB⟩ : ∃ B, B = A * 1103515245 + 12345 := ⟨_, rfl⟩
    obtain ⟨a, ha, ea'⟩ := zush_16 A
    obtain ⟨b, hb, eb⟩ := zush_16 B
    have k1 : zrem (zush A 16) 8 = nI (a % 8) := by rw [ea', zL8, zI_rem (by omega) (by omega) (by omega)]
    have k2 : zrem (zush B 16) (nI ke) = nI (b % ke) := by rw [eb, zI_rem (by omega) (by omega) (by omega)]
    have ha8 : a % 8 < 8 := Nat.mod_lt _ (by omega)
    have hbk : b % ke < ke := Nat.mod_lt _ (by omega)
    obtain ⟨v, hv, ev⟩ := pk_andE (mask >>> (nI (a % 8) &&& 31)) (m := 1) 1 (by decide)
    have hv2 : v = 0 ∨ v = 1 := by omega
    have e1 : nI i + 1 = nI (i + 1) := by rw [zL1, zI_add]
    have nz : znz (nI ke) = true := znz_t (by omega) (by omega)
    have fin : ∀ kv, kv < 8 → ∃ SX' SM' kd' ky', fX_X10_draw_102 (fX_X10_draw_54 u) (nI n) (nI ke) mask B (nI i) (nI kv) SX = some (nI (N + (r + 1)), SX') ∧ fM_X11_draw_112 (fM_X11_draw_57 u) (nI n) (nI ke) mask B (nI i) (nI kv) SM = some (nI (N + (r + 1)), SM') ∧ zXT SX' kd' ky' (N + (r + 1)) gu ac fe ea ∧ zMT2 SM' kd' ky' (N + (r + 1)) gu ac fe ea := fun kv hkv => by
      obtain ⟨SX1, SM1, f1, f2, g1, g2⟩ := zt_add (kv := kv) (yv := b % ke) hX hM (by omega) hkv (by omega)
      obtain ⟨SX', SM', kd', ky', f3, f4, g3, g4⟩ := ih (i + 1) u B SX1 SM1 _ _ (N + 1) (by omega) (by omega) (by omega) g1 g2
      rw [show N + 1 + r = N + (r + 1) by omega] at f3 f4 g3 g4
      refine ⟨SX', SM', kd', ky', ?_, ?_, g3, g4⟩
      · unfold fX_X10_draw_102
        rw [nz, zgd_t, k2, f1, Option.bind_some, e1]; exact f3
      · unfold fM_X11_draw_112
        rw [nz, zgd_t, k2, f2, Option.bind_some, e1]; exact f4
    have xX : fX_X10_draw_54 (u + 1) (nI n) (nI ke) mask R (nI i) SX = if nI v = 1 then fX_X10_draw_102 (fX_X10_draw_54 u) (nI n) (nI ke) mask B (nI i) (nI (a % 8)) SX else fX_X10_draw_102 (fX_X10_draw_54 u) (nI n) (nI ke) mask B (nI i) 0 SX := by
      rw [fX_X10_draw_54, if_neg c]
      unfold fX_X10_drawnAfter
      rw [Option.bind_some, Option.bind_some, ← hA, ← hB, k1, ev]
    have xM : fM_X11_draw_57 (u + 1) (nI n) (nI ke) mask R (nI i) SM = if nI v = 0 then fM_X11_draw_112 (fM_X11_draw_57 u) (nI n) (nI ke) mask B (nI i) 0 SM else fM_X11_draw_112 (fM_X11_draw_57 u) (nI n) (nI ke) mask B (nI i) (nI (a % 8)) SM := by
      rw [fM_X11_draw_57, if_neg c, ← hA, ← hB, k1, ev]
    rw [xX, xM]
    rcases hv2 with rfl | rfl
    · rw [if_neg (show ¬ nI 0 = (1 : Int32) by decide), if_pos (show nI 0 = (0 : Int32) by decide), zL0]
      exact fin 0 (by omega)
    · rw [if_pos (show nI 1 = (1 : Int32) by decide), if_neg (show ¬ nI 1 = (0 : Int32) by decide)]
      exact fin (a % 8) ha8
theorem zt_draw {SX SM : zSt} (h : zTp SX SM) (x1 x2 x3 x4 : Int32) : ∃ r SX' SM', fX_X10_draw x1 x2 x3 x4 SX = some (r, SX') ∧ fM_X11_draw x1 x2 x3 x4 SM = some (r, SM') ∧ zTp SX' SM' := by
  obtain ⟨kd, ky, N, gu, ac, fe, ea, hb, hX, hM⟩ := h
  have hM7 := zMT2_7 (v := nI 0) hM
  have fin : zTp SX (zsI SM 7 (nI 0)) := ⟨kd, ky, N, gu, ac, fe, ea, hb, hX, hM7⟩
  have hN := hX.1.2.1
  have h0 := hX.1.1
  have h2 := hM.1.1
  rcases zcs x2 with q | ⟨n, hn, rfl⟩
  · obtain ⟨n1, n2, n3, n4, n5⟩ := zneg q
    have c := pM_in_n (S := zsI SM 7 (nI 0)) (hi := nI 100) (lo := 0) q (by omega)
    refine ⟨zN, SX, zsI SM 7 (nI 0), ?_, ?_, fin⟩
    · simp (disch := omega) only [fX_X10_draw, n5, ↓zN_eq, zL0, zL1, zL2, zL3, zL4, zL5, zL6, zL7, zL8, zL10, zL16, zL31, zL42, zL63, zL64, zL100, zL200, zL255, zL256, zL1000, zL12345, zL536870912, zI_le, zI_lt, zI_eq, zI_add, zI_sub, zI_mul, zI_neN, zI_Nne, zI_leN, zI_ltN, zI_Nle, zI_Nlt, zI_pred, zI_clamp, zI_div, zI_rem, zin_t, zgd_t, znz_t, if_pos, if_neg, if_true, if_false, Option.bind_some]
    · simp (disch := omega) only [fM_X11_draw, c, ↓zN_eq, zL0, zL1, zL2, zL3, zL4, zL5, zL6, zL7, zL8, zL10, zL16, zL31, zL42, zL63, zL64, zL100, zL200, zL255, zL256, zL1000, zL12345, zL536870912, zI_le, zI_lt, zI_eq, zI_add, zI_sub, zI_mul, zI_neN, zI_Nne, zI_leN, zI_ltN, zI_Nle, zI_Nlt, zI_pred, zI_clamp, zI_div, zI_rem, zin_t, zgd_t, znz_t, if_pos, if_neg, if_true, if_false, Option.bind_some]
  · by_cases w : n ≤ 100
    · have c := pM_in_t (S := zsI SM 7 (nI 0)) (lo := 0) (hi := 100) hn (by omega) (by omega) w
      rcases zcs x3 with q | ⟨k, hk, rfl⟩
      · obtain ⟨n1, n2, n3, n4, n5⟩ := zneg q
        have c2 := pM_in_n (S := zsI SM 7 (nI 0)) (hi := nI 64) (lo := 1) q (by omega)
        refine ⟨zN, SX, zsI SM 7 (nI 0), ?_, ?_, fin⟩
        · simp (disch := omega) only [fX_X10_draw, n5, ↓zN_eq, zL0, zL1, zL2, zL3, zL4, zL5, zL6, zL7, zL8, zL10, zL16, zL31, zL42, zL63, zL64, zL100, zL200, zL255, zL256, zL1000, zL12345, zL536870912, zI_le, zI_lt, zI_eq, zI_add, zI_sub, zI_mul, zI_neN, zI_Nne, zI_leN, zI_ltN, zI_Nle, zI_Nlt, zI_pred, zI_clamp, zI_div, zI_rem, zin_t, zgd_t, znz_t, if_pos, if_neg, if_true, if_false, Option.bind_some]
        · simp (disch := omega) only [fM_X11_draw, c, c2, ↓zN_eq, zL0, zL1, zL2, zL3, zL4, zL5, zL6, zL7, zL8, zL10, zL16, zL31, zL42, zL63, zL64, zL100, zL200, zL255, zL256, zL1000, zL12345, zL536870912, zI_le, zI_lt, zI_eq, zI_add, zI_sub, zI_mul, zI_neN, zI_Nne, zI_leN, zI_ltN, zI_Nle, zI_Nlt, zI_pred, zI_clamp, zI_div, zI_rem, zin_t, zgd_t, znz_t, if_pos, if_neg, if_true, if_false, Option.bind_some]
      · by_cases y : 1 ≤ k ∧ k ≤ 64
        · have c2 := pM_in_t (S := zsI SM 7 (nI 0)) (lo := 1) (hi := 64) hk (by omega) y.1 y.2
          rcases zcs x4 with q | ⟨m, hm, rfl⟩
          · obtain ⟨n1, n2, n3, n4, n5⟩ := zneg q
            have c3 := pM_in_n (S := zsI SM 7 (nI 0)) (hi := nI 255) (lo := 0) q (by omega)
            refine ⟨zN, SX, zsI SM 7 (nI 0), ?_, ?_, fin⟩
            · simp (disch := omega) only [fX_X10_draw, n5, ↓zN_eq, zL0, zL1, zL2, zL3, zL4, zL5, zL6, zL7, zL8, zL10, zL16, zL31, zL42, zL63, zL64, zL100, zL200, zL255, zL256, zL1000, zL12345, zL536870912, zI_le, zI_lt, zI_eq, zI_add, zI_sub, zI_mul, zI_neN, zI_Nne, zI_leN, zI_ltN, zI_Nle, zI_Nlt, zI_pred, zI_clamp, zI_div, zI_rem, zin_t, zgd_t, znz_t, if_pos, if_neg, if_true, if_false, Option.bind_some]
            · simp (disch := omega) only [fM_X11_draw, c, c2, c3, ↓zN_eq, zL0, zL1, zL2, zL3, zL4, zL5, zL6, zL7, zL8, zL10, zL16, zL31, zL42, zL63, zL64, zL100, zL200, zL255, zL256, zL1000, zL12345, zL536870912, zI_le, zI_lt, zI_eq, zI_add, zI_sub, zI_mul, zI_neN, zI_Nne, zI_leN, zI_ltN, zI_Nle, zI_Nlt, zI_pred, zI_clamp, zI_div, zI_rem, zin_t, zgd_t, znz_t, if_pos, if_neg, if_true, if_false, Option.bind_some]
          · by_cases z : m ≤ 255
            · have c3 := pM_in_t (S := zsI SM 7 (nI 0)) (lo := 0) (hi := 255) hm (by omega) (by omega) z
              by_cases g : N + n ≤ 200
              · obtain ⟨SX', SM', kd', ky', f3, f4, g3, g4⟩ := zt_draw_l (mask := nI m) w y.1 y.2 n 0 1000 x1 SX (zsI SM 7 (nI 0)) kd ky N (by omega) (by omega) g hX hM7
                refine ⟨nI (N + n), SX', SM', ?_, ?_, ⟨kd', ky', N + n, gu, ac, fe, ea, hb, g3, g4⟩⟩
                · rw [← f3]
                  simp (disch := omega) only [fX_X10_draw, h0, ↓zN_eq, zL0, zL1, zL2, zL3, zL4, zL5, zL6, zL7, zL8, zL10, zL16, zL31, zL42, zL63, zL64, zL100, zL200, zL255, zL256, zL1000, zL12345, zL536870912, zI_le, zI_lt, zI_eq, zI_add, zI_sub, zI_mul, zI_neN, zI_Nne, zI_leN, zI_ltN, zI_Nle, zI_Nlt, zI_pred, zI_clamp, zI_div, zI_rem, zin_t, zgd_t, znz_t, if_pos, if_neg, if_true, if_false, Option.bind_some]
                · rw [← f4]
                  simp (disch := omega) only [fM_X11_draw, c, c2, c3, h2, ↓zN_eq, zL0, zL1, zL2, zL3, zL4, zL5, zL6, zL7, zL8, zL10, zL16, zL31, zL42, zL63, zL64, zL100, zL200, zL255, zL256, zL1000, zL12345, zL536870912, zI_le, zI_lt, zI_eq, zI_add, zI_sub, zI_mul, zI_neN, zI_Nne, zI_leN, zI_ltN, zI_Nle, zI_Nlt, zI_pred, zI_clamp, zI_div, zI_rem, zin_t, zgd_t, znz_t, if_pos, if_neg, if_true, if_false, Option.bind_some]
              · refine ⟨zN, SX, zsI SM 7 (nI 0), ?_, ?_, fin⟩
                · simp (disch := omega) only [fX_X10_draw, h0, ↓zN_eq, zL0, zL1, zL2, zL3, zL4, zL5, zL6, zL7, zL8, zL10, zL16, zL31, zL42, zL63, zL64, zL100, zL200, zL255, zL256, zL1000, zL12345, zL536870912, zI_le, zI_lt, zI_eq, zI_add, zI_sub, zI_mul, zI_neN, zI_Nne, zI_leN, zI_ltN, zI_Nle, zI_Nlt, zI_pred, zI_clamp, zI_div, zI_rem, zin_t, zgd_t, znz_t, if_pos, if_neg, if_true, if_false, Option.bind_some]
                · simp (disch := omega) only [fM_X11_draw, c, c2, c3, h2, ↓zN_eq, zL0, zL1, zL2, zL3, zL4, zL5, zL6, zL7, zL8, zL10, zL16, zL31, zL42, zL63, zL64, zL100, zL200, zL255, zL256, zL1000, zL12345, zL536870912, zI_le, zI_lt, zI_eq, zI_add, zI_sub, zI_mul, zI_neN, zI_Nne, zI_leN, zI_ltN, zI_Nle, zI_Nlt, zI_pred, zI_clamp, zI_div, zI_rem, zin_t, zgd_t, znz_t, if_pos, if_neg, if_true, if_false, Option.bind_some]
            · have c3 := pM_in_f (S := zsI SM 7 (nI 0)) (lo := 0) (hi := 255) hm (by omega) (by omega) (by omega)
              refine ⟨zN, SX, zsI SM 7 (nI 0), ?_, ?_, fin⟩
              · simp (disch := omega) only [fX_X10_draw, ↓zN_eq, zL0, zL1, zL2, zL3, zL4, zL5, zL6, zL7, zL8, zL10, zL16, zL31, zL42, zL63, zL64, zL100, zL200, zL255, zL256, zL1000, zL12345, zL536870912, zI_le, zI_lt, zI_eq, zI_add, zI_sub, zI_mul, zI_neN, zI_Nne, zI_leN, zI_ltN, zI_Nle, zI_Nlt, zI_pred, zI_clamp, zI_div, zI_rem, zin_t, zgd_t, znz_t, if_pos, if_neg, if_true, if_false, Option.bind_some]
              · simp (disch := omega) only [fM_X11_draw, c, c2, c3, ↓zN_eq, zL0, zL1, zL2, zL3, zL4, zL5, zL6, zL7, zL8, zL10, zL16, zL31, zL42, zL63, zL64, zL100, zL200, zL255, zL256, zL1000, zL12345, zL536870912, zI_le, zI_lt, zI_eq, zI_add, zI_sub, zI_mul, zI_neN, zI_Nne, zI_leN, zI_ltN, zI_Nle, zI_Nlt, zI_pred, zI_clamp, zI_div, zI_rem, zin_t, zgd_t, znz_t, if_pos, if_neg, if_true, if_false, Option.bind_some]
        · have c2 := pM_in_f (S := zsI SM 7 (nI 0)) (lo := 1) (hi := 64) hk (by omega) (by omega) (by omega)
          refine ⟨zN, SX, zsI SM 7 (nI 0), ?_, ?_, fin⟩
          · by_cases u : k < 1
            · simp (disch := omega) only [fX_X10_draw, ↓zN_eq, zL0, zL1, zL2, zL3, zL4, zL5, zL6, zL7, zL8, zL10, zL16, zL31, zL42, zL63, zL64, zL100, zL200, zL255, zL256, zL1000, zL12345, zL536870912, zI_le, zI_lt, zI_eq, zI_add, zI_sub, zI_mul, zI_neN, zI_Nne, zI_leN, zI_ltN, zI_Nle, zI_Nlt, zI_pred, zI_clamp, zI_div, zI_rem, zin_t, zgd_t, znz_t, if_pos, if_neg, if_true, if_false, Option.bind_some]
            · simp (disch := omega) only [fX_X10_draw, ↓zN_eq, zL0, zL1, zL2, zL3, zL4, zL5, zL6, zL7, zL8, zL10, zL16, zL31, zL42, zL63, zL64, zL100, zL200, zL255, zL256, zL1000, zL12345, zL536870912, zI_le, zI_lt, zI_eq, zI_add, zI_sub, zI_mul, zI_neN, zI_Nne, zI_leN, zI_ltN, zI_Nle, zI_Nlt, zI_pred, zI_clamp, zI_div, zI_rem, zin_t, zgd_t, znz_t, if_pos, if_neg, if_true, if_false, Option.bind_some]
          · simp (disch := omega) only [fM_X11_draw, c, c2, ↓zN_eq, zL0, zL1, zL2, zL3, zL4, zL5, zL6, zL7, zL8, zL10, zL16, zL31, zL42, zL63, zL64, zL100, zL200, zL255, zL256, zL1000, zL12345, zL536870912, zI_le, zI_lt, zI_eq, zI_add, zI_sub, zI_mul, zI_neN, zI_Nne, zI_leN, zI_ltN, zI_Nle, zI_Nlt, zI_pred, zI_clamp, zI_div, zI_rem, zin_t, zgd_t, znz_t, if_pos, if_neg, if_true, if_false, Option.bind_some]
    · have c := pM_in_f (S := zsI SM 7 (nI 0)) (lo := 0) (hi := 100) hn (by omega) (by omega) (by omega)
      refine ⟨zN, SX, zsI SM 7 (nI 0), ?_, ?_, fin⟩
      · simp (disch := omega) only [fX_X10_draw, ↓zN_eq, zL0, zL1, zL2, zL3, zL4, zL5, zL6, zL7, zL8, zL10, zL16, zL31, zL42, zL63, zL64, zL100, zL200, zL255, zL256, zL1000, zL12345, zL536870912, zI_le, zI_lt, zI_eq, zI_add, zI_sub, zI_mul, zI_neN, zI_Nne, zI_leN, zI_ltN, zI_Nle, zI_Nlt, zI_pred, zI_clamp, zI_div, zI_rem, zin_t, zgd_t, znz_t, if_pos, if_neg, if_true, if_false, Option.bind_some]
      · simp (disch := omega) only [fM_X11_draw, c, ↓zN_eq, zL0, zL1, zL2, zL3, zL4, zL5, zL6, zL7, zL8, zL10, zL16, zL31, zL42, zL63, zL64, zL100, zL200, zL255, zL256, zL1000, zL12345, zL536870912, zI_le, zI_lt, zI_eq, zI_add, zI_sub, zI_mul, zI_neN, zI_Nne, zI_leN, zI_ltN, zI_Nle, zI_Nlt, zI_pred, zI_clamp, zI_div, zI_rem, zin_t, zgd_t, znz_t, if_pos, if_neg, if_true, if_false, Option.bind_some]
theorem zt_drop {SX SM : zSt} (h : zTp SX SM) (x1 : Int32) : ∃ r SX' SM', fX_X10_drop x1 SX = some (r, SX') ∧ fM_X11_drop x1 SM = some (r, SM') ∧ zTp SX' SM' := by
  obtain ⟨kd, ky, N, gu, ac, fe, ea, hb, hX, hM⟩ := h
  have hM7 := zMT2_7 (v := nI 0) hM
  have fin : zTp SX (zsI SM 7 (nI 0)) := ⟨kd, ky, N, gu, ac, fe, ea, hb, hX, hM7⟩
  have hN := hX.1.2.1
  have h0 := hX.1.1
  have h2 := hM.1.1
  rcases zcs x1 with q | ⟨n, hn, rfl⟩
  · obtain ⟨n1, n2, n3, n4, n5⟩ := zneg q
    have c := pM_in_n (S := zsI SM 7 (nI 0)) (hi := nI N) (lo := 0) q (by omega)
    refine ⟨zN, SX, zsI SM 7 (nI 0), ?_, ?_, fin⟩
    · simp (disch := omega) only [fX_X10_drop, n5, ↓zN_eq, zL0, zL1, zL2, zL3, zL4, zL5, zL6, zL7, zL8, zL10, zL16, zL31, zL42, zL63, zL64, zL100, zL200, zL255, zL256, zL1000, zL12345, zL536870912, zI_le, zI_lt, zI_eq, zI_add, zI_sub, zI_mul, zI_neN, zI_Nne, zI_leN, zI_ltN, zI_Nle, zI_Nlt, zI_pred, zI_clamp, zI_div, zI_rem, zin_t, zgd_t, znz_t, if_pos, if_neg, if_true, if_false, Option.bind_some]
    · simp (disch := omega) only [fM_X11_drop, h2, c, ↓zN_eq, zL0, zL1, zL2, zL3, zL4, zL5, zL6, zL7, zL8, zL10, zL16, zL31, zL42, zL63, zL64, zL100, zL200, zL255, zL256, zL1000, zL12345, zL536870912, zI_le, zI_lt, zI_eq, zI_add, zI_sub, zI_mul, zI_neN, zI_Nne, zI_leN, zI_ltN, zI_Nle, zI_Nlt, zI_pred, zI_clamp, zI_div, zI_rem, zin_t, zgd_t, znz_t, if_pos, if_neg, if_true, if_false, Option.bind_some]
  · by_cases w : n ≤ N
    · have c := pM_in_t (S := zsI SM 7 (nI 0)) (lo := 0) (hi := N) hn (by omega) (by omega) w
      have eM : fM_X11_drop (nI n) SM = some (nI (N - n), zsI (zsI (zsI SM 7 (nI 0)) 2 (nI (N - n))) 8 (nI 0)) := by
        simp (disch := omega) only [fM_X11_drop, h2, c, ↓zN_eq, zL0, zL1, zL2, zL3, zL4, zL5, zL6, zL7, zL8, zL10, zL16, zL31, zL42, zL63, zL64, zL100, zL200, zL255, zL256, zL1000, zL12345, zL536870912, zI_le, zI_lt, zI_eq, zI_add, zI_sub, zI_mul, zI_neN, zI_Nne, zI_leN, zI_ltN, zI_Nle, zI_Nlt, zI_pred, zI_clamp, zI_div, zI_rem, zin_t, zgd_t, znz_t, if_pos, if_neg, if_true, if_false, Option.bind_some]
      obtain ⟨⟨a1, a2, a3, a4, a5, a6⟩, m2, m3, m4, m5⟩ := hM7
      have hM2 : zMT2 (zsI (zsI (zsI SM 7 (nI 0)) 2 (nI (N - n))) 8 (nI 0)) kd ky (N - n) gu ac fe ea := ⟨⟨rfl, by omega, fun t ht => a3 t (by omega), fun t ht => a4 t (by omega), fun t ht => a5 t (by omega), Or.inl rfl⟩, m2, m3, m4, m5⟩
      by_cases y : n = 0
      · rw [show N - n = N by omega] at eM hM2
        refine ⟨nI N, SX, _, ?_, eM, ⟨kd, ky, N, gu, ac, fe, ea, hb, hX, hM2⟩⟩
        simp (disch := omega) only [fX_X10_drop, h0, ↓zN_eq, zL0, zL1, zL2, zL3, zL4, zL5, zL6, zL7, zL8, zL10, zL16, zL31, zL42, zL63, zL64, zL100, zL200, zL255, zL256, zL1000, zL12345, zL536870912, zI_le, zI_lt, zI_eq, zI_add, zI_sub, zI_mul, zI_neN, zI_Nne, zI_leN, zI_ltN, zI_Nle, zI_Nlt, zI_pred, zI_clamp, zI_div, zI_rem, zin_t, zgd_t, znz_t, if_pos, if_neg, if_true, if_false, Option.bind_some]
      · obtain ⟨⟨d1, d2, d3, d4, d5, d6, d7, d8⟩, l1, l2, l3, l4, l5⟩ := hX
        obtain ⟨S0, hS0⟩ : ∃ S0, S0 = zsI (zsI SX 0 (nI (N - n))) 5 (nI 0) := ⟨_, rfl⟩
        have f0 : zfr SX S0 [0, 5] [] := by rw [hS0]; exact zfr_tr (zfr_sI (by decide)) (zfr_sI (by decide))
        have i0 : S0.1 0 = nI (N - n) := by rw [hS0]; rfl
        have i5 : S0.1 5 = nI 0 := by rw [hS0]; rfl
        obtain ⟨S1, e1, g1, fr⟩ := pX_drop_44 (N := N - n) (kd := kd) (ky := ky) (by omega) (fun t ht => d5 t (by omega)) 6 0 1000 S0 (by omega) (by omega) i0 (fun t ht => by rw [f0.2 28 (by decide)]; exact d3 t (by omega)) (fun t ht => by rw [f0.2 29 (by decide)]; exact d4 t (by omega)) (fun j' hj' => absurd hj' (by omega)) (fun j' _ hj' => ⟨zA kd ky N, zXR_cg hj' (d8 j' hj').1 (fun k hk => f0.1 k (by
            have := (zoI_a hj').2.2.1 k (List.mem_cons_of_mem _ hk)
            simp only [List.mem_cons, List.not_mem_nil, or_false]
            omega)) (fun k _ => f0.2 k List.not_mem_nil)⟩)
        refine ⟨nI (N - n), S1, _, ?_, eM, ⟨kd, ky, N - n, gu, ac, fe, ea, hb, ⟨⟨(fr.1 0 (by decide)).trans i0, by omega, fun t ht => ?_, fun t ht => ?_, fun t ht => d5 t (by omega), fun t ht => ?_, fun t ht => ?_, g1⟩, ?_, ?_, ?_, ?_, Or.inl ((fr.1 5 (by decide)).trans i5)⟩, hM2⟩⟩
        · rw [← e1, hS0]
          simp (disch := omega) only [fX_X10_drop, h0, ↓zN_eq, zL0, zL1, zL2, zL3, zL4, zL5, zL6, zL7, zL8, zL10, zL16, zL31, zL42, zL63, zL64, zL100, zL200, zL255, zL256, zL1000, zL12345, zL536870912, zI_le, zI_lt, zI_eq, zI_add, zI_sub, zI_mul, zI_neN, zI_Nne, zI_leN, zI_ltN, zI_Nle, zI_Nlt, zI_pred, zI_clamp, zI_div, zI_rem, zin_t, zgd_t, znz_t, if_pos, if_neg, if_true, if_false, Option.bind_some]
        · rw [fr.2 28 (by decide), f0.2 28 (by decide)]; exact d3 t (by omega)
        · rw [fr.2 29 (by decide), f0.2 29 (by decide)]; exact d4 t (by omega)
        · rw [fr.2 30 (by decide), f0.2 30 (by decide)]; exact d6 t (by omega)
        · rw [fr.2 31 (by decide), f0.2 31 (by decide)]; exact d7 t (by omega)
        · rw [fr.1 1 (by decide), f0.1 1 (by decide)]; exact l1
        · rw [fr.1 2 (by decide), f0.1 2 (by decide)]; exact l2
        · rw [fr.1 3 (by decide), f0.1 3 (by decide)]; exact l3
        · rw [fr.1 4 (by decide), f0.1 4 (by decide)]; exact l4
    · have c := pM_in_f (S := zsI SM 7 (nI 0)) (lo := 0) (hi := N) hn (by omega) (by omega) (by omega)
      refine ⟨zN, SX, zsI SM 7 (nI 0), ?_, ?_, fin⟩
      · simp (disch := omega) only [fX_X10_drop, h0, ↓zN_eq, zL0, zL1, zL2, zL3, zL4, zL5, zL6, zL7, zL8, zL10, zL16, zL31, zL42, zL63, zL64, zL100, zL200, zL255, zL256, zL1000, zL12345, zL536870912, zI_le, zI_lt, zI_eq, zI_add, zI_sub, zI_mul, zI_neN, zI_Nne, zI_leN, zI_ltN, zI_Nle, zI_Nlt, zI_pred, zI_clamp, zI_div, zI_rem, zin_t, zgd_t, znz_t, if_pos, if_neg, if_true, if_false, Option.bind_some]
      · simp (disch := omega) only [fM_X11_drop, h2, c, ↓zN_eq, zL0, zL1, zL2, zL3, zL4, zL5, zL6, zL7, zL8, zL10, zL16, zL31, zL42, zL63, zL64, zL100, zL200, zL255, zL256, zL1000, zL12345, zL536870912, zI_le, zI_lt, zI_eq, zI_add, zI_sub, zI_mul, zI_neN, zI_Nne, zI_leN, zI_ltN, zI_Nle, zI_Nlt, zI_pred, zI_clamp, zI_div, zI_rem, zin_t, zgd_t, znz_t, if_pos, if_neg, if_true, if_false, Option.bind_some]

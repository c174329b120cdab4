/-! TREE: ways, by the reference's times and by the class's links -/
def zec (t : Nat) : Int32 := if t < 64 then nI t else zN
theorem zec_lt {t : Nat} (h : t < 64) : zec t = nI t := if_pos h
theorem zec_64 : zec 64 = zN := if_neg (by omega)
def zlw (a : Nat) : Int32 := if a = 0 then zN else nI (a - 1)
theorem zlw_1 (a : Nat) : zlw a + 1 = nI a := by
  unfold zlw
  by_cases h : a = 0
  · rw [if_pos h, h]; decide
  · rw [if_neg h, zL1, zI_add]; congr 1; omega
theorem zlw_s (t : Nat) : zlw (t + 1) = nI t := by unfold zlw; rw [if_neg (by omega), show t + 1 - 1 = t by omega]
def zM3 (tm : Nat → Nat) (clk : Nat) : Prop := clk < 100000 ∧ ∀ j, j < 64 → tm j ≤ clk
theorem pM_top_7 {S : zSt} {tm : Nat → Nat} {clk b : Nat} (hr : zRp (S.2 23) 64 tm) (hc : zM3 tm clk) (hb : b ≤ 64) : ∀ r i c m, r < m → i + r = b → (c = 64 ∨ c < i) → fM_X11_topOf_7 m (nI b) (zec c) (nI i) S = some (zec (zto tm r i c)) := by
  obtain ⟨hc1, hc2⟩ := hc
  have hr' : ∀ j, j < 64 → S.2 23 j = nI (tm j) := hr
  intro r
  induction r with
  | zero =>
    intro i c m hm hi hci
    obtain ⟨m, rfl⟩ : ∃ m', m = m' + 1 := ⟨m - 1, by omega⟩
    rw [show zto tm 0 i c = c from rfl]
    simp (disch := omega) only [fM_X11_topOf_7, ↓zN_eq, zL0, zL1, zL2, zL3, zL4, zL5, zL6, zL7, zL8, zL10, zL16, zL31, zL42, zL63, zL64, zL100, zL200, zL255, zL256, zL1000, zL12345, zL536870912, zI_le, zI_lt, zI_eq, zI_add, zI_sub, zI_mul, zI_neN, zI_Nne, zI_leN, zI_ltN, zI_Nle, zI_Nlt, zI_pred, zI_clamp, zI_div, zI_rem, zin_t, zgd_t, znz_t, if_pos, if_neg, if_true, if_false, Option.bind_some]
  | succ r ih =>
    intro i c m hm hi hci
    obtain ⟨m, rfl⟩ : ∃ m', m = m' + 1 := ⟨m - 1, by omega⟩
    have h1 := hc2 i (by omega)
    unfold zto
    by_cases q : tm i = 0
    · rw [if_pos q, ← ih (i + 1) c m (by omega) (by omega) (by omega)]
      simp (disch := omega) only [fM_X11_topOf_7, hr', ↓zN_eq, zL0, zL1, zL2, zL3, zL4, zL5, zL6, zL7, zL8, zL10, zL16, zL31, zL42, zL63, zL64, zL100, zL200, zL255, zL256, zL1000, zL12345, zL536870912, zI_le, zI_lt, zI_eq, zI_add, zI_sub, zI_mul, zI_neN, zI_Nne, zI_leN, zI_ltN, zI_Nle, zI_Nlt, zI_pred, zI_clamp, zI_div, zI_rem, zin_t, zgd_t, znz_t, if_pos, if_neg, if_true, if_false, Option.bind_some]
    · rw [if_neg q]
      by_cases w : c = 64
      · rw [if_pos w, ← ih (i + 1) i m (by omega) (by omega) (by omega), w, zec_64, zec_lt (show i < 64 by omega)]
        simp (disch := omega) only [fM_X11_topOf_7, fM_X11_topOf_44, hr', ↓zN_eq, zL0, zL1, zL2, zL3, zL4, zL5, zL6, zL7, zL8, zL10, zL16, zL31, zL42, zL63, zL64, zL100, zL200, zL255, zL256, zL1000, zL12345, zL536870912, zI_le, zI_lt, zI_eq, zI_add, zI_sub, zI_mul, zI_neN, zI_Nne, zI_leN, zI_ltN, zI_Nle, zI_Nlt, zI_pred, zI_clamp, zI_div, zI_rem, zin_t, zgd_t, znz_t, if_pos, if_neg, if_true, if_false, Option.bind_some]
      · have hc64 : c < 64 := by omega
        have h2 := hc2 c hc64
        rw [if_neg w]
        by_cases y : tm c ≤ tm i
        · rw [if_pos y, ← ih (i + 1) c m (by omega) (by omega) (by omega), zec_lt hc64]
          simp (disch := omega) only [fM_X11_topOf_7, fM_X11_topOf_44, hr', ↓zN_eq, zL0, zL1, zL2, zL3, zL4, zL5, zL6, zL7, zL8, zL10, zL16, zL31, zL42, zL63, zL64, zL100, zL200, zL255, zL256, zL1000, zL12345, zL536870912, zI_le, zI_lt, zI_eq, zI_add, zI_sub, zI_mul, zI_neN, zI_Nne, zI_leN, zI_ltN, zI_Nle, zI_Nlt, zI_pred, zI_clamp, zI_div, zI_rem, zin_t, zgd_t, znz_t, if_pos, if_neg, if_true, if_false, Option.bind_some]
        · rw [if_neg y, ← ih (i + 1) i m (by omega) (by omega) (by omega), zec_lt hc64, zec_lt (show i < 64 by omega)]
          simp (disch := omega) only [fM_X11_topOf_7, fM_X11_topOf_44, hr', ↓zN_eq, zL0, zL1, zL2, zL3, zL4, zL5, zL6, zL7, zL8, zL10, zL16, zL31, zL42, zL63, zL64, zL100, zL200, zL255, zL256, zL1000, zL12345, zL536870912, zI_le, zI_lt, zI_eq, zI_add, zI_sub, zI_mul, zI_neN, zI_Nne, zI_leN, zI_ltN, zI_Nle, zI_Nlt, zI_pred, zI_clamp, zI_div, zI_rem, zin_t, zgd_t, znz_t, if_pos, if_neg, if_true, if_false, Option.bind_some]
theorem pM_topOf {S : zSt} {tm : Nat → Nat} {clk a b : Nat} (hr : zRp (S.2 23) 64 tm) (hc : zM3 tm clk) (hb : b ≤ 64) (hab : a ≤ b) : fM_X11_topOf (zlw a) (nI b) S = some (zec (ztop tm a b)) := by
  have h := pM_top_7 hr hc hb (b - a) a 64 1000 (by omega) (by omega) (Or.inl rfl)
  unfold fM_X11_topOf
  rw [zN_eq, zlw_1, ← zec_64]
  exact h
theorem pM_way_26 {tm : Nat → Nat} {clk k : Nat} (hc : zM3 tm clk) (hj : zJ tm) (hk : k < 64) : ∀ f a b ab m h S, f < m → b - a < f → zIv tm a b → a ≤ k → k < b → S.1 30 = zlw a → S.1 31 = nI b → zRp (S.2 23) 64 tm → ∃ S', fM_X11_wayTo_26 m (nI k) (nI h) (zec (ztop tm a b)) S = some (nI (h + (zwy tm k f a b ab).1), S') ∧ S'.1 30 = zlw (zwy tm k f a b ab).2.1 ∧ S'.1 31 = nI (zwy tm k f a b ab).2.2.1 ∧ zfr S S' [30, 31] [] := by
  intro f
  induction f with
  | zero => intro a b ab m h S _ h2; omega
  | succ f ih =>
    intro a b ab m h S hm hf hI hk1 hk2 h30 h31 hr
    obtain ⟨m, rfl⟩ : ∃ m', m = m' + 1 := ⟨m - 1, by omega⟩
    have hb := hI.2.1
    have hT := ztop_T (tm := tm) hI.1 hb
    have hle := zT_le hb hT
    unfold zwy
    by_cases q : ztop tm a b = 64
    · rw [if_pos q]
      refine ⟨S, ?_, h30, h31, zfr_rf⟩
      rw [q, zec_64]
      simp (disch := omega) only [fM_X11_wayTo_26, Nat.add_zero, ↓zN_eq, zL0, zL1, zL2, zL3, zL4, zL5, zL6, zL7, zL8, zL10, zL16, zL31, zL42, zL63, zL64, zL100, zL200, zL255, zL256, zL1000, zL12345, zL536870912, zI_le, zI_lt, zI_eq, zI_add, zI_sub, zI_mul, zI_neN, zI_Nne, zI_leN, zI_ltN, zI_Nle, zI_Nlt, zI_pred, zI_clamp, zI_div, zI_rem, zin_t, zgd_t, znz_t, if_pos, if_neg, if_true, if_false, Option.bind_some]
    · rw [if_neg q]
      have ht64 : ztop tm a b < 64 := by omega
      obtain ⟨t1, t2, t3, t4⟩ := zT_lt hb hT ht64
      rw [zec_lt ht64]
      by_cases w : ztop tm a b = k
      · rw [if_pos w]
        refine ⟨S, ?_, h30, h31, zfr_rf⟩
        rw [w]
        simp (disch := omega) only [fM_X11_wayTo_26, ↓zN_eq, zL0, zL1, zL2, zL3, zL4, zL5, zL6, zL7, zL8, zL10, zL16, zL31, zL42, zL63, zL64, zL100, zL200, zL255, zL256, zL1000, zL12345, zL536870912, zI_le, zI_lt, zI_eq, zI_add, zI_sub, zI_mul, zI_neN, zI_Nne, zI_leN, zI_ltN, zI_Nle, zI_Nlt, zI_pred, zI_clamp, zI_div, zI_rem, zin_t, zgd_t, znz_t, if_pos, if_neg, if_true, if_false, Option.bind_some]
      · rw [if_neg w]
        by_cases y : k < ztop tm a b
        · rw [if_pos y]
          obtain ⟨i1, i2⟩ := zIv_l hj hI hT ht64
          have hr2 : zRp ((zsI S 31 (nI (ztop tm a b))).2 23) 64 tm := hr
          have htop := pM_topOf (a := a) hr2 hc (show ztop tm a b ≤ 64 by omega) t1
          obtain ⟨S', e, a1, a2, a3⟩ := ih a (ztop tm a b) (ztop tm a b) m (h + 1) (zsI S 31 (nI (ztop tm a b))) (by omega) (by omega) i1 hk1 y h30 rfl hr2
          refine ⟨S', ?_, a1, a2, zfr_tr (zfr_sI (by decide)) a3⟩
          simp (disch := omega) only [fM_X11_wayTo_26, fM_X11_wayTo_59, zsI_1, h30, htop, ↓zN_eq, zL0, zL1, zL2, zL3, zL4, zL5, zL6, zL7, zL8, zL10, zL16, zL31, zL42, zL63, zL64, zL100, zL200, zL255, zL256, zL1000, zL12345, zL536870912, zI_le, zI_lt, zI_eq, zI_add, zI_sub, zI_mul, zI_neN, zI_Nne, zI_leN, zI_ltN, zI_Nle, zI_Nlt, zI_pred, zI_clamp, zI_div, zI_rem, zin_t, zgd_t, znz_t, if_pos, if_neg, if_true, if_false, Option.bind_some]
          rw [e]; congr 3; omega
        · rw [if_neg y]
          obtain ⟨i1, i2⟩ := zIv_r hj hI hT ht64
          have hr2 : zRp ((zsI S 30 (nI (ztop tm a b))).2 23) 64 tm := hr
          have htop := pM_topOf (a := ztop tm a b + 1) hr2 hc hb (by omega)
          rw [zlw_s] at htop
          obtain ⟨S', e, a1, a2, a3⟩ := ih (ztop tm a b + 1) b (ztop tm a b) m (h + 1) (zsI S 30 (nI (ztop tm a b))) (by omega) (by omega) i1 (by omega) hk2 (zlw_s _).symm h31 hr2
          refine ⟨S', ?_, a1, a2, zfr_tr (zfr_sI (by decide)) a3⟩
          simp (disch := omega) only [fM_X11_wayTo_26, fM_X11_wayTo_59, zsI_1, h31, htop, ↓zN_eq, zL0, zL1, zL2, zL3, zL4, zL5, zL6, zL7, zL8, zL10, zL16, zL31, zL42, zL63, zL64, zL100, zL200, zL255, zL256, zL1000, zL12345, zL536870912, zI_le, zI_lt, zI_eq, zI_add, zI_sub, zI_mul, zI_neN, zI_Nne, zI_leN, zI_ltN, zI_Nle, zI_Nlt, zI_pred, zI_clamp, zI_div, zI_rem, zin_t, zgd_t, znz_t, if_pos, if_neg, if_true, if_false, Option.bind_some]
          rw [e]; congr 3; omega
theorem pM_wayTo {S : zSt} {tm : Nat → Nat} {clk k : Nat} (hr : zRp (S.2 23) 64 tm) (hc : zM3 tm clk) (hj : zJ tm) (hk : k < 64) : ∃ S', fM_X11_wayTo (nI k) S = some (nI (zwy tm k 65 0 64 64).1, S') ∧ S'.1 30 = zlw (zwy tm k 65 0 64 64).2.1 ∧ S'.1 31 = nI (zwy tm k 65 0 64 64).2.2.1 ∧ zfr S S' [30, 31] [] := by
  have hr2 : zRp ((zsI (zsI S 30 (-1)) 31 64).2 23) 64 tm := hr
  have htop := pM_topOf (a := 0) hr2 hc (Nat.le_refl 64) (by omega)
  obtain ⟨S', e, a1, a2, a3⟩ := pM_way_26 hc hj hk 65 0 64 64 1000 0 (zsI (zsI S 30 (-1)) 31 64) (by omega) (by omega) (zIv_all tm) (by omega) hk rfl rfl hr2
  refine ⟨S', ?_, a1, a2, zfr_tr (zfr_tr (S' := zsI S 30 (-1)) (zfr_sI (by decide)) (zfr_sI (by decide))) a3⟩
  unfold fM_X11_wayTo
  rw [show ((-1 : Int32)) = zlw 0 from rfl, show ((64 : Int32)) = nI 64 from rfl] at htop ⊢
  rw [htop, Option.bind_some, zL0]
  rw [Nat.zero_add] at e
  exact e
/-! the class's links -/
def zRl (f : Nat → Int32) (tm l : Nat → Nat) : Prop := ∀ j, j < 64 → 0 < tm j → f j = zec (l j)
theorem pX_isKey {S : zSt} {k : Nat} (hk : k < 64) : fX_X10_isKey (nI k) S = some (nI 1) := by
  simp (disch := omega) only [fX_X10_isKey, ↓zN_eq, zL0, zL1, zL2, zL3, zL4, zL5, zL6, zL7, zL8, zL10, zL16, zL31, zL42, zL63, zL64, zL100, zL200, zL255, zL256, zL1000, zL12345, zL536870912, zI_le, zI_lt, zI_eq, zI_add, zI_sub, zI_mul, zI_neN, zI_Nne, zI_leN, zI_ltN, zI_Nle, zI_Nlt, zI_pred, zI_clamp, zI_div, zI_rem, zin_t, zgd_t, znz_t, if_pos, if_neg, if_true, if_false, Option.bind_some]
theorem pX_isKeyN {S : zSt} : fX_X10_isKey zN S = some (nI 0) := by
  unfold fX_X10_isKey
  rw [if_pos (by decide)]
  rfl
theorem pX_seek_12 {tm l r : Nat → Nat} {root k : Nat} (hL : zLK tm l r root) (hj : zJ tm) (hk : k < 64) : ∀ f a b ab m h S, f < m → b - a < f → zIv tm a b → a ≤ k → k < b → h + (b - a) ≤ 64 → S.1 33 = zec ab → zRl (S.2 40) tm l → zRl (S.2 41) tm r → ∃ S', fX_X9_seek_12 m (nI k) (zec (ztop tm a b)) (nI h) S = some (nI (h + (zwy tm k f a b ab).1), S') ∧ S'.1 33 = zec (zwy tm k f a b ab).2.2.2 ∧ zfr S S' [33] [] := by
  intro f
  induction f with
  | zero => intro a b ab m h S _ h2; omega
  | succ f ih =>
    intro a b ab m h S hm hf hI hk1 hk2 hh h33 hl hr
    obtain ⟨m, rfl⟩ : ∃ m', m = m' + 1 := ⟨m - 1, by omega⟩
    have hb := hI.2.1
    have hT := ztop_T (tm := tm) hI.1 hb
    have hle := zT_le hb hT
    unfold zwy
    by_cases q : ztop tm a b = 64
    · rw [if_pos q]
      refine ⟨S, ?_, h33, zfr_rf⟩
      rw [q, zec_64]
      have h1 := pX_isKeyN (S := S)
      simp (disch := omega) only [fX_X9_seek_12, fX_X9_seek_62, h1, Nat.add_zero, ↓zN_eq, zL0, zL1, zL2, zL3, zL4, zL5, zL6, zL7, zL8, zL10, zL16, zL31, zL42, zL63, zL64, zL100, zL200, zL255, zL256, zL1000, zL12345, zL536870912, zI_le, zI_lt, zI_eq, zI_add, zI_sub, zI_mul, zI_neN, zI_Nne, zI_leN, zI_ltN, zI_Nle, zI_Nlt, zI_pred, zI_clamp, zI_div, zI_rem, zin_t, zgd_t, znz_t, if_pos, if_neg, if_true, if_false, Option.bind_some]
    · rw [if_neg q]
      have ht64 : ztop tm a b < 64 := by omega
      obtain ⟨t1, t2, t3, t4⟩ := zT_lt hb hT ht64
      have h1 := pX_isKey (S := S) ht64
      obtain ⟨lk1, lk2⟩ := hL.2 a b _ hI hT ht64
      have hlv := hl _ ht64 t3
      have hrv := hr _ ht64 t3
      rw [zec_lt ht64]
      by_cases w : ztop tm a b = k
      · rw [if_pos w]
        refine ⟨S, ?_, h33, zfr_rf⟩
        rw [w] at h1 ⊢
        simp (disch := omega) only [fX_X9_seek_12, fX_X9_seek_62, h1, ↓zN_eq, zL0, zL1, zL2, zL3, zL4, zL5, zL6, zL7, zL8, zL10, zL16, zL31, zL42, zL63, zL64, zL100, zL200, zL255, zL256, zL1000, zL12345, zL536870912, zI_le, zI_lt, zI_eq, zI_add, zI_sub, zI_mul, zI_neN, zI_Nne, zI_leN, zI_ltN, zI_Nle, zI_Nlt, zI_pred, zI_clamp, zI_div, zI_rem, zin_t, zgd_t, znz_t, if_pos, if_neg, if_true, if_false, Option.bind_some]
      · rw [if_neg w]
        by_cases y : k < ztop tm a b
        · rw [if_pos y]
          obtain ⟨i1, i2⟩ := zIv_l hj hI hT ht64
          have e2 : l (ztop tm a b) = ztop tm a (ztop tm a b) := zT_uniq hj (by omega) lk1 (ztop_T t1 (by omega))
          obtain ⟨S', e, a1, a3⟩ := ih a (ztop tm a b) (ztop tm a b) m (h + 1) (zsI S 33 (nI (ztop tm a b))) (by omega) (by omega) i1 hk1 y (by omega) (zec_lt ht64).symm hl hr
          refine ⟨S', ?_, a1, zfr_tr (zfr_sI (by decide)) a3⟩
          rw [← e2] at e
          simp (disch := omega) only [fX_X9_seek_12, fX_X9_seek_58, h1, hlv, ↓zN_eq, zL0, zL1, zL2, zL3, zL4, zL5, zL6, zL7, zL8, zL10, zL16, zL31, zL42, zL63, zL64, zL100, zL200, zL255, zL256, zL1000, zL12345, zL536870912, zI_le, zI_lt, zI_eq, zI_add, zI_sub, zI_mul, zI_neN, zI_Nne, zI_leN, zI_ltN, zI_Nle, zI_Nlt, zI_pred, zI_clamp, zI_div, zI_rem, zin_t, zgd_t, znz_t, if_pos, if_neg, if_true, if_false, Option.bind_some]
          rw [e]; congr 3; omega
        · rw [if_neg y]
          obtain ⟨i1, i2⟩ := zIv_r hj hI hT ht64
          have e2 : r (ztop tm a b) = ztop tm (ztop tm a b + 1) b := zT_uniq hj hb lk2 (ztop_T (by omega) hb)
          obtain ⟨S', e, a1, a3⟩ := ih (ztop tm a b + 1) b (ztop tm a b) m (h + 1) (zsI S 33 (nI (ztop tm a b))) (by omega) (by omega) i1 (by omega) hk2 (by omega) (zec_lt ht64).symm hl hr
          refine ⟨S', ?_, a1, zfr_tr (zfr_sI (by decide)) a3⟩
          rw [← e2] at e
          simp (disch := omega) only [fX_X9_seek_12, fX_X9_seek_58, h1, hrv, ↓zN_eq, zL0, zL1, zL2, zL3, zL4, zL5, zL6, zL7, zL8, zL10, zL16, zL31, zL42, zL63, zL64, zL100, zL200, zL255, zL256, zL1000, zL12345, zL536870912, zI_le, zI_lt, zI_eq, zI_add, zI_sub, zI_mul, zI_neN, zI_Nne, zI_leN, zI_ltN, zI_Nle, zI_Nlt, zI_pred, zI_clamp, zI_div, zI_rem, zin_t, zgd_t, znz_t, if_pos, if_neg, if_true, if_false, Option.bind_some]
          rw [e]; congr 3; omega
/-- the class's tree holds the times tm: root, links -/
def zTX (S : zSt) (tm l r : Nat → Nat) (root : Nat) : Prop := S.1 31 = zec root ∧ zRl (S.2 40) tm l ∧ zRl (S.2 41) tm r ∧ zLK tm l r root
theorem pX_tseek {S : zSt} {tm l r : Nat → Nat} {root k : Nat} (h : zTX S tm l r root) (hj : zJ tm) (hk : k < 64) : ∃ S', fX_X9_seek (nI k) S = some (nI (zwy tm k 65 0 64 64).1, S') ∧ S'.1 33 = zec (zwy tm k 65 0 64 64).2.2.2 ∧ zfr S S' [33] [] := by
  obtain ⟨h1, h2, h3, h4⟩ := h
  have e0 : root = ztop tm 0 64 := zT_uniq hj (Nat.le_refl 64) h4.1 (ztop_T (by omega) (Nat.le_refl 64))
  obtain ⟨S', e, a1, a3⟩ := pX_seek_12 h4 hj hk 65 0 64 64 1000 0 (zsI S 33 (-1)) (by omega) (by omega) (zIv_all tm) (by omega) hk (by omega) (by rw [zec_64]; rfl) h2 h3
  refine ⟨S', ?_, a1, zfr_tr (S' := zsI S 33 (-1)) (zfr_sI (by decide)) a3⟩
  unfold fX_X9_seek
  rw [h1, e0, zL0]
  rw [Nat.zero_add] at e
  exact e

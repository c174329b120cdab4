/-! HEAP -/
def zsw (g : Nat → Nat) (p q : Nat) : Nat → Nat := fun j => if j = q then g p else if j = p then g q else g j
def zrs : Nat → (Nat → Nat) → Nat → (Nat → Nat) × Nat
  | 0, g, _ => (g, 0)
  | f + 1, g, p => if p = 0 then (g, 0) else if g ((p - 1) / 2) ≤ g p then (g, 0) else ((zrs f (zsw g p ((p - 1) / 2)) ((p - 1) / 2)).1, (zrs f (zsw g p ((p - 1) / 2)) ((p - 1) / 2)).2 + 1)
def zch (g : Nat → Nat) (m p : Nat) : Nat := if 2 * p + 1 + 1 < m then (if g (2 * p + 1) ≤ g (2 * p + 1 + 1) then 2 * p + 1 else 2 * p + 1 + 1) else 2 * p + 1
def zsk (m : Nat) : Nat → (Nat → Nat) → Nat → (Nat → Nat) × Nat
  | 0, g, _ => (g, 0)
  | f + 1, g, p => if m ≤ 2 * p + 1 then (g, 0) else if g p ≤ g (zch g m p) then (g, 0) else ((zsk m f (zsw g p (zch g m p)) (zch g m p)).1, (zsk m f (zsw g p (zch g m p)) (zch g m p)).2 + 1)
theorem zch_in {g : Nat → Nat} {m p : Nat} (h : 2 * p + 1 < m) : p < zch g m p ∧ zch g m p < m := by
  unfold zch
  by_cases h1 : 2 * p + 1 + 1 < m
  · rw [if_pos h1]
    by_cases h2 : g (2 * p + 1) ≤ g (2 * p + 1 + 1)
    · rw [if_pos h2]; omega
    · rw [if_neg h2]; omega
  · rw [if_neg h1]; omega
theorem zK64_sw {g : Nat → Nat} {n p q : Nat} (h : zK64 g n) (hp : p < n) (hq : q < n) : zK64 (zsw g p q) n := by
  intro j hj
  unfold zsw
  by_cases h1 : j = q
  · rw [if_pos h1]; exact h p hp
  · rw [if_neg h1]
    by_cases h2 : j = p
    · rw [if_pos h2]; exact h q hq
    · rw [if_neg h2]; exact h j hj
theorem zRp_sw {f : Nat → Int32} {g : Nat → Nat} {n p q : Nat} (h : zRp f n g) (hp : p < n) (hq : q < n) : zRp (upd (upd f p (f q)) q (f p)) n (zsw g p q) := by
  intro j hj
  unfold zsw
  by_cases h1 : j = q
  · rw [if_pos h1, h1, pk_us]; exact h p hp
  · rw [if_neg h1, pk_un h1]
    by_cases h2 : j = p
    · rw [if_pos h2, h2, pk_us]; exact h q hq
    · rw [if_neg h2, pk_un h2]; exact h j hj
theorem zK64_rs {n : Nat} : ∀ f g p, p < n → zK64 g n → zK64 (zrs f g p).1 n := by
  intro f
  induction f with
  | zero => intro g p hp h; exact h
  | succ f ih =>
    intro g p hp h
    unfold zrs
    by_cases h1 : p = 0
    · rw [if_pos h1]; exact h
    · rw [if_neg h1]
      by_cases h2 : g ((p - 1) / 2) ≤ g p
      · rw [if_pos h2]; exact h
      · rw [if_neg h2]; exact ih _ _ (by omega) (zK64_sw h hp (by omega))
theorem zK64_sk {n m : Nat} (hm : m ≤ n) : ∀ f g p, p < m → zK64 g n → zK64 (zsk m f g p).1 n := by
  intro f
  induction f with
  | zero => intro g p hp h; exact h
  | succ f ih =>
    intro g p hp h
    unfold zsk
    by_cases h1 : m ≤ 2 * p + 1
    · rw [if_pos h1]; exact h
    · rw [if_neg h1]
      have h3 := zch_in (g := g) (show 2 * p + 1 < m by omega)
      by_cases h2 : g p ≤ g (zch g m p)
      · rw [if_pos h2]; exact h
      · rw [if_neg h2]; exact ih _ _ h3.2 (zK64_sw h (by omega) (by omega))
theorem p_fX_X3_rise_4 {n : Nat} (hn : n ≤ 200) : ∀ f p m S h g, f < m → p ≤ f → p < n → zRp (S.2 36) n g → zK64 g n → ∃ S', fX_X3_rise_4 m (nI p) (nI h) S = some (nI (h + (zrs f g p).2), S') ∧ zRp (S'.2 36) n (zrs f g p).1 ∧ zfr S S' [] [36] := by
  intro f
  induction f with
  | zero =>
    intro p m S h g hm hp hpn hr hg
    obtain ⟨m, rfl⟩ : ∃ m', m = m' + 1 := ⟨m - 1, by omega⟩
    refine ⟨S, ?_, hr, zfr_rf⟩
    rw [show (zrs 0 g p).2 = 0 from rfl]
    simp (disch := omega) only [fX_X3_rise_4, Nat.add_zero, ↓zN_eq, zL0, zL1, zL2, zL3, zL4, zL5, zL6, zL7, zL8, zL10, zL16, zL31, zL42, zL63, zL64, zL100, zL200, zL255, zL256, zL1000, zL12345, zL536870912, zI_le, zI_lt, zI_eq, zI_add, zI_sub, zI_mul, zI_neN, zI_Nne, zI_leN, zI_ltN, zI_Nle, zI_Nlt, zI_pred, zI_clamp, zI_div, zI_rem, zin_t, zgd_t, znz_t, if_pos, if_neg, if_true, if_false, Option.bind_some]
  | succ f ih =>
    intro p m S h g hm hp hpn hr hg
    obtain ⟨m, rfl⟩ : ∃ m', m = m' + 1 := ⟨m - 1, by omega⟩
    have hr' : ∀ j, j < n → S.2 36 j = nI (g j) := hr
    unfold zrs
    by_cases h1 : p = 0
    · refine ⟨S, ?_, ?_, zfr_rf⟩
      · simp (disch := omega) only [fX_X3_rise_4, Nat.add_zero, ↓zN_eq, zL0, zL1, zL2, zL3, zL4, zL5, zL6, zL7, zL8, zL10, zL16, zL31, zL42, zL63, zL64, zL100, zL200, zL255, zL256, zL1000, zL12345, zL536870912, zI_le, zI_lt, zI_eq, zI_add, zI_sub, zI_mul, zI_neN, zI_Nne, zI_leN, zI_ltN, zI_Nle, zI_Nlt, zI_pred, zI_clamp, zI_div, zI_rem, zin_t, zgd_t, znz_t, if_pos, if_neg, if_true, if_false, Option.bind_some]
      · rw [if_pos h1]; exact hr
    · have h3 := hg p hpn
      have h4 := hg ((p - 1) / 2) (by omega)
      by_cases h2 : g ((p - 1) / 2) ≤ g p
      · refine ⟨S, ?_, ?_, zfr_rf⟩
        · simp (disch := omega) only [fX_X3_rise_4, hr', Nat.add_zero, ↓zN_eq, zL0, zL1, zL2, zL3, zL4, zL5, zL6, zL7, zL8, zL10, zL16, zL31, zL42, zL63, zL64, zL100, zL200, zL255, zL256, zL1000, zL12345, zL536870912, zI_le, zI_lt, zI_eq, zI_add, zI_sub, zI_mul, zI_neN, zI_Nne, zI_leN, zI_ltN, zI_Nle, zI_Nlt, zI_pred, zI_clamp, zI_div, zI_rem, zin_t, zgd_t, znz_t, if_pos, if_neg, if_true, if_false, Option.bind_some]
        · rw [if_neg h1, if_pos h2]; exact hr
      · have hs : zRp ((zsR (zsR S 36 p (S.2 36 ((p - 1) / 2))) 36 ((p - 1) / 2) (S.2 36 p)).2 36) n (zsw g p ((p - 1) / 2)) := zRp_sw hr hpn (by omega)
        obtain ⟨S', e, a, b⟩ := ih ((p - 1) / 2) m (zsR (zsR S 36 p (S.2 36 ((p - 1) / 2))) 36 ((p - 1) / 2) (S.2 36 p)) (h + 1) (zsw g p ((p - 1) / 2)) (by omega) (by omega) (by omega) hs (zK64_sw hg hpn (by omega))
        refine ⟨S', ?_, ?_, zfr_tr (zfr_tr (zfr_sR (by decide)) (zfr_sR (by decide))) b⟩
        · simp (disch := omega) only [hr'] at e
          simp (disch := omega) only [fX_X3_rise_4, fX_X3_swap, hr', ↓zN_eq, zL0, zL1, zL2, zL3, zL4, zL5, zL6, zL7, zL8, zL10, zL16, zL31, zL42, zL63, zL64, zL100, zL200, zL255, zL256, zL1000, zL12345, zL536870912, zI_le, zI_lt, zI_eq, zI_add, zI_sub, zI_mul, zI_neN, zI_Nne, zI_leN, zI_ltN, zI_Nle, zI_Nlt, zI_pred, zI_clamp, zI_div, zI_rem, zin_t, zgd_t, znz_t, if_pos, if_neg, if_true, if_false, Option.bind_some]
          rw [e]; congr 3; omega
        · rw [if_neg h1, if_neg h2]; exact a

theorem p_fM_X11_up_4 {n : Nat} (hn : n ≤ 200) : ∀ f p m S h g, f < m → p ≤ f → p < n → zRp (S.2 16) n g → zK64 g n → ∃ S', fM_X11_up_4 m (nI p) (nI h) S = some (nI (h + (zrs f g p).2), S') ∧ zRp (S'.2 16) n (zrs f g p).1 ∧ zfr S S' [] [16] := by
  intro f
  induction f with
  | zero =>
    intro p m S h g hm hp hpn hr hg
    obtain ⟨m, rfl⟩ : ∃ m', m = m' + 1 := ⟨m - 1, by omega⟩
    refine ⟨S, ?_, hr, zfr_rf⟩
    rw [show (zrs 0 g p).2 = 0 from rfl]
    simp (disch := omega) only [fM_X11_up_4, Nat.add_zero, ↓zN_eq, zL0, zL1, zL2, zL3, zL4, zL5, zL6, zL7, zL8, zL10, zL16, zL31, zL42, zL63, zL64, zL100, zL200, zL255, zL256, zL1000, zL12345, zL536870912, zI_le, zI_lt, zI_eq, zI_add, zI_sub, zI_mul, zI_neN, zI_Nne, zI_leN, zI_ltN, zI_Nle, zI_Nlt, zI_pred, zI_clamp, zI_div, zI_rem, zin_t, zgd_t, znz_t, if_pos, if_neg, if_true, if_false, Option.bind_some]
  | succ f ih =>
    intro p m S h g hm hp hpn hr hg
    obtain ⟨m, rfl⟩ : ∃ m', m = m' + 1 := ⟨m - 1, by omega⟩
    have hr' : ∀ j, j < n → S.2 16 j = nI (g j) := hr
    unfold zrs
    by_cases h1 : p = 0
    · refine ⟨S, ?_, ?_, zfr_rf⟩
      · simp (disch := omega) only [fM_X11_up_4, Nat.add_zero, ↓zN_eq, zL0, zL1, zL2, zL3, zL4, zL5, zL6, zL7, zL8, zL10, zL16, zL31, zL42, zL63, zL64, zL100, zL200, zL255, zL256, zL1000, zL12345, zL536870912, zI_le, zI_lt, zI_eq, zI_add, zI_sub, zI_mul, zI_neN, zI_Nne, zI_leN, zI_ltN, zI_Nle, zI_Nlt, zI_pred, zI_clamp, zI_div, zI_rem, zin_t, zgd_t, znz_t, if_pos, if_neg, if_true, if_false, Option.bind_some]
      · rw [if_pos h1]; exact hr
    · have h3 := hg p hpn
      have h4 := hg ((p - 1) / 2) (by omega)
      by_cases h2 : g ((p - 1) / 2) ≤ g p
      · refine ⟨S, ?_, ?_, zfr_rf⟩
        · simp (disch := omega) only [fM_X11_up_4, hr', Nat.add_zero, ↓zN_eq, zL0, zL1, zL2, zL3, zL4, zL5, zL6, zL7, zL8, zL10, zL16, zL31, zL42, zL63, zL64, zL100, zL200, zL255, zL256, zL1000, zL12345, zL536870912, zI_le, zI_lt, zI_eq, zI_add, zI_sub, zI_mul, zI_neN, zI_Nne, zI_leN, zI_ltN, zI_Nle, zI_Nlt, zI_pred, zI_clamp, zI_div, zI_rem, zin_t, zgd_t, znz_t, if_pos, if_neg, if_true, if_false, Option.bind_some]
        · rw [if_neg h1, if_pos h2]; exact hr
      · have hs : zRp ((zsR (zsR S 16 p (S.2 16 ((p - 1) / 2))) 16 ((p - 1) / 2) (S.2 16 p)).2 16) n (zsw g p ((p - 1) / 2)) := zRp_sw hr hpn (by omega)
        obtain ⟨S', e, a, b⟩ := ih ((p - 1) / 2) m (zsR (zsR S 16 p (S.2 16 ((p - 1) / 2))) 16 ((p - 1) / 2) (S.2 16 p)) (h + 1) (zsw g p ((p - 1) / 2)) (by omega) (by omega) (by omega) hs (zK64_sw hg hpn (by omega))
        refine ⟨S', ?_, ?_, zfr_tr (zfr_tr (zfr_sR (by decide)) (zfr_sR (by decide))) b⟩
        · simp (disch := omega) only [hr'] at e
          simp (disch := omega) only [fM_X11_up_4, zsR_1, hr', ↓zN_eq, zL0, zL1, zL2, zL3, zL4, zL5, zL6, zL7, zL8, zL10, zL16, zL31, zL42, zL63, zL64, zL100, zL200, zL255, zL256, zL1000, zL12345, zL536870912, zI_le, zI_lt, zI_eq, zI_add, zI_sub, zI_mul, zI_neN, zI_Nne, zI_leN, zI_ltN, zI_Nle, zI_Nlt, zI_pred, zI_clamp, zI_div, zI_rem, zin_t, zgd_t, znz_t, if_pos, if_neg, if_true, if_false, Option.bind_some]
          rw [e]; congr 3; omega
        · rw [if_neg h1, if_neg h2]; exact a

theorem pX_child {S : zSt} {n m p : Nat} {g : Nat → Nat} (hz : S.1 30 = nI m) (hm : m ≤ n) (hn : n ≤ 200) (hr : zRp (S.2 36) n g) (hg : zK64 g n) (hp : p < m) : fX_X3_lesserChild (nI p) S = some (if 2 * p + 1 < m then nI (zch g m p) else zN) := by
  have hr' : ∀ j, j < n → S.2 36 j = nI (g j) := hr
  by_cases h1 : 2 * p + 1 < m
  · rw [if_pos h1]
    have b1 := hg (2 * p + 1) (by omega)
    by_cases h2 : 2 * p + 1 + 1 < m
    · have b2 := hg (2 * p + 1 + 1) (by omega)
      by_cases h3 : g (2 * p + 1) ≤ g (2 * p + 1 + 1)
      · simp (disch := omega) only [fX_X3_lesserChild, hz, hr', zch, ↓zN_eq, zL0, zL1, zL2, zL3, zL4, zL5, zL6, zL7, zL8, zL10, zL16, zL31, zL42, zL63, zL64, zL100, zL200, zL255, zL256, zL1000, zL12345, zL536870912, zI_le, zI_lt, zI_eq, zI_add, zI_sub, zI_mul, zI_neN, zI_Nne, zI_leN, zI_ltN, zI_Nle, zI_Nlt, zI_pred, zI_clamp, zI_div, zI_rem, zin_t, zgd_t, znz_t, if_pos, if_neg, if_true, if_false, Option.bind_some]
      · simp (disch := omega) only [fX_X3_lesserChild, hz, hr', zch, ↓zN_eq, zL0, zL1, zL2, zL3, zL4, zL5, zL6, zL7, zL8, zL10, zL16, zL31, zL42, zL63, zL64, zL100, zL200, zL255, zL256, zL1000, zL12345, zL536870912, zI_le, zI_lt, zI_eq, zI_add, zI_sub, zI_mul, zI_neN, zI_Nne, zI_leN, zI_ltN, zI_Nle, zI_Nlt, zI_pred, zI_clamp, zI_div, zI_rem, zin_t, zgd_t, znz_t, if_pos, if_neg, if_true, if_false, Option.bind_some]
    · simp (disch := omega) only [fX_X3_lesserChild, hz, hr', zch, ↓zN_eq, zL0, zL1, zL2, zL3, zL4, zL5, zL6, zL7, zL8, zL10, zL16, zL31, zL42, zL63, zL64, zL100, zL200, zL255, zL256, zL1000, zL12345, zL536870912, zI_le, zI_lt, zI_eq, zI_add, zI_sub, zI_mul, zI_neN, zI_Nne, zI_leN, zI_ltN, zI_Nle, zI_Nlt, zI_pred, zI_clamp, zI_div, zI_rem, zin_t, zgd_t, znz_t, if_pos, if_neg, if_true, if_false, Option.bind_some]
  · rw [if_neg h1]
    simp (disch := omega) only [fX_X3_lesserChild, hz, ↓zN_eq, zL0, zL1, zL2, zL3, zL4, zL5, zL6, zL7, zL8, zL10, zL16, zL31, zL42, zL63, zL64, zL100, zL200, zL255, zL256, zL1000, zL12345, zL536870912, zI_le, zI_lt, zI_eq, zI_add, zI_sub, zI_mul, zI_neN, zI_Nne, zI_leN, zI_ltN, zI_Nle, zI_Nlt, zI_pred, zI_clamp, zI_div, zI_rem, zin_t, zgd_t, znz_t, if_pos, if_neg, if_true, if_false, Option.bind_some]
theorem p_sink_11 {n m : Nat} (hm : m ≤ n) (hn : n ≤ 200) : ∀ f p u S h g, f < u → m ≤ f + p → p < m → h ≤ p → S.1 30 = nI m → zRp (S.2 36) n g → zK64 g n → ∃ S', fX_X3_sink_11 u (nI p) (if 2 * p + 1 < m then nI (zch g m p) else zN) (nI h) S = some (nI (h + (zsk m f g p).2), S') ∧ zRp (S'.2 36) n (zsk m f g p).1 ∧ zfr S S' [] [36] := by
  intro f
  induction f with
  | zero => intro p u S h g h1 h2 h3; exact absurd h2 (by omega)
  | succ f ih =>
    intro p u S h g h1 h2 h3 h4 hz hr hg
    obtain ⟨u, rfl⟩ : ∃ m', u = m' + 1 := ⟨u - 1, by omega⟩
    have hr' : ∀ j, j < n → S.2 36 j = nI (g j) := hr
    unfold zsk
    by_cases h5 : m ≤ 2 * p + 1
    · refine ⟨S, ?_, ?_, zfr_rf⟩
      · rw [if_neg (by omega)]
        simp (disch := omega) only [fX_X3_sink_11, hz, Nat.add_zero, ↓zN_eq, zL0, zL1, zL2, zL3, zL4, zL5, zL6, zL7, zL8, zL10, zL16, zL31, zL42, zL63, zL64, zL100, zL200, zL255, zL256, zL1000, zL12345, zL536870912, zI_le, zI_lt, zI_eq, zI_add, zI_sub, zI_mul, zI_neN, zI_Nne, zI_leN, zI_ltN, zI_Nle, zI_Nlt, zI_pred, zI_clamp, zI_div, zI_rem, zin_t, zgd_t, znz_t, if_pos, if_neg, if_true, if_false, Option.bind_some]
      · rw [if_pos h5]; exact hr
    · have hc := zch_in (g := g) (show 2 * p + 1 < m by omega)
      have b1 := hg p (by omega)
      have b2 := hg (zch g m p) (by omega)
      rw [if_pos (show 2 * p + 1 < m by omega)]
      by_cases h6 : g p ≤ g (zch g m p)
      · refine ⟨S, ?_, ?_, zfr_rf⟩
        · simp (disch := omega) only [fX_X3_sink_11, hz, hr', Nat.add_zero, ↓zN_eq, zL0, zL1, zL2, zL3, zL4, zL5, zL6, zL7, zL8, zL10, zL16, zL31, zL42, zL63, zL64, zL100, zL200, zL255, zL256, zL1000, zL12345, zL536870912, zI_le, zI_lt, zI_eq, zI_add, zI_sub, zI_mul, zI_neN, zI_Nne, zI_leN, zI_ltN, zI_Nle, zI_Nlt, zI_pred, zI_clamp, zI_div, zI_rem, zin_t, zgd_t, znz_t, if_pos, if_neg, if_true, if_false, Option.bind_some]
        · rw [if_neg h5, if_pos h6]; exact hr
      · have hs : zRp ((zsR (zsR S 36 p (S.2 36 (zch g m p))) 36 (zch g m p) (S.2 36 p)).2 36) n (zsw g p (zch g m p)) := zRp_sw hr (by omega) (by omega)
        have hg2 := zK64_sw hg (show p < n by omega) (show zch g m p < n by omega)
        have hch := pX_child (S := zsR (zsR S 36 p (S.2 36 (zch g m p))) 36 (zch g m p) (S.2 36 p)) hz hm hn hs hg2 hc.2
        obtain ⟨S', e, a, b⟩ := ih (zch g m p) u (zsR (zsR S 36 p (S.2 36 (zch g m p))) 36 (zch g m p) (S.2 36 p)) (h + 1) (zsw g p (zch g m p)) (by omega) (by omega) (by omega) (by omega) hz hs hg2
        refine ⟨S', ?_, ?_, zfr_tr (zfr_tr (zfr_sR (by decide)) (zfr_sR (by decide))) b⟩
        · simp (disch := omega) only [hr'] at e hch
          simp (disch := omega) only [fX_X3_sink_11, fX_X3_swap, hz, hr', hch, ↓zN_eq, zL0, zL1, zL2, zL3, zL4, zL5, zL6, zL7, zL8, zL10, zL16, zL31, zL42, zL63, zL64, zL100, zL200, zL255, zL256, zL1000, zL12345, zL536870912, zI_le, zI_lt, zI_eq, zI_add, zI_sub, zI_mul, zI_neN, zI_Nne, zI_leN, zI_ltN, zI_Nle, zI_Nlt, zI_pred, zI_clamp, zI_div, zI_rem, zin_t, zgd_t, znz_t, if_pos, if_neg, if_true, if_false, Option.bind_some]
          rw [e]; congr 3; omega
        · rw [if_neg h5, if_neg h6]; exact a
theorem p_down_key {n m p h u : Nat} {g : Nat → Nat} {S : zSt} (hm : m ≤ n) (hn : n ≤ 200) (hr : zRp (S.2 16) n g) (hg : zK64 g n) (h1 : 2 * p + 1 < m) : fM_X11_down_5 (u + 1) (nI m) (nI p) (nI h) S = fM_X11_down_51 (fM_X11_down_5 u) (nI m) (nI p) (nI h) (nI (zch g m p)) S := by
  have hr' : ∀ j, j < n → S.2 16 j = nI (g j) := hr
  have c1 := hg (2 * p + 1) (by omega)
  rw [fM_X11_down_5]
  generalize fM_X11_down_51 (fM_X11_down_5 u) = K
  rw [show (2 * nI p + 1 : Int32) = nI (2 * p + 1) by rw [zL2, zL1, zI_mul, zI_add], show (nI (2 * p + 1) + 1 : Int32) = nI (2 * p + 1 + 1) by rw [zL1, zI_add]]
  generalize hA : K (nI m) (nI p) (nI h) (nI (2 * p + 1)) S = QA
  generalize hB : K (nI m) (nI p) (nI h) (nI (2 * p + 1 + 1)) S = QB
  unfold zch
  by_cases h7 : 2 * p + 1 + 1 < m
  · have c2 := hg (2 * p + 1 + 1) (by omega)
    rw [if_pos ((nI_ltI (by omega) (by omega)).mpr h1), if_neg (fun q => by have := (nI_leI (by omega) (by omega)).mp q; omega), zin_t (by omega) (by omega), zgd_t, zin_t (by omega) (by omega), zgd_t, zI_clamp (by omega), zI_clamp (by omega), hr' _ (by omega), hr' _ (by omega)]
    by_cases h8 : g (2 * p + 1) ≤ g (2 * p + 1 + 1)
    · rw [if_pos h7, if_pos h8, hA, if_pos ((nI_leI (by omega) (by omega)).mpr h8)]
    · rw [if_pos h7, if_neg h8, hB, if_neg (fun q => h8 ((nI_leI (by omega) (by omega)).mp q))]
  · rw [if_neg h7, hA]
    simp (disch := omega) only [hr', ↓zN_eq, zL0, zL1, zL2, zL3, zL4, zL5, zL6, zL7, zL8, zL10, zL16, zL31, zL42, zL63, zL64, zL100, zL200, zL255, zL256, zL1000, zL12345, zL536870912, zI_le, zI_lt, zI_eq, zI_add, zI_sub, zI_mul, zI_neN, zI_Nne, zI_leN, zI_ltN, zI_Nle, zI_Nlt, zI_pred, zI_clamp, zI_div, zI_rem, zin_t, zgd_t, znz_t, if_pos, if_neg, if_true, if_false, Option.bind_some]
theorem p_down_5 {n m : Nat} (hm : m ≤ n) (hn : n ≤ 200) : ∀ f p u S h g, f < u → m ≤ f + p → p < m → zRp (S.2 16) n g → zK64 g n → ∃ S', fM_X11_down_5 u (nI m) (nI p) (nI h) S = some (nI (h + (zsk m f g p).2), S') ∧ zRp (S'.2 16) n (zsk m f g p).1 ∧ zfr S S' [] [16] := by
  intro f
  induction f with
  | zero => intro p u S h g h1 h2 h3; exact absurd h2 (by omega)
  | succ f ih =>
    intro p u S h g h1 h2 h3 hr hg
    obtain ⟨u, rfl⟩ : ∃ m', u = m' + 1 := ⟨u - 1, by omega⟩
    have hr' : ∀ j, j < n → S.2 16 j = nI (g j) := hr
    unfold zsk
    by_cases h5 : m ≤ 2 * p + 1
    · refine ⟨S, ?_, ?_, zfr_rf⟩
      · simp (disch := omega) only [fM_X11_down_5, Nat.add_zero, ↓zN_eq, zL0, zL1, zL2, zL3, zL4, zL5, zL6, zL7, zL8, zL10, zL16, zL31, zL42, zL63, zL64, zL100, zL200, zL255, zL256, zL1000, zL12345, zL536870912, zI_le, zI_lt, zI_eq, zI_add, zI_sub, zI_mul, zI_neN, zI_Nne, zI_leN, zI_ltN, zI_Nle, zI_Nlt, zI_pred, zI_clamp, zI_div, zI_rem, zin_t, zgd_t, znz_t, if_pos, if_neg, if_true, if_false, Option.bind_some]
      · rw [if_pos h5]; exact hr
    · have hc := zch_in (g := g) (show 2 * p + 1 < m by omega)
      have b1 := hg p (by omega)
      have b2 := hg (zch g m p) (by omega)
      have key := p_down_key (h := h) (u := u) hm hn hr hg (show 2 * p + 1 < m by omega)
      rw [key]
      by_cases h6 : g p ≤ g (zch g m p)
      · refine ⟨S, ?_, ?_, zfr_rf⟩
        · generalize fM_X11_down_5 u = K
          simp (disch := omega) only [fM_X11_down_51, hr', Nat.add_zero, ↓zN_eq, zL0, zL1, zL2, zL3, zL4, zL5, zL6, zL7, zL8, zL10, zL16, zL31, zL42, zL63, zL64, zL100, zL200, zL255, zL256, zL1000, zL12345, zL536870912, zI_le, zI_lt, zI_eq, zI_add, zI_sub, zI_mul, zI_neN, zI_Nne, zI_leN, zI_ltN, zI_Nle, zI_Nlt, zI_pred, zI_clamp, zI_div, zI_rem, zin_t, zgd_t, znz_t, if_pos, if_neg, if_true, if_false, Option.bind_some]
        · rw [if_neg h5, if_pos h6]; exact hr
      · have hs : zRp ((zsR (zsR S 16 p (S.2 16 (zch g m p))) 16 (zch g m p) (S.2 16 p)).2 16) n (zsw g p (zch g m p)) := zRp_sw hr (by omega) (by omega)
        have hg2 := zK64_sw hg (show p < n by omega) (show zch g m p < n by omega)
        obtain ⟨S', e, a, b⟩ := ih (zch g m p) u (zsR (zsR S 16 p (S.2 16 (zch g m p))) 16 (zch g m p) (S.2 16 p)) (h + 1) (zsw g p (zch g m p)) (by omega) (by omega) (by omega) hs hg2
        refine ⟨S', ?_, ?_, zfr_tr (zfr_tr (zfr_sR (by decide)) (zfr_sR (by decide))) b⟩
        · simp (disch := omega) only [hr'] at e
          revert e
          generalize fM_X11_down_5 u = K
          intro e
          simp (disch := omega) only [fM_X11_down_51, hr', ↓zN_eq, zL0, zL1, zL2, zL3, zL4, zL5, zL6, zL7, zL8, zL10, zL16, zL31, zL42, zL63, zL64, zL100, zL200, zL255, zL256, zL1000, zL12345, zL536870912, zI_le, zI_lt, zI_eq, zI_add, zI_sub, zI_mul, zI_neN, zI_Nne, zI_leN, zI_ltN, zI_Nle, zI_Nlt, zI_pred, zI_clamp, zI_div, zI_rem, zin_t, zgd_t, znz_t, if_pos, if_neg, if_true, if_false, Option.bind_some]
          rw [e]; congr 3; omega
        · rw [if_neg h5, if_neg h6]; exact a

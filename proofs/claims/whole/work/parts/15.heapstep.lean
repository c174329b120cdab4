/-! HEAP: what a call does -/
def zhq (g : Nat → Nat) (n q : Nat) : Nat → Nat := fun j => if j = q then g (n - 1) else g j
def zhr (g : Nat → Nat) (n q : Nat) : (Nat → Nat) × Nat := zrs q (zhq g n q) q
def zhk (g : Nat → Nat) (n q : Nat) : (Nat → Nat) × Nat := if (zhr g n q).2 = 0 then zsk (n - 1) n (zhr g n q).1 q else zhr g n q
def zhpG (kd ky n : Nat) (g : Nat → Nat) : Nat → Nat := if kd = 0 then (zrs n (zins g n ky) n).1 else if kd = 2 then (if zpl g ky n 0 < n then (if zpl g ky n 0 = n - 1 then g else (zhk g n (zpl g ky n 0)).1) else g) else g
def zhpC (kd ky n c : Nat) (g : Nat → Nat) : Nat := if kd = 0 then zgr n c + 1 + (zrs n (zins g n ky) n).2 else if kd = 1 then (if zpl g ky n 0 < n then zpl g ky n 0 + 1 else n) else if kd = 2 then (if zpl g ky n 0 < n then (if zpl g ky n 0 = n - 1 then zpl g ky n 0 + 1 else zpl g ky n 0 + 1 + (zhk g n (zpl g ky n 0)).2) else n) else if kd = 4 then 1 else if kd = 6 then 0 else n
theorem zK64_ins {g : Nat → Nat} {n p k : Nat} (h : zK64 g n) (hp : p ≤ n) (hk : k < 64) : zK64 (zins g p k) (n + 1) := by
  intro j hj
  unfold zins
  by_cases h1 : j < p
  · rw [if_pos h1]; exact h j (by omega)
  · rw [if_neg h1]
    by_cases h2 : j = p
    · rw [if_pos h2]; exact hk
    · rw [if_neg h2]; exact h (j - 1) (by omega)
theorem zK64_del {g : Nat → Nat} {n p : Nat} (h : zK64 g n) : zK64 (zdel g p) (n - 1) := by
  intro j hj
  unfold zdel
  by_cases h1 : j < p
  · rw [if_pos h1]; exact h j (by omega)
  · rw [if_neg h1]; exact h (j + 1) (by omega)
theorem zK64_hq {g : Nat → Nat} {n q : Nat} (h : zK64 g n) (hq : q < n) : zK64 (zhq g n q) n := by
  intro j hj
  unfold zhq
  by_cases h1 : j = q
  · rw [if_pos h1]; exact h (n - 1) (by omega)
  · rw [if_neg h1]; exact h j hj
theorem zRp_le {f : Nat → Int32} {n m : Nat} {g : Nat → Nat} (h : zRp f n g) (hm : m ≤ n) : zRp f m g := fun j hj => h j (by omega)
theorem zRp_hq {f : Nat → Int32} {g : Nat → Nat} {n q : Nat} (h : zRp f n g) (hq : q < n) : zRp (upd f q (f (n - 1))) n (zhq g n q) := by
  intro j hj
  unfold zhq
  by_cases h1 : j = q
  · rw [if_pos h1, h1, pk_us]; exact h (n - 1) (by omega)
  · rw [if_neg h1, pk_un h1]; exact h j hj
theorem zrs_le : ∀ f g p, (zrs f g p).2 ≤ f := by
  intro f
  induction f with
  | zero => intro g p; exact Nat.le_refl _
  | succ f ih =>
    intro g p
    unfold zrs
    by_cases h1 : p = 0
    · rw [if_pos h1]; exact Nat.zero_le _
    · rw [if_neg h1]
      by_cases h2 : g ((p - 1) / 2) ≤ g p
      · rw [if_pos h2]; exact Nat.zero_le _
      · rw [if_neg h2]; have := ih (zsw g p ((p - 1) / 2)) ((p - 1) / 2); dsimp only; omega
theorem zsk_le {m : Nat} : ∀ f g p, (zsk m f g p).2 ≤ f := by
  intro f
  induction f with
  | zero => intro g p; exact Nat.le_refl _
  | succ f ih =>
    intro g p
    unfold zsk
    by_cases h1 : m ≤ 2 * p + 1
    · rw [if_pos h1]; exact Nat.zero_le _
    · rw [if_neg h1]
      by_cases h2 : g p ≤ g (zch g m p)
      · rw [if_pos h2]; exact Nat.zero_le _
      · rw [if_neg h2]; have := ih (zsw g p (zch g m p)) (zch g m p); dsimp only; omega
theorem zhk_le {g : Nat → Nat} {n q : Nat} (hq : q < n) : (zhk g n q).2 ≤ n := by
  unfold zhk
  by_cases h : (zhr g n q).2 = 0
  · rw [if_pos h]; exact zsk_le _ _ _
  · rw [if_neg h]; have := zrs_le q (zhq g n q) q; unfold zhr; omega
theorem pX_Heap_rise {S : zSt} {n p : Nat} {g : Nat → Nat} (hn : n ≤ 200) (hp : p < n) (hr : zRp (S.2 36) n g) (hg : zK64 g n) : ∃ S', fX_X3_rise (nI p) S = some (nI (zrs p g p).2, S') ∧ zRp (S'.2 36) n (zrs p g p).1 ∧ zfr S S' [] [36] := by
  obtain ⟨S', e, a, b⟩ := p_fX_X3_rise_4 hn p p 1000 S 0 g (by omega) (Nat.le_refl p) hp hr hg
  rw [Nat.zero_add] at e
  exact ⟨S', e, a, b⟩
theorem pM_Heap_up {S : zSt} {n p : Nat} {g : Nat → Nat} (hn : n ≤ 200) (hp : p < n) (hr : zRp (S.2 16) n g) (hg : zK64 g n) : ∃ S', fM_X11_up (nI p) S = some (nI (zrs p g p).2, S') ∧ zRp (S'.2 16) n (zrs p g p).1 ∧ zfr S S' [] [16] := by
  obtain ⟨S', e, a, b⟩ := p_fM_X11_up_4 hn p p 1000 S 0 g (by omega) (Nat.le_refl p) hp hr hg
  rw [Nat.zero_add] at e
  exact ⟨S', e, a, b⟩
theorem pX_Heap_sink {S : zSt} {n m p : Nat} {g : Nat → Nat} (hz : S.1 30 = nI m) (hm : m ≤ n) (hn : n ≤ 200) (hp : p < m) (hr : zRp (S.2 36) n g) (hg : zK64 g n) : ∃ S', fX_X3_sink (nI p) S = some (nI (zsk m n g p).2, S') ∧ zRp (S'.2 36) n (zsk m n g p).1 ∧ zfr S S' [] [36] := by
  have hc := pX_child hz hm hn hr hg hp
  obtain ⟨S', e, a, b⟩ := p_sink_11 hm hn n p 1000 S 0 g (by omega) (by omega) hp (Nat.zero_le _) hz hr hg
  rw [Nat.zero_add] at e
  refine ⟨S', ?_, a, b⟩
  unfold fX_X3_sink
  rw [hc, Option.bind_some, zL0]
  exact e
theorem pM_Heap_down {S : zSt} {n m p : Nat} {g : Nat → Nat} (hm : m ≤ n) (hn : n ≤ 200) (hp : p < m) (hr : zRp (S.2 16) n g) (hg : zK64 g n) : ∃ S', fM_X11_down (nI p) (nI m) S = some (nI (zsk m n g p).2, S') ∧ zRp (S'.2 16) n (zsk m n g p).1 ∧ zfr S S' [] [16] := by
  obtain ⟨S', e, a, b⟩ := p_down_5 hm hn n p 1000 S 0 g (by omega) (by omega) hp hr hg
  rw [Nat.zero_add] at e
  exact ⟨S', e, a, b⟩
theorem pX_Heap_step {S : zSt} {n c kd ky : Nat} {g : Nat → Nat} (hz : S.1 30 = nI n) (hw : S.1 29 = nI c) (hn : n ≤ 200) (hc : c < 1000) (hr : zRp (S.2 36) n g) (hg : zK64 g n) (hd : kd < 8) (hk : ky < 64) (h0 : kd = 0 → n < 200) :
    ∃ S', fX_X3_step (nI kd) (nI ky) S = some (nI (zhpC kd ky n c g), S') ∧ S'.1 30 = nI (znx kd (zpl g ky n 0 < n) n) ∧ S'.1 29 = nI (zcap kd n c) ∧ zRp (S'.2 36) (znx kd (zpl g ky n 0 < n) n) (zhpG kd ky n g) ∧ zfr S S' [30, 29] [36] := by
  have hp := pX_placeOf_Heap hz hn hr hg hk
  have hle := (zpl_le g ky n 0).2
  rcases z8 hd with rfl | rfl | rfl | rfl | rfl | rfl | rfl | rfl
  · have h5 := h0 rfl
    obtain ⟨S1, e1, a1, b1⟩ := pX_grow_Heap hz hw hn hc
    have h3 : S1.1 30 = nI n := (zfr_i b1 (by decide)).trans hz
    have h4 : zRp (S1.2 36) n g := by rw [zfr_r b1 (by decide)]; exact hr
    obtain ⟨S2, e2, a2, b2, c2⟩ := pX_insert_Heap (k := ky) h3 h5 h4 (Nat.le_refl n)
    obtain ⟨S3, e3, a3, b3⟩ := pX_Heap_rise (n := n + 1) (p := n) (by omega) (by omega) b2 (zK64_ins hg (Nat.le_refl n) hk)
    refine ⟨S3, ?_, (zfr_i b3 (by decide)).trans a2, ?_, a3, ?_⟩
    · have h6 : nI (n + 1) - 1 = nI n := nI_pred n
      simp (disch := omega) only [fX_X3_step, fX_X4_append_Heap, e1, h3, e2, a2, h6, zhpC, zgr, ↓zN_eq, zL0, zL1, zL2, zL3, zL4, zL5, zL6, zL7, zL8, zL10, zL16, zL31, zL42, zL63, zL64, zL100, zL200, zL255, zL256, zL1000, zL12345, zL536870912, zI_le, zI_lt, zI_eq, zI_add, zI_sub, zI_mul, zI_neN, zI_Nne, zI_leN, zI_ltN, zI_Nle, zI_Nlt, zI_pred, zI_clamp, zI_div, zI_rem, zin_t, zgd_t, znz_t, if_pos, if_neg, if_true, if_false, Option.bind_some]
      rw [show n + 1 - 1 = n by omega, e3]
      simp (disch := omega) only [↓zN_eq, zL0, zL1, zL2, zL3, zL4, zL5, zL6, zL7, zL8, zL10, zL16, zL31, zL42, zL63, zL64, zL100, zL200, zL255, zL256, zL1000, zL12345, zL536870912, zI_le, zI_lt, zI_eq, zI_add, zI_sub, zI_mul, zI_neN, zI_Nne, zI_leN, zI_ltN, zI_Nle, zI_Nlt, zI_pred, zI_clamp, zI_div, zI_rem, zin_t, zgd_t, znz_t, if_pos, if_neg, if_true, if_false, Option.bind_some]
    · rw [zfr_i b3 (by decide), zfr_i c2 (by decide), a1]; rfl
    · exact zfr_tr (zfr_tr (zfr_mono b1 (by decide) (by decide)) (zfr_mono c2 (by decide) (by decide))) (zfr_mono b3 (by decide) (by decide))
  · refine ⟨S, ?_, hz, hw, hr, zfr_rf⟩
    by_cases h : zpl g ky n 0 < n
    · rw [if_pos h] at hp
      simp (disch := omega) only [fX_X3_step, fX_X4_stepsTo_Heap, hp, zhpC, ↓zN_eq, zL0, zL1, zL2, zL3, zL4, zL5, zL6, zL7, zL8, zL10, zL16, zL31, zL42, zL63, zL64, zL100, zL200, zL255, zL256, zL1000, zL12345, zL536870912, zI_le, zI_lt, zI_eq, zI_add, zI_sub, zI_mul, zI_neN, zI_Nne, zI_leN, zI_ltN, zI_Nle, zI_Nlt, zI_pred, zI_clamp, zI_div, zI_rem, zin_t, zgd_t, znz_t, if_pos, if_neg, if_true, if_false, Option.bind_some]
    · rw [if_neg h] at hp
      simp (disch := omega) only [fX_X3_step, fX_X4_stepsTo_Heap, hp, zhpC, hz, ↓zN_eq, zL0, zL1, zL2, zL3, zL4, zL5, zL6, zL7, zL8, zL10, zL16, zL31, zL42, zL63, zL64, zL100, zL200, zL255, zL256, zL1000, zL12345, zL536870912, zI_le, zI_lt, zI_eq, zI_add, zI_sub, zI_mul, zI_neN, zI_Nne, zI_leN, zI_ltN, zI_Nle, zI_Nlt, zI_pred, zI_clamp, zI_div, zI_rem, zin_t, zgd_t, znz_t, if_pos, if_neg, if_true, if_false, Option.bind_some]
  · by_cases h : zpl g ky n 0 < n
    · rw [if_pos h] at hp
      have hnx : znx 2 (zpl g ky n 0 < n) n = n - 1 := by unfold znx; rw [if_neg (by decide), if_pos rfl, if_pos h]
      rw [hnx]
      by_cases h1 : zpl g ky n 0 = n - 1
      · refine ⟨zsI S 30 (nI (n - 1)), ?_, rfl, hw, ?_, zfr_sI (by decide)⟩
        · simp (disch := omega) only [fX_X3_step, fX_X3_strike, fX_X4_stepsTo_Heap, hp, hz, zhpC, ↓zN_eq, zL0, zL1, zL2, zL3, zL4, zL5, zL6, zL7, zL8, zL10, zL16, zL31, zL42, zL63, zL64, zL100, zL200, zL255, zL256, zL1000, zL12345, zL536870912, zI_le, zI_lt, zI_eq, zI_add, zI_sub, zI_mul, zI_neN, zI_Nne, zI_leN, zI_ltN, zI_Nle, zI_Nlt, zI_pred, zI_clamp, zI_div, zI_rem, zin_t, zgd_t, znz_t, if_pos, if_neg, if_true, if_false, Option.bind_some]
        · unfold zhpG; rw [if_neg (by decide), if_pos rfl, if_pos h, if_pos h1]; exact zRp_le hr (by omega)
      · have hC : zhpC 2 ky n c g = zpl g ky n 0 + 1 + (zhk g n (zpl g ky n 0)).2 := by
          unfold zhpC; rw [if_neg (by decide), if_neg (by decide), if_pos rfl, if_pos h, if_neg h1]
        have hG : zhpG 2 ky n g = (zhk g n (zpl g ky n 0)).1 := by
          unfold zhpG; rw [if_neg (by decide), if_pos rfl, if_pos h, if_neg h1]
        rw [hC, hG]
        generalize zpl g ky n 0 = q at *
        have hr2 : zRp ((zsR (zsI S 30 (nI (n - 1))) 36 q (S.2 36 (n - 1))).2 36) n (zhq g n q) := zRp_hq hr h
        have hg2 := zK64_hq hg h
        obtain ⟨S1, e1, a1, b1⟩ := pX_Heap_rise hn h hr2 hg2
        have h3 : S1.1 30 = nI (n - 1) := (zfr_i b1 (by decide)).trans rfl
        have h3w : S1.1 29 = nI c := (zfr_i b1 (by decide)).trans hw
        have hrb := zrs_le q (zhq g n q) q
        have fr1 : zfr S S1 [30, 29] [36] := zfr_tr (zfr_tr (S' := zsI S 30 (nI (n - 1))) (zfr_sI (by decide)) (zfr_sR (by decide))) (zfr_mono b1 (by decide) (by decide))
        by_cases h2 : (zrs q (zhq g n q) q).2 = 0
        · obtain ⟨S2, e2, a2, b2⟩ := pX_Heap_sink h3 (show n - 1 ≤ n by omega) hn (show q < n - 1 by omega) a1 (zK64_rs _ _ _ h hg2)
          have hK : zhk g n q = zsk (n - 1) n (zrs q (zhq g n q) q).1 q := if_pos h2
          rw [hK]
          refine ⟨S2, ?_, (zfr_i b2 (by decide)).trans h3, (zfr_i b2 (by decide)).trans h3w, zRp_le a2 (by omega), zfr_tr fr1 (zfr_mono b2 (by decide) (by decide))⟩
          rw [h2] at e1
          simp (disch := omega) only [fX_X3_step, fX_X3_strike, fX_X3_strike_77, fX_X4_stepsTo_Heap, hp, hz, e1, e2, ↓zN_eq, zL0, zL1, zL2, zL3, zL4, zL5, zL6, zL7, zL8, zL10, zL16, zL31, zL42, zL63, zL64, zL100, zL200, zL255, zL256, zL1000, zL12345, zL536870912, zI_le, zI_lt, zI_eq, zI_add, zI_sub, zI_mul, zI_neN, zI_Nne, zI_leN, zI_ltN, zI_Nle, zI_Nlt, zI_pred, zI_clamp, zI_div, zI_rem, zin_t, zgd_t, znz_t, if_pos, if_neg, if_true, if_false, Option.bind_some]
        · have hK : zhk g n q = zrs q (zhq g n q) q := if_neg h2
          rw [hK]
          refine ⟨S1, ?_, h3, h3w, zRp_le a1 (by omega), fr1⟩
          simp (disch := omega) only [fX_X3_step, fX_X3_strike, fX_X3_strike_77, fX_X4_stepsTo_Heap, hp, hz, e1, ↓zN_eq, zL0, zL1, zL2, zL3, zL4, zL5, zL6, zL7, zL8, zL10, zL16, zL31, zL42, zL63, zL64, zL100, zL200, zL255, zL256, zL1000, zL12345, zL536870912, zI_le, zI_lt, zI_eq, zI_add, zI_sub, zI_mul, zI_neN, zI_Nne, zI_leN, zI_ltN, zI_Nle, zI_Nlt, zI_pred, zI_clamp, zI_div, zI_rem, zin_t, zgd_t, znz_t, if_pos, if_neg, if_true, if_false, Option.bind_some]
    · rw [if_neg h] at hp
      refine ⟨S, ?_, ?_, hw, ?_, zfr_rf⟩
      · simp (disch := omega) only [fX_X3_step, fX_X3_strike, fX_X4_stepsTo_Heap, hp, zhpC, hz, ↓zN_eq, zL0, zL1, zL2, zL3, zL4, zL5, zL6, zL7, zL8, zL10, zL16, zL31, zL42, zL63, zL64, zL100, zL200, zL255, zL256, zL1000, zL12345, zL536870912, zI_le, zI_lt, zI_eq, zI_add, zI_sub, zI_mul, zI_neN, zI_Nne, zI_leN, zI_ltN, zI_Nle, zI_Nlt, zI_pred, zI_clamp, zI_div, zI_rem, zin_t, zgd_t, znz_t, if_pos, if_neg, if_true, if_false, Option.bind_some]
      · unfold znx; rw [if_neg (by decide), if_pos rfl, if_neg h]; exact hz
      · unfold znx zhpG; rw [if_neg (by decide), if_pos rfl, if_neg h, if_neg (by decide), if_pos rfl, if_neg h]; exact hr
  · exact ⟨S, by simp (disch := omega) only [fX_X3_step, zhpC, hz, ↓zN_eq, zL0, zL1, zL2, zL3, zL4, zL5, zL6, zL7, zL8, zL10, zL16, zL31, zL42, zL63, zL64, zL100, zL200, zL255, zL256, zL1000, zL12345, zL536870912, zI_le, zI_lt, zI_eq, zI_add, zI_sub, zI_mul, zI_neN, zI_Nne, zI_leN, zI_ltN, zI_Nle, zI_Nlt, zI_pred, zI_clamp, zI_div, zI_rem, zin_t, zgd_t, znz_t, if_pos, if_neg, if_true, if_false, Option.bind_some], hz, hw, hr, zfr_rf⟩
  · exact ⟨S, by simp (disch := omega) only [fX_X3_step, zhpC, hz, ↓zN_eq, zL0, zL1, zL2, zL3, zL4, zL5, zL6, zL7, zL8, zL10, zL16, zL31, zL42, zL63, zL64, zL100, zL200, zL255, zL256, zL1000, zL12345, zL536870912, zI_le, zI_lt, zI_eq, zI_add, zI_sub, zI_mul, zI_neN, zI_Nne, zI_leN, zI_ltN, zI_Nle, zI_Nlt, zI_pred, zI_clamp, zI_div, zI_rem, zin_t, zgd_t, znz_t, if_pos, if_neg, if_true, if_false, Option.bind_some], hz, hw, hr, zfr_rf⟩
  · exact ⟨S, by simp (disch := omega) only [fX_X3_step, zhpC, hz, ↓zN_eq, zL0, zL1, zL2, zL3, zL4, zL5, zL6, zL7, zL8, zL10, zL16, zL31, zL42, zL63, zL64, zL100, zL200, zL255, zL256, zL1000, zL12345, zL536870912, zI_le, zI_lt, zI_eq, zI_add, zI_sub, zI_mul, zI_neN, zI_Nne, zI_leN, zI_ltN, zI_Nle, zI_Nlt, zI_pred, zI_clamp, zI_div, zI_rem, zin_t, zgd_t, znz_t, if_pos, if_neg, if_true, if_false, Option.bind_some], hz, hw, hr, zfr_rf⟩
  · exact ⟨S, by simp (disch := omega) only [fX_X3_step, zhpC, hz, ↓zN_eq, zL0, zL1, zL2, zL3, zL4, zL5, zL6, zL7, zL8, zL10, zL16, zL31, zL42, zL63, zL64, zL100, zL200, zL255, zL256, zL1000, zL12345, zL536870912, zI_le, zI_lt, zI_eq, zI_add, zI_sub, zI_mul, zI_neN, zI_Nne, zI_leN, zI_ltN, zI_Nle, zI_Nlt, zI_pred, zI_clamp, zI_div, zI_rem, zin_t, zgd_t, znz_t, if_pos, if_neg, if_true, if_false, Option.bind_some], hz, hw, hr, zfr_rf⟩
  · exact ⟨S, by simp (disch := omega) only [fX_X3_step, zhpC, hz, ↓zN_eq, zL0, zL1, zL2, zL3, zL4, zL5, zL6, zL7, zL8, zL10, zL16, zL31, zL42, zL63, zL64, zL100, zL200, zL255, zL256, zL1000, zL12345, zL536870912, zI_le, zI_lt, zI_eq, zI_add, zI_sub, zI_mul, zI_neN, zI_Nne, zI_leN, zI_ltN, zI_Nle, zI_Nlt, zI_pred, zI_clamp, zI_div, zI_rem, zin_t, zgd_t, znz_t, if_pos, if_neg, if_true, if_false, Option.bind_some], hz, hw, hr, zfr_rf⟩
/-! the reference's heap -/
theorem pM_onHeap {S : zSt} {n c kd ky : Nat} {g : Nat → Nat} (hz : S.1 18 = nI n) (hw : S.2 17 4 = nI c) (hn : n ≤ 200) (hnc : n ≤ c) (hc : c < 1000) (hr : zRp (S.2 16) n g) (hg : zK64 g n) (hd : kd < 8) (hk : ky < 64) (h0 : kd = 0 → n < 200) :
    ∃ S', fM_X11_onHeap (nI kd) (nI ky) S = some (nI (zhpC kd ky n c g), S') ∧ S'.2 17 4 = nI (zcap kd n c) ∧ (∀ j, j ≠ 4 → S'.2 17 j = S.2 17 j) ∧ zRp (S'.2 16) (znx kd (zpl g ky n 0 < n) n) (zhpG kd ky n g) ∧ zfr S S' [] [16, 17] := by
  have hp := pM_placeIn_heap hn hr hg hk
  have hf := pM_find_heap hz hn hr hg hk
  have hle := (zpl_le g ky n 0).2
  rcases z8 hd with rfl | rfl | rfl | rfl | rfl | rfl | rfl | rfl
  · have h5 := h0 rfl
    obtain ⟨S1, e1, a1, b1, c1⟩ := pM_grow hz hw (by omega) hn hnc hc
    have h3 : S1.1 18 = nI n := (zfr_i c1 (by decide)).trans hz
    have h4 : zRp ((zsR S1 16 n (nI ky)).2 16) (n + 1) (zins g n ky) := by
      intro j hj
      show upd (S1.2 16) n (nI ky) j = nI (zins g n ky j)
      unfold zins
      by_cases h : j = n
      · subst h; rw [pk_us, if_neg (by omega), if_pos rfl]
      · rw [pk_un h, if_pos (by omega), zfr_r c1 (by decide)]; exact hr j (by omega)
    obtain ⟨S3, e3, a3, b3⟩ := pM_Heap_up (n := n + 1) (p := n) (by omega) (by omega) h4 (zK64_ins hg (Nat.le_refl n) hk)
    refine ⟨S3, ?_, ?_, ?_, a3, ?_⟩
    · simp (disch := omega) only [fM_X11_onHeap, e1, h3, e3, zhpC, ↓zN_eq, zL0, zL1, zL2, zL3, zL4, zL5, zL6, zL7, zL8, zL10, zL16, zL31, zL42, zL63, zL64, zL100, zL200, zL255, zL256, zL1000, zL12345, zL536870912, zI_le, zI_lt, zI_eq, zI_add, zI_sub, zI_mul, zI_neN, zI_Nne, zI_leN, zI_ltN, zI_Nle, zI_Nlt, zI_pred, zI_clamp, zI_div, zI_rem, zin_t, zgd_t, znz_t, if_pos, if_neg, if_true, if_false, Option.bind_some]
    · rw [zfr_r b3 (by decide)]; exact a1
    · intro j hj; rw [zfr_r b3 (by decide)]; exact b1 j hj
    · exact zfr_tr (zfr_tr (zfr_mono c1 (by decide) (by decide)) (zfr_sR (by decide))) (zfr_mono b3 (by decide) (by decide))
  · refine ⟨S, ?_, hw, fun _ _ => rfl, hr, zfr_rf⟩
    simp (disch := omega) only [fM_X11_onHeap, hf, zhpC, ↓zN_eq, zL0, zL1, zL2, zL3, zL4, zL5, zL6, zL7, zL8, zL10, zL16, zL31, zL42, zL63, zL64, zL100, zL200, zL255, zL256, zL1000, zL12345, zL536870912, zI_le, zI_lt, zI_eq, zI_add, zI_sub, zI_mul, zI_neN, zI_Nne, zI_leN, zI_ltN, zI_Nle, zI_Nlt, zI_pred, zI_clamp, zI_div, zI_rem, zin_t, zgd_t, znz_t, if_pos, if_neg, if_true, if_false, Option.bind_some]
  · by_cases h : zpl g ky n 0 < n
    · rw [if_pos h] at hp hf
      have hnx : znx 2 (zpl g ky n 0 < n) n = n - 1 := by unfold znx; rw [if_neg (by decide), if_pos rfl, if_pos h]
      rw [hnx]
      by_cases h1 : zpl g ky n 0 = n - 1
      · refine ⟨S, ?_, hw, fun _ _ => rfl, ?_, zfr_rf⟩
        · simp (disch := omega) only [fM_X11_onHeap, hp, hf, hz, zhpC, ↓zN_eq, zL0, zL1, zL2, zL3, zL4, zL5, zL6, zL7, zL8, zL10, zL16, zL31, zL42, zL63, zL64, zL100, zL200, zL255, zL256, zL1000, zL12345, zL536870912, zI_le, zI_lt, zI_eq, zI_add, zI_sub, zI_mul, zI_neN, zI_Nne, zI_leN, zI_ltN, zI_Nle, zI_Nlt, zI_pred, zI_clamp, zI_div, zI_rem, zin_t, zgd_t, znz_t, if_pos, if_neg, if_true, if_false, Option.bind_some]
        · unfold zhpG; rw [if_neg (by decide), if_pos rfl, if_pos h, if_pos h1]; exact zRp_le hr (by omega)
      · have hC : zhpC 2 ky n c g = zpl g ky n 0 + 1 + (zhk g n (zpl g ky n 0)).2 := by
          unfold zhpC; rw [if_neg (by decide), if_neg (by decide), if_pos rfl, if_pos h, if_neg h1]
        have hG : zhpG 2 ky n g = (zhk g n (zpl g ky n 0)).1 := by
          unfold zhpG; rw [if_neg (by decide), if_pos rfl, if_pos h, if_neg h1]
        rw [hC, hG]
        generalize zpl g ky n 0 = q at *
        have hr2 : zRp ((zsR S 16 q (S.2 16 (n - 1))).2 16) n (zhq g n q) := zRp_hq hr h
        have hg2 := zK64_hq hg h
        obtain ⟨S1, e1, a1, b1⟩ := pM_Heap_up hn h hr2 hg2
        have h3 : S1.1 18 = nI n := (zfr_i b1 (by decide)).trans hz
        have h3w : ∀ j, S1.2 17 j = S.2 17 j := fun j => by rw [zfr_r b1 (by decide)]; rfl
        have hrb := zrs_le q (zhq g n q) q
        have fr1 : zfr S S1 [] [16, 17] := zfr_tr (zfr_sR (by decide)) (zfr_mono b1 (by decide) (by decide))
        by_cases h2 : (zrs q (zhq g n q) q).2 = 0
        · obtain ⟨S2, e2, a2, b2⟩ := pM_Heap_down (show n - 1 ≤ n by omega) hn (show q < n - 1 by omega) a1 (zK64_rs _ _ _ h hg2)
          have hK : zhk g n q = zsk (n - 1) n (zrs q (zhq g n q) q).1 q := if_pos h2
          rw [hK]
          refine ⟨S2, ?_, ?_, ?_, zRp_le a2 (by omega), zfr_tr fr1 (zfr_mono b2 (by decide) (by decide))⟩
          · rw [h2] at e1
            simp (disch := omega) only [fM_X11_onHeap, fM_X11_onHeap_175, hp, hf, hz, h3, e1, e2, ↓zN_eq, zL0, zL1, zL2, zL3, zL4, zL5, zL6, zL7, zL8, zL10, zL16, zL31, zL42, zL63, zL64, zL100, zL200, zL255, zL256, zL1000, zL12345, zL536870912, zI_le, zI_lt, zI_eq, zI_add, zI_sub, zI_mul, zI_neN, zI_Nne, zI_leN, zI_ltN, zI_Nle, zI_Nlt, zI_pred, zI_clamp, zI_div, zI_rem, zin_t, zgd_t, znz_t, if_pos, if_neg, if_true, if_false, Option.bind_some]
          · rw [zfr_r b2 (by decide), h3w, hw]; rfl
          · intro j _; rw [zfr_r b2 (by decide), h3w]
        · have hK : zhk g n q = zrs q (zhq g n q) q := if_neg h2
          rw [hK]
          refine ⟨S1, ?_, (h3w 4).trans hw, fun j _ => h3w j, zRp_le a1 (by omega), fr1⟩
          simp (disch := omega) only [fM_X11_onHeap, fM_X11_onHeap_175, hp, hf, hz, h3, e1, ↓zN_eq, zL0, zL1, zL2, zL3, zL4, zL5, zL6, zL7, zL8, zL10, zL16, zL31, zL42, zL63, zL64, zL100, zL200, zL255, zL256, zL1000, zL12345, zL536870912, zI_le, zI_lt, zI_eq, zI_add, zI_sub, zI_mul, zI_neN, zI_Nne, zI_leN, zI_ltN, zI_Nle, zI_Nlt, zI_pred, zI_clamp, zI_div, zI_rem, zin_t, zgd_t, znz_t, if_pos, if_neg, if_true, if_false, Option.bind_some]
    · rw [if_neg h] at hp hf
      refine ⟨S, ?_, hw, fun _ _ => rfl, ?_, zfr_rf⟩
      · simp (disch := omega) only [fM_X11_onHeap, hp, hf, zhpC, hz, ↓zN_eq, zL0, zL1, zL2, zL3, zL4, zL5, zL6, zL7, zL8, zL10, zL16, zL31, zL42, zL63, zL64, zL100, zL200, zL255, zL256, zL1000, zL12345, zL536870912, zI_le, zI_lt, zI_eq, zI_add, zI_sub, zI_mul, zI_neN, zI_Nne, zI_leN, zI_ltN, zI_Nle, zI_Nlt, zI_pred, zI_clamp, zI_div, zI_rem, zin_t, zgd_t, znz_t, if_pos, if_neg, if_true, if_false, Option.bind_some]
      · unfold znx zhpG; rw [if_neg (by decide), if_pos rfl, if_neg h, if_neg (by decide), if_pos rfl, if_neg h]; exact hr
  · exact ⟨S, by simp (disch := omega) only [fM_X11_onHeap, zhpC, hz, ↓zN_eq, zL0, zL1, zL2, zL3, zL4, zL5, zL6, zL7, zL8, zL10, zL16, zL31, zL42, zL63, zL64, zL100, zL200, zL255, zL256, zL1000, zL12345, zL536870912, zI_le, zI_lt, zI_eq, zI_add, zI_sub, zI_mul, zI_neN, zI_Nne, zI_leN, zI_ltN, zI_Nle, zI_Nlt, zI_pred, zI_clamp, zI_div, zI_rem, zin_t, zgd_t, znz_t, if_pos, if_neg, if_true, if_false, Option.bind_some], hw, fun _ _ => rfl, hr, zfr_rf⟩
  · exact ⟨S, by simp (disch := omega) only [fM_X11_onHeap, zhpC, hz, ↓zN_eq, zL0, zL1, zL2, zL3, zL4, zL5, zL6, zL7, zL8, zL10, zL16, zL31, zL42, zL63, zL64, zL100, zL200, zL255, zL256, zL1000, zL12345, zL536870912, zI_le, zI_lt, zI_eq, zI_add, zI_sub, zI_mul, zI_neN, zI_Nne, zI_leN, zI_ltN, zI_Nle, zI_Nlt, zI_pred, zI_clamp, zI_div, zI_rem, zin_t, zgd_t, znz_t, if_pos, if_neg, if_true, if_false, Option.bind_some], hw, fun _ _ => rfl, hr, zfr_rf⟩
  · exact ⟨S, by simp (disch := omega) only [fM_X11_onHeap, zhpC, hz, ↓zN_eq, zL0, zL1, zL2, zL3, zL4, zL5, zL6, zL7, zL8, zL10, zL16, zL31, zL42, zL63, zL64, zL100, zL200, zL255, zL256, zL1000, zL12345, zL536870912, zI_le, zI_lt, zI_eq, zI_add, zI_sub, zI_mul, zI_neN, zI_Nne, zI_leN, zI_ltN, zI_Nle, zI_Nlt, zI_pred, zI_clamp, zI_div, zI_rem, zin_t, zgd_t, znz_t, if_pos, if_neg, if_true, if_false, Option.bind_some], hw, fun _ _ => rfl, hr, zfr_rf⟩
  · exact ⟨S, by simp (disch := omega) only [fM_X11_onHeap, zhpC, hz, ↓zN_eq, zL0, zL1, zL2, zL3, zL4, zL5, zL6, zL7, zL8, zL10, zL16, zL31, zL42, zL63, zL64, zL100, zL200, zL255, zL256, zL1000, zL12345, zL536870912, zI_le, zI_lt, zI_eq, zI_add, zI_sub, zI_mul, zI_neN, zI_Nne, zI_leN, zI_ltN, zI_Nle, zI_Nlt, zI_pred, zI_clamp, zI_div, zI_rem, zin_t, zgd_t, znz_t, if_pos, if_neg, if_true, if_false, Option.bind_some], hw, fun _ _ => rfl, hr, zfr_rf⟩
  · exact ⟨S, by simp (disch := omega) only [fM_X11_onHeap, zhpC, hz, ↓zN_eq, zL0, zL1, zL2, zL3, zL4, zL5, zL6, zL7, zL8, zL10, zL16, zL31, zL42, zL63, zL64, zL100, zL200, zL255, zL256, zL1000, zL12345, zL536870912, zI_le, zI_lt, zI_eq, zI_add, zI_sub, zI_mul, zI_neN, zI_Nne, zI_leN, zI_ltN, zI_Nle, zI_Nlt, zI_pred, zI_clamp, zI_div, zI_rem, zin_t, zgd_t, znz_t, if_pos, if_neg, if_true, if_false, Option.bind_some], hw, fun _ _ => rfl, hr, zfr_rf⟩

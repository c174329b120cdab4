/-! SORTED -/
def zhv (g : Nat → Nat) (k : Nat) : Nat → Nat → Nat → Nat × Nat
  | 0, lo, _ => (lo, 0)
  | f + 1, lo, hi => if hi ≤ lo then (lo, 0) else if k ≤ g ((lo + hi) / 2) then ((zhv g k f lo ((lo + hi) / 2)).1, (zhv g k f lo ((lo + hi) / 2)).2 + 1) else ((zhv g k f ((lo + hi) / 2 + 1) hi).1, (zhv g k f ((lo + hi) / 2 + 1) hi).2 + 1)
def zhe (g : Nat → Nat) (k n : Nat) : Nat := (zhv g k n 0 n).1
def zhs (g : Nat → Nat) (k n : Nat) : Nat := (zhv g k n 0 n).2
def zasc (g : Nat → Nat) (n : Nat) : Prop := ∀ i j, i ≤ j → j < n → g i ≤ g j
theorem zhv_le (g : Nat → Nat) (k : Nat) : ∀ f lo hi, lo ≤ hi → hi - lo ≤ f → lo ≤ (zhv g k f lo hi).1 ∧ (zhv g k f lo hi).1 ≤ hi ∧ (zhv g k f lo hi).2 ≤ hi - lo := by
  intro f
  induction f with
  | zero => intro lo hi h1 h2; exact ⟨Nat.le_refl _, h1, Nat.zero_le _⟩
  | succ f ih =>
    intro lo hi h1 h2
    unfold zhv
    by_cases h : hi ≤ lo
    · rw [if_pos h]; exact ⟨Nat.le_refl _, h1, Nat.zero_le _⟩
    · rw [if_neg h]
      by_cases h3 : k ≤ g ((lo + hi) / 2)
      · rw [if_pos h3]
        have := ih lo ((lo + hi) / 2) (by omega) (by omega)
        dsimp only
        omega
      · rw [if_neg h3]
        have := ih ((lo + hi) / 2 + 1) hi (by omega) (by omega)
        dsimp only
        omega
theorem zhv_ord (g : Nat → Nat) (k n : Nat) (hs : zasc g n) : ∀ f lo hi, lo ≤ hi → hi ≤ n → hi - lo ≤ f → (∀ j, j < lo → g j < k) → (∀ j, hi ≤ j → j < n → k ≤ g j) → (∀ j, j < (zhv g k f lo hi).1 → g j < k) ∧ ∀ j, (zhv g k f lo hi).1 ≤ j → j < n → k ≤ g j := by
  intro f
  induction f with
  | zero => intro lo hi h1 h2 h3 h4 h5; exact ⟨h4, fun j a b => h5 j (by have : (zhv g k 0 lo hi).1 = lo := rfl; omega) b⟩
  | succ f ih =>
    intro lo hi h1 h2 h3 h4 h5
    unfold zhv
    by_cases h : hi ≤ lo
    · rw [if_pos h]; exact ⟨h4, fun j a b => h5 j (by dsimp only at a; omega) b⟩
    · rw [if_neg h]
      by_cases h6 : k ≤ g ((lo + hi) / 2)
      · rw [if_pos h6]
        exact ih lo ((lo + hi) / 2) (by omega) (by omega) (by omega) h4 (fun j a b => Nat.le_trans h6 (hs _ j a b))
      · rw [if_neg h6]
        refine ih ((lo + hi) / 2 + 1) hi (by omega) (by omega) (by omega) (fun j a => ?_) h5
        have := hs j ((lo + hi) / 2) (by omega) (by omega)
        omega
theorem zhe_le (g : Nat → Nat) (k n : Nat) : zhe g k n ≤ n ∧ zhs g k n ≤ n := by
  have h := zhv_le g k n 0 n (by omega) (by omega)
  exact ⟨h.2.1, by unfold zhs; omega⟩
theorem zhe_ord {g : Nat → Nat} {n : Nat} (k : Nat) (hs : zasc g n) : (∀ j, j < zhe g k n → g j < k) ∧ (∀ j, zhe g k n ≤ j → j < n → k ≤ g j) ∧ zhe g k n ≤ n :=
  ⟨(zhv_ord g k n hs n 0 n (by omega) (by omega) (by omega) (fun j h => absurd h (by omega)) (fun j h1 h2 => absurd h2 (by omega))).1, (zhv_ord g k n hs n 0 n (by omega) (by omega) (by omega) (fun j h => absurd h (by omega)) (fun j h1 h2 => absurd h2 (by omega))).2, (zhe_le g k n).1⟩
/-- it is there just if halving ends at it -/
theorem zhe_found {g : Nat → Nat} {n k : Nat} (hs : zasc g n) : (zhe g k n < n ∧ g (zhe g k n) = k) ↔ 0 < zcn g k n := by
  obtain ⟨h1, h2, h3⟩ := zhe_ord k hs
  rw [zcn_pos]
  constructor
  · intro ⟨a, b⟩; exact ⟨_, a, b⟩
  · intro ⟨j, a, b⟩
    have h4 : zhe g k n ≤ j := by
      rcases Nat.lt_or_ge j (zhe g k n) with h | h
      · have := h1 j h; omega
      · exact h
    have h5 := h2 _ (Nat.le_refl _) (by omega)
    have h6 := hs _ j h4 a
    exact ⟨by omega, by omega⟩
def zsoG (kd ky n : Nat) (g : Nat → Nat) : Nat → Nat := if kd = 0 then zins g (zhe g ky n) ky else if kd = 2 then (if zhe g ky n < n ∧ g (zhe g ky n) = ky then zdel g (zhe g ky n) else g) else g
def zsoC (kd ky n c : Nat) (g : Nat → Nat) : Nat := if kd = 0 then zgr n c + zhs g ky n + (n - zhe g ky n) + 1 else if kd = 1 then (if zhe g ky n < n then zhs g ky n + 1 else zhs g ky n) else if kd = 2 then (if zhe g ky n < n ∧ g (zhe g ky n) = ky then zhs g ky n + n - zhe g ky n else if zhe g ky n < n then zhs g ky n + 1 else zhs g ky n) else if kd = 3 then n else if kd = 4 then 1 else if kd = 5 then (if zhe g ky n < n then zhs g ky n + 1 else zhs g ky n) else if kd = 6 then 0 else zhs g ky n + zhs g (ky + 1) n
theorem pX_halve_12 {n k : Nat} {g : Nat → Nat} (hn : n ≤ 200) (hg : zK64 g n) (hk : k ≤ 64) : ∀ f lo hi m S h, f < m → lo ≤ hi → hi ≤ n → hi - lo ≤ f → S.1 24 = nI h → zRp (S.2 34) n g → ∃ S', fX_X8_halve_12 m (nI k) (nI lo) (nI hi) S = some (nI (zhv g k f lo hi).1, S') ∧ S'.1 24 = nI (h + (zhv g k f lo hi).2) ∧ zfr S S' [24] [] := by
  intro f
  induction f with
  | zero =>
    intro lo hi m S h hm h1 h2 h3 h4 hr
    obtain ⟨m, rfl⟩ : ∃ m', m = m' + 1 := ⟨m - 1, by omega⟩
    refine ⟨S, ?_, h4, zfr_rf⟩
    rw [show (zhv g k 0 lo hi).1 = lo from rfl]
    simp (disch := omega) only [fX_X8_halve_12, ↓zN_eq, zL0, zL1, zL2, zL3, zL4, zL5, zL6, zL7, zL8, zL10, zL16, zL31, zL42, zL63, zL64, zL100, zL200, zL255, zL256, zL1000, zL12345, zL536870912, zI_le, zI_lt, zI_eq, zI_add, zI_sub, zI_mul, zI_neN, zI_Nne, zI_leN, zI_ltN, zI_Nle, zI_Nlt, zI_pred, zI_clamp, zI_div, zI_rem, zin_t, zgd_t, znz_t, if_pos, if_neg, if_true, if_false, Option.bind_some]
  | succ f ih =>
    intro lo hi m S h hm h1 h2 h3 h4 hr
    obtain ⟨m, rfl⟩ : ∃ m', m = m' + 1 := ⟨m - 1, by omega⟩
    have hr' : ∀ j, j < n → S.2 34 j = nI (g j) := hr
    unfold zhv
    by_cases h6 : hi ≤ lo
    · refine ⟨S, ?_, ?_, zfr_rf⟩
      · simp (disch := omega) only [fX_X8_halve_12, ↓zN_eq, zL0, zL1, zL2, zL3, zL4, zL5, zL6, zL7, zL8, zL10, zL16, zL31, zL42, zL63, zL64, zL100, zL200, zL255, zL256, zL1000, zL12345, zL536870912, zI_le, zI_lt, zI_eq, zI_add, zI_sub, zI_mul, zI_neN, zI_Nne, zI_leN, zI_ltN, zI_Nle, zI_Nlt, zI_pred, zI_clamp, zI_div, zI_rem, zin_t, zgd_t, znz_t, if_pos, if_neg, if_true, if_false, Option.bind_some]
      · simp (disch := omega) only [if_pos, h4, Nat.add_zero]
    · have h7 := hg ((lo + hi) / 2) (by omega)
      have hfr : zfr S (zsI S 24 (nI (h + 1))) [24] [] := ⟨fun j hj => by show (if j = 24 then _ else S.1 j) = _; rw [if_neg (fun e => hj (by rw [e]; exact List.mem_cons_self))], fun _ _ => rfl⟩
      by_cases h8 : k ≤ g ((lo + hi) / 2)
      · obtain ⟨S', e, a, b⟩ := ih lo ((lo + hi) / 2) m (zsI S 24 (nI (h + 1))) (h + 1) (by omega) (by omega) (by omega) (by omega) rfl hr
        refine ⟨S', ?_, ?_, zfr_tr hfr b⟩
        · simp (disch := omega) only [fX_X8_halve_12, fX_X8_halve_56, hr', h4, ↓zN_eq, zL0, zL1, zL2, zL3, zL4, zL5, zL6, zL7, zL8, zL10, zL16, zL31, zL42, zL63, zL64, zL100, zL200, zL255, zL256, zL1000, zL12345, zL536870912, zI_le, zI_lt, zI_eq, zI_add, zI_sub, zI_mul, zI_neN, zI_Nne, zI_leN, zI_ltN, zI_Nle, zI_Nlt, zI_pred, zI_clamp, zI_div, zI_rem, zin_t, zgd_t, znz_t, if_pos, if_neg, if_true, if_false, Option.bind_some]
          exact e
        · simp (disch := omega) only [if_neg, if_pos, a]; congr 1; omega
      · obtain ⟨S', e, a, b⟩ := ih ((lo + hi) / 2 + 1) hi m (zsI S 24 (nI (h + 1))) (h + 1) (by omega) (by omega) (by omega) (by omega) rfl hr
        refine ⟨S', ?_, ?_, zfr_tr hfr b⟩
        · simp (disch := omega) only [fX_X8_halve_12, fX_X8_halve_56, hr', h4, ↓zN_eq, zL0, zL1, zL2, zL3, zL4, zL5, zL6, zL7, zL8, zL10, zL16, zL31, zL42, zL63, zL64, zL100, zL200, zL255, zL256, zL1000, zL12345, zL536870912, zI_le, zI_lt, zI_eq, zI_add, zI_sub, zI_mul, zI_neN, zI_Nne, zI_leN, zI_ltN, zI_Nle, zI_Nlt, zI_pred, zI_clamp, zI_div, zI_rem, zin_t, zgd_t, znz_t, if_pos, if_neg, if_true, if_false, Option.bind_some]
          exact e
        · simp (disch := omega) only [if_neg, if_pos, a]; congr 1; omega
theorem pX_halve {S : zSt} {n k : Nat} {g : Nat → Nat} (hz : S.1 23 = nI n) (hn : n ≤ 200) (hr : zRp (S.2 34) n g) (hg : zK64 g n) (hk : k ≤ 64) : ∃ S', fX_X8_halve (nI k) S = some (nI (zhe g k n), S') ∧ S'.1 24 = nI (zhs g k n) ∧ zfr S S' [24] [] := by
  obtain ⟨S', e, a, b⟩ := pX_halve_12 hn hg hk n 0 n 1000 (zsI S 24 0) 0 (by omega) (by omega) (by omega) (by omega) rfl hr
  refine ⟨S', ?_, ?_, zfr_tr (S' := zsI S 24 0) ⟨fun j hj => by show (if j = 24 then _ else S.1 j) = _; rw [if_neg (fun e => hj (by rw [e]; exact List.mem_cons_self))], fun _ _ => rfl⟩ b⟩
  · unfold fX_X8_halve; rw [hz]; exact e
  · rw [a, Nat.zero_add]; rfl
theorem pX_asked {S : zSt} {n p h : Nat} (hz : S.1 23 = nI n) (hh : S.1 24 = nI h) (hn : n ≤ 200) (hp : p ≤ n) : fX_X8_askedAt (nI p) S = some (nI (if p < n then h + 1 else h)) := by
  by_cases h1 : p < n
  · simp (disch := omega) only [fX_X8_askedAt, fX_X8_askedAt_17, hz, hh, ↓zN_eq, zL0, zL1, zL2, zL3, zL4, zL5, zL6, zL7, zL8, zL10, zL16, zL31, zL42, zL63, zL64, zL100, zL200, zL255, zL256, zL1000, zL12345, zL536870912, zI_le, zI_lt, zI_eq, zI_add, zI_sub, zI_mul, zI_neN, zI_Nne, zI_leN, zI_ltN, zI_Nle, zI_Nlt, zI_pred, zI_clamp, zI_div, zI_rem, zin_t, zgd_t, znz_t, if_pos, if_neg, if_true, if_false, Option.bind_some]
  · simp (disch := omega) only [fX_X8_askedAt, fX_X8_askedAt_17, hz, hh, ↓zN_eq, zL0, zL1, zL2, zL3, zL4, zL5, zL6, zL7, zL8, zL10, zL16, zL31, zL42, zL63, zL64, zL100, zL200, zL255, zL256, zL1000, zL12345, zL536870912, zI_le, zI_lt, zI_eq, zI_add, zI_sub, zI_mul, zI_neN, zI_Nne, zI_leN, zI_ltN, zI_Nle, zI_Nlt, zI_pred, zI_clamp, zI_div, zI_rem, zin_t, zgd_t, znz_t, if_pos, if_neg, if_true, if_false, Option.bind_some, Nat.add_zero]
theorem pX_Sorted_step {S : zSt} {n c kd ky : Nat} {g : Nat → Nat} (hz : S.1 23 = nI n) (hw : S.1 22 = nI c) (hn : n ≤ 200) (hc : c < 1000) (hr : zRp (S.2 34) n g) (hg : zK64 g n) (hd : kd < 8) (hk : ky < 64) (h0 : kd = 0 → n < 200) :
    ∃ S', fX_X8_step (nI kd) (nI ky) S = some (nI (zsoC kd ky n c g), S') ∧ S'.1 23 = nI (znx kd (zhe g ky n < n ∧ g (zhe g ky n) = ky) n) ∧ S'.1 22 = nI (zcap kd n c) ∧ zRp (S'.2 34) (znx kd (zhe g ky n < n ∧ g (zhe g ky n) = ky) n) (zsoG kd ky n g) ∧ zfr S S' [23, 22, 24] [34] := by
  have hle := zhe_le g ky n
  have hle2 := hle.1
  obtain ⟨S1, e1, a1, b1⟩ := pX_halve hz hn hr hg (Nat.le_of_lt hk)
  have h3 : S1.1 23 = nI n := (zfr_i b1 (by decide)).trans hz
  have h3w : S1.1 22 = nI c := (zfr_i b1 (by decide)).trans hw
  have h4 : zRp (S1.2 34) n g := by rw [zfr_r b1 (by decide)]; exact hr
  have hq := pX_asked h3 a1 hn hle2
  have hfr1 : zfr S S1 [23, 22, 24] [34] := zfr_mono b1 (by decide) (by decide)
  rcases z8 hd with rfl | rfl | rfl | rfl | rfl | rfl | rfl | rfl
  · obtain ⟨S2, e2, a2, b2⟩ := pX_grow_Sorted hz hw hn hc
    have g3 : S2.1 23 = nI n := (zfr_i b2 (by decide)).trans hz
    have g4 : zRp (S2.2 34) n g := by rw [zfr_r b2 (by decide)]; exact hr
    obtain ⟨S3, e3, a3, b3⟩ := pX_halve g3 hn g4 hg (Nat.le_of_lt hk)
    have k3 : S3.1 23 = nI n := (zfr_i b3 (by decide)).trans g3
    have k4 : zRp (S3.2 34) n g := by rw [zfr_r b3 (by decide)]; exact g4
    obtain ⟨S4, e4, a4, b4, c4⟩ := pX_insert_Sorted (k := ky) k3 (h0 rfl) k4 hle2
    have k5 : S4.1 24 = nI (zhs g ky n) := (zfr_i c4 (by decide)).trans a3
    refine ⟨S4, ?_, a4, ?_, b4, ?_⟩
    · simp (disch := omega) only [fX_X8_step, fX_X8_putInOrder, e2, e3, k3, e4, k5, a3, zsoC, zgr, ↓zN_eq, zL0, zL1, zL2, zL3, zL4, zL5, zL6, zL7, zL8, zL10, zL16, zL31, zL42, zL63, zL64, zL100, zL200, zL255, zL256, zL1000, zL12345, zL536870912, zI_le, zI_lt, zI_eq, zI_add, zI_sub, zI_mul, zI_neN, zI_Nne, zI_leN, zI_ltN, zI_Nle, zI_Nlt, zI_pred, zI_clamp, zI_div, zI_rem, zin_t, zgd_t, znz_t, if_pos, if_neg, if_true, if_false, Option.bind_some]
    · rw [zfr_i c4 (by decide), zfr_i b3 (by decide), a2]; rfl
    · exact zfr_tr (zfr_tr (zfr_mono b2 (by decide) (by decide)) (zfr_mono b3 (by decide) (by decide))) (zfr_mono c4 (by decide) (by decide))
  · refine ⟨S1, ?_, h3, h3w, h4, hfr1⟩
    simp (disch := omega) only [fX_X8_step, e1, hq, zsoC, ↓zN_eq, zL0, zL1, zL2, zL3, zL4, zL5, zL6, zL7, zL8, zL10, zL16, zL31, zL42, zL63, zL64, zL100, zL200, zL255, zL256, zL1000, zL12345, zL536870912, zI_le, zI_lt, zI_eq, zI_add, zI_sub, zI_mul, zI_neN, zI_Nne, zI_leN, zI_ltN, zI_Nle, zI_Nlt, zI_pred, zI_clamp, zI_div, zI_rem, zin_t, zgd_t, znz_t, if_pos, if_neg, if_true, if_false, Option.bind_some]
  · by_cases h : zhe g ky n < n
    · have hky : fX_X4_keyAt_Sorted (nI (zhe g ky n)) S1 = some (nI (g (zhe g ky n))) := by
        have hr' : ∀ j, j < n → S1.2 34 j = nI (g j) := h4
        simp (disch := omega) only [fX_X4_keyAt_Sorted, h3, hr', ↓zN_eq, zL0, zL1, zL2, zL3, zL4, zL5, zL6, zL7, zL8, zL10, zL16, zL31, zL42, zL63, zL64, zL100, zL200, zL255, zL256, zL1000, zL12345, zL536870912, zI_le, zI_lt, zI_eq, zI_add, zI_sub, zI_mul, zI_neN, zI_Nne, zI_leN, zI_ltN, zI_Nle, zI_Nlt, zI_pred, zI_clamp, zI_div, zI_rem, zin_t, zgd_t, znz_t, if_pos, if_neg, if_true, if_false, Option.bind_some]
      have hgb := hg _ h
      by_cases h5 : g (zhe g ky n) = ky
      · obtain ⟨S2, e2, a2, b2, c2⟩ := pX_remove_Sorted h3 hn h4 h
        refine ⟨S2, ?_, ?_, ?_, ?_, zfr_tr hfr1 (zfr_mono c2 (by decide) (by decide))⟩
        · rw [if_pos h] at hq
          have h6 : zhe g ky n < n ∧ g (zhe g ky n) = ky := ⟨h, h5⟩
          simp (disch := omega) only [fX_X8_step, fX_X8_strike, e1, hq, hky, h5, e2, a2, zsoC, h6, and_self, ↓zN_eq, zL0, zL1, zL2, zL3, zL4, zL5, zL6, zL7, zL8, zL10, zL16, zL31, zL42, zL63, zL64, zL100, zL200, zL255, zL256, zL1000, zL12345, zL536870912, zI_le, zI_lt, zI_eq, zI_add, zI_sub, zI_mul, zI_neN, zI_Nne, zI_leN, zI_ltN, zI_Nle, zI_Nlt, zI_pred, zI_clamp, zI_div, zI_rem, zin_t, zgd_t, znz_t, if_pos, if_neg, if_true, if_false, Option.bind_some]
          congr 3; omega
        · unfold znx; rw [if_neg (by decide), if_pos rfl, if_pos ⟨h, h5⟩]; exact a2
        · rw [zfr_i c2 (by decide), h3w]; rfl
        · unfold znx zsoG; rw [if_neg (by decide), if_pos rfl, if_pos ⟨h, h5⟩, if_neg (by decide), if_pos rfl, if_pos ⟨h, h5⟩]; exact b2
      · have h6 : ¬ (zhe g ky n < n ∧ g (zhe g ky n) = ky) := fun q => h5 q.2
        refine ⟨S1, ?_, ?_, h3w, ?_, hfr1⟩
        · simp (disch := omega) only [fX_X8_step, fX_X8_strike, e1, hq, hky, zsoC, h6, ↓zN_eq, zL0, zL1, zL2, zL3, zL4, zL5, zL6, zL7, zL8, zL10, zL16, zL31, zL42, zL63, zL64, zL100, zL200, zL255, zL256, zL1000, zL12345, zL536870912, zI_le, zI_lt, zI_eq, zI_add, zI_sub, zI_mul, zI_neN, zI_Nne, zI_leN, zI_ltN, zI_Nle, zI_Nlt, zI_pred, zI_clamp, zI_div, zI_rem, zin_t, zgd_t, znz_t, if_pos, if_neg, if_true, if_false, Option.bind_some]
        · unfold znx; rw [if_neg (by decide), if_pos rfl, if_neg h6]; exact h3
        · unfold znx zsoG; rw [if_neg (by decide), if_pos rfl, if_neg h6, if_neg (by decide), if_pos rfl, if_neg h6]; exact h4
    · have h6 : ¬ (zhe g ky n < n ∧ g (zhe g ky n) = ky) := fun q => h q.1
      have hky : fX_X4_keyAt_Sorted (nI (zhe g ky n)) S1 = some zN := by
        simp (disch := omega) only [fX_X4_keyAt_Sorted, h3, ↓zN_eq, zL0, zL1, zL2, zL3, zL4, zL5, zL6, zL7, zL8, zL10, zL16, zL31, zL42, zL63, zL64, zL100, zL200, zL255, zL256, zL1000, zL12345, zL536870912, zI_le, zI_lt, zI_eq, zI_add, zI_sub, zI_mul, zI_neN, zI_Nne, zI_leN, zI_ltN, zI_Nle, zI_Nlt, zI_pred, zI_clamp, zI_div, zI_rem, zin_t, zgd_t, znz_t, if_pos, if_neg, if_true, if_false, Option.bind_some]
      refine ⟨S1, ?_, ?_, h3w, ?_, hfr1⟩
      · simp (disch := omega) only [fX_X8_step, fX_X8_strike, e1, hq, hky, zsoC, h6, ↓zN_eq, zL0, zL1, zL2, zL3, zL4, zL5, zL6, zL7, zL8, zL10, zL16, zL31, zL42, zL63, zL64, zL100, zL200, zL255, zL256, zL1000, zL12345, zL536870912, zI_le, zI_lt, zI_eq, zI_add, zI_sub, zI_mul, zI_neN, zI_Nne, zI_leN, zI_ltN, zI_Nle, zI_Nlt, zI_pred, zI_clamp, zI_div, zI_rem, zin_t, zgd_t, znz_t, if_pos, if_neg, if_true, if_false, Option.bind_some]
      · unfold znx; rw [if_neg (by decide), if_pos rfl, if_neg h6]; exact h3
      · unfold znx zsoG; rw [if_neg (by decide), if_pos rfl, if_neg h6, if_neg (by decide), if_pos rfl, if_neg h6]; exact h4
  · exact ⟨S, by simp (disch := omega) only [fX_X8_step, zsoC, hz, ↓zN_eq, zL0, zL1, zL2, zL3, zL4, zL5, zL6, zL7, zL8, zL10, zL16, zL31, zL42, zL63, zL64, zL100, zL200, zL255, zL256, zL1000, zL12345, zL536870912, zI_le, zI_lt, zI_eq, zI_add, zI_sub, zI_mul, zI_neN, zI_Nne, zI_leN, zI_ltN, zI_Nle, zI_Nlt, zI_pred, zI_clamp, zI_div, zI_rem, zin_t, zgd_t, znz_t, if_pos, if_neg, if_true, if_false, Option.bind_some], hz, hw, hr, zfr_rf⟩
  · exact ⟨S, by simp (disch := omega) only [fX_X8_step, zsoC, hz, ↓zN_eq, zL0, zL1, zL2, zL3, zL4, zL5, zL6, zL7, zL8, zL10, zL16, zL31, zL42, zL63, zL64, zL100, zL200, zL255, zL256, zL1000, zL12345, zL536870912, zI_le, zI_lt, zI_eq, zI_add, zI_sub, zI_mul, zI_neN, zI_Nne, zI_leN, zI_ltN, zI_Nle, zI_Nlt, zI_pred, zI_clamp, zI_div, zI_rem, zin_t, zgd_t, znz_t, if_pos, if_neg, if_true, if_false, Option.bind_some], hz, hw, hr, zfr_rf⟩
  · refine ⟨S1, ?_, h3, h3w, h4, hfr1⟩
    simp (disch := omega) only [fX_X8_step, e1, hq, zsoC, ↓zN_eq, zL0, zL1, zL2, zL3, zL4, zL5, zL6, zL7, zL8, zL10, zL16, zL31, zL42, zL63, zL64, zL100, zL200, zL255, zL256, zL1000, zL12345, zL536870912, zI_le, zI_lt, zI_eq, zI_add, zI_sub, zI_mul, zI_neN, zI_Nne, zI_leN, zI_ltN, zI_Nle, zI_Nlt, zI_pred, zI_clamp, zI_div, zI_rem, zin_t, zgd_t, znz_t, if_pos, if_neg, if_true, if_false, Option.bind_some]
  · exact ⟨S, by simp (disch := omega) only [fX_X8_step, zsoC, hz, ↓zN_eq, zL0, zL1, zL2, zL3, zL4, zL5, zL6, zL7, zL8, zL10, zL16, zL31, zL42, zL63, zL64, zL100, zL200, zL255, zL256, zL1000, zL12345, zL536870912, zI_le, zI_lt, zI_eq, zI_add, zI_sub, zI_mul, zI_neN, zI_Nne, zI_leN, zI_ltN, zI_Nle, zI_Nlt, zI_pred, zI_clamp, zI_div, zI_rem, zin_t, zgd_t, znz_t, if_pos, if_neg, if_true, if_false, Option.bind_some], hz, hw, hr, zfr_rf⟩
  · obtain ⟨S2, e2, a2, b2⟩ := pX_halve h3 hn h4 hg (show ky + 1 ≤ 64 by omega)
    refine ⟨S2, ?_, (zfr_i b2 (by decide)).trans h3, (zfr_i b2 (by decide)).trans h3w, ?_, zfr_tr hfr1 (zfr_mono b2 (by decide) (by decide))⟩
    · simp (disch := omega) only [fX_X8_step, fX_X8_seekBothEnds, e1, e2, a1, a2, zsoC, ↓zN_eq, zL0, zL1, zL2, zL3, zL4, zL5, zL6, zL7, zL8, zL10, zL16, zL31, zL42, zL63, zL64, zL100, zL200, zL255, zL256, zL1000, zL12345, zL536870912, zI_le, zI_lt, zI_eq, zI_add, zI_sub, zI_mul, zI_neN, zI_Nne, zI_leN, zI_ltN, zI_Nle, zI_Nlt, zI_pred, zI_clamp, zI_div, zI_rem, zin_t, zgd_t, znz_t, if_pos, if_neg, if_true, if_false, Option.bind_some]
    · rw [zfr_r b2 (by decide)]; exact h4
/-! the reference's sorted row -/
theorem pM_halving_10 {n k : Nat} {g : Nat → Nat} {S : zSt} (hn : n ≤ 200) (hg : zK64 g n) (hk : k ≤ 64) (hr : zRp (S.2 15) n g) : ∀ f lo hi m h, f < m → lo ≤ hi → hi ≤ n → hi - lo ≤ f → fM_X11_halving_10 m (nI k) (nI lo) (nI hi) (nI h) S = some (nI (h + (zhv g k f lo hi).2), zsI S 28 (nI (zhv g k f lo hi).1)) := by
  have hr' : ∀ j, j < n → S.2 15 j = nI (g j) := hr
  intro f
  induction f with
  | zero =>
    intro lo hi m h hm h1 h2 h3
    obtain ⟨m, rfl⟩ : ∃ m', m = m' + 1 := ⟨m - 1, by omega⟩
    rw [show (zhv g k 0 lo hi).1 = lo from rfl, show (zhv g k 0 lo hi).2 = 0 from rfl]
    simp (disch := omega) only [fM_X11_halving_10, Nat.add_zero, ↓zN_eq, zL0, zL1, zL2, zL3, zL4, zL5, zL6, zL7, zL8, zL10, zL16, zL31, zL42, zL63, zL64, zL100, zL200, zL255, zL256, zL1000, zL12345, zL536870912, zI_le, zI_lt, zI_eq, zI_add, zI_sub, zI_mul, zI_neN, zI_Nne, zI_leN, zI_ltN, zI_Nle, zI_Nlt, zI_pred, zI_clamp, zI_div, zI_rem, zin_t, zgd_t, znz_t, if_pos, if_neg, if_true, if_false, Option.bind_some]
  | succ f ih =>
    intro lo hi m h hm h1 h2 h3
    obtain ⟨m, rfl⟩ : ∃ m', m = m' + 1 := ⟨m - 1, by omega⟩
    unfold zhv
    by_cases h6 : hi ≤ lo
    · simp (disch := omega) only [fM_X11_halving_10, Nat.add_zero, ↓zN_eq, zL0, zL1, zL2, zL3, zL4, zL5, zL6, zL7, zL8, zL10, zL16, zL31, zL42, zL63, zL64, zL100, zL200, zL255, zL256, zL1000, zL12345, zL536870912, zI_le, zI_lt, zI_eq, zI_add, zI_sub, zI_mul, zI_neN, zI_Nne, zI_leN, zI_ltN, zI_Nle, zI_Nlt, zI_pred, zI_clamp, zI_div, zI_rem, zin_t, zgd_t, znz_t, if_pos, if_neg, if_true, if_false, Option.bind_some]
    · have h7 := hg ((lo + hi) / 2) (by omega)
      by_cases h8 : k ≤ g ((lo + hi) / 2)
      · simp (disch := omega) only [fM_X11_halving_10, fM_X11_halving_47, hr', ↓zN_eq, zL0, zL1, zL2, zL3, zL4, zL5, zL6, zL7, zL8, zL10, zL16, zL31, zL42, zL63, zL64, zL100, zL200, zL255, zL256, zL1000, zL12345, zL536870912, zI_le, zI_lt, zI_eq, zI_add, zI_sub, zI_mul, zI_neN, zI_Nne, zI_leN, zI_ltN, zI_Nle, zI_Nlt, zI_pred, zI_clamp, zI_div, zI_rem, zin_t, zgd_t, znz_t, if_pos, if_neg, if_true, if_false, Option.bind_some]
        rw [ih lo ((lo + hi) / 2) m (h + 1) (by omega) (by omega) (by omega) (by omega)]
        congr 3; omega
      · simp (disch := omega) only [fM_X11_halving_10, fM_X11_halving_47, hr', ↓zN_eq, zL0, zL1, zL2, zL3, zL4, zL5, zL6, zL7, zL8, zL10, zL16, zL31, zL42, zL63, zL64, zL100, zL200, zL255, zL256, zL1000, zL12345, zL536870912, zI_le, zI_lt, zI_eq, zI_add, zI_sub, zI_mul, zI_neN, zI_Nne, zI_leN, zI_ltN, zI_Nle, zI_Nlt, zI_pred, zI_clamp, zI_div, zI_rem, zin_t, zgd_t, znz_t, if_pos, if_neg, if_true, if_false, Option.bind_some]
        rw [ih ((lo + hi) / 2 + 1) hi m (h + 1) (by omega) (by omega) (by omega) (by omega)]
        congr 3; omega
theorem pM_halving {n k : Nat} {g : Nat → Nat} {S : zSt} (hz : S.1 18 = nI n) (hn : n ≤ 200) (hr : zRp (S.2 15) n g) (hg : zK64 g n) (hk : k ≤ 64) : fM_X11_halving (nI k) S = some (nI (zhs g k n), zsI S 28 (nI (zhe g k n))) := by
  unfold fM_X11_halving
  rw [hz, zL0, pM_halving_10 hn hg hk hr n 0 n 1000 0 (by omega) (by omega) (by omega) (by omega), Nat.zero_add]
  rfl
theorem pM_onSorted_62 {n k e x : Nat} (hn : n < 200) (hk : k < 64) : ∀ r m S, r < m → e + r ≤ n → S.1 28 = nI e → S.1 18 = nI n → ∃ S', fM_X11_onSorted_62 m (nI k) (nI x) (nI (e + r)) S = some (nI (x + n - e + 1), S') ∧ (∀ j, j < n + 1 → S'.2 15 j = if j < e then S.2 15 j else if j = e then nI k else if j ≤ e + r then S.2 15 (j - 1) else S.2 15 j) ∧ zfr S S' [] [15] := by
  intro r
  induction r with
  | zero =>
    intro m S hm hr h1 h2
    obtain ⟨m, rfl⟩ : ∃ m', m = m' + 1 := ⟨m - 1, by omega⟩
    refine ⟨zsR S 15 e (nI k), ?_, ?_, fun _ _ => rfl, ?_⟩
    · simp (disch := omega) only [fM_X11_onSorted_62, h1, h2, ↓zN_eq, zL0, zL1, zL2, zL3, zL4, zL5, zL6, zL7, zL8, zL10, zL16, zL31, zL42, zL63, zL64, zL100, zL200, zL255, zL256, zL1000, zL12345, zL536870912, zI_le, zI_lt, zI_eq, zI_add, zI_sub, zI_mul, zI_neN, zI_Nne, zI_leN, zI_ltN, zI_Nle, zI_Nlt, zI_pred, zI_clamp, zI_div, zI_rem, zin_t, zgd_t, znz_t, if_pos, if_neg, if_true, if_false, Option.bind_some]
    · intro j hj
      show upd (S.2 15) e (nI k) j = _
      by_cases h3 : j = e
      · subst h3; rw [pk_us, if_neg (by omega), if_pos rfl]
      · rw [pk_un h3]
        by_cases h4 : j < e
        · rw [if_pos h4]
        · rw [if_neg h4, if_neg h3, if_neg (by omega)]
    · intro k hk; show (if k = 15 then _ else S.2 k) = _; rw [if_neg (fun e => hk (by rw [e]; exact List.mem_cons_self))]
  | succ r ih =>
    intro m S hm hr h1 h2
    obtain ⟨m, rfl⟩ : ∃ m', m = m' + 1 := ⟨m - 1, by omega⟩
    obtain ⟨S', e1, a1, b1⟩ := ih m (zsR S 15 (e + (r + 1)) (S.2 15 (e + r))) (by omega) (by omega) h1 h2
    refine ⟨S', ?_, ?_, zfr_tr (S' := zsR S 15 (e + (r + 1)) (S.2 15 (e + r))) ⟨fun _ _ => rfl, fun k hk => ?_⟩ b1⟩
    · simp (disch := omega) only [fM_X11_onSorted_62, h1, h2, ↓zN_eq, zL0, zL1, zL2, zL3, zL4, zL5, zL6, zL7, zL8, zL10, zL16, zL31, zL42, zL63, zL64, zL100, zL200, zL255, zL256, zL1000, zL12345, zL536870912, zI_le, zI_lt, zI_eq, zI_add, zI_sub, zI_mul, zI_neN, zI_Nne, zI_leN, zI_ltN, zI_Nle, zI_Nlt, zI_pred, zI_clamp, zI_div, zI_rem, zin_t, zgd_t, znz_t, if_pos, if_neg, if_true, if_false, Option.bind_some]
      rw [show e + (r + 1) - 1 = e + r by omega]
      exact e1
    · intro j hj
      rw [a1 j hj]
      show (if j < e then upd (S.2 15) (e + (r + 1)) _ j else if j = e then nI k else if j ≤ e + r then upd (S.2 15) (e + (r + 1)) _ (j - 1) else upd (S.2 15) (e + (r + 1)) _ j) = _
      by_cases h3 : j < e
      · rw [if_pos h3, if_pos h3, pk_un (by omega)]
      · rw [if_neg h3, if_neg h3]
        by_cases h4 : j = e
        · rw [if_pos h4, if_pos h4]
        · rw [if_neg h4, if_neg h4]
          by_cases h5 : j ≤ e + r
          · rw [if_pos h5, if_pos (by omega), pk_un (by omega)]
          · rw [if_neg h5]
            by_cases h6 : j = e + (r + 1)
            · rw [h6, pk_us, if_pos (by omega)]; rfl
            · rw [pk_un h6, if_neg (by omega)]
    · show (if k = 15 then _ else S.2 k) = _; rw [if_neg (fun e => hk (by rw [e]; exact List.mem_cons_self))]
theorem pM_onSorted {S : zSt} {n c kd ky : Nat} {g : Nat → Nat} (hz : S.1 18 = nI n) (hw : S.2 17 1 = nI c) (hn : n ≤ 200) (hnc : n ≤ c) (hc : c < 1000) (hr : zRp (S.2 15) n g) (hg : zK64 g n) (hd : kd < 8) (hk : ky < 64) (h0 : kd = 0 → n < 200) :
    ∃ S', fM_X11_onSorted (nI kd) (nI ky) S = some (nI (zsoC kd ky n c g), S') ∧ S'.2 17 1 = nI (zcap kd n c) ∧ (∀ j, j ≠ 1 → S'.2 17 j = S.2 17 j) ∧ zRp (S'.2 15) (znx kd (zhe g ky n < n ∧ g (zhe g ky n) = ky) n) (zsoG kd ky n g) ∧ zfr S S' [28] [15, 17] := by
  have hle := zhe_le g ky n
  have hle2 := zhe_le g (ky + 1) n
  have hh := pM_halving hz hn hr hg (Nat.le_of_lt hk)
  have hfr1 : ∀ v : Int32, zfr S (zsI S 28 v) [28] [15, 17] := fun v => ⟨fun j hj => by show (if j = 28 then _ else S.1 j) = _; rw [if_neg (fun e => hj (by rw [e]; exact List.mem_cons_self))], fun _ _ => rfl⟩
  rcases z8 hd with rfl | rfl | rfl | rfl | rfl | rfl | rfl | rfl
  · obtain ⟨S1, e1, a1, b1, c1⟩ := pM_grow hz hw (by omega) hn hnc hc
    have h3 : S1.1 18 = nI n := (zfr_i c1 (by decide)).trans hz
    have h4 : zRp (S1.2 15) n g := by rw [zfr_r c1 (by decide)]; exact hr
    have h5 := h0 rfl
    have hh1 := pM_halving h3 hn h4 hg (Nat.le_of_lt hk)
    obtain ⟨S2, e2, a2, b2⟩ := pM_onSorted_62 (e := zhe g ky n) (x := zgr n c + zhs g ky n) h5 hk (n - zhe g ky n) 1000 (zsI S1 28 (nI (zhe g ky n))) (by omega) (by omega) rfl h3
    rw [show zhe g ky n + (n - zhe g ky n) = n by omega] at e2
    refine ⟨S2, ?_, ?_, ?_, ?_, ?_⟩
    · simp (disch := omega) only [fM_X11_onSorted, e1, hh1, zsI_1, h3, zsoC, ↓zN_eq, zL0, zL1, zL2, zL3, zL4, zL5, zL6, zL7, zL8, zL10, zL16, zL31, zL42, zL63, zL64, zL100, zL200, zL255, zL256, zL1000, zL12345, zL536870912, zI_le, zI_lt, zI_eq, zI_add, zI_sub, zI_mul, zI_neN, zI_Nne, zI_leN, zI_ltN, zI_Nle, zI_Nlt, zI_pred, zI_clamp, zI_div, zI_rem, zin_t, zgd_t, znz_t, if_pos, if_neg, if_true, if_false, Option.bind_some]
      rw [e2]
      congr 3; omega
    · rw [zfr_r b2 (by decide)]; exact a1
    · intro j hj; rw [zfr_r b2 (by decide)]; exact b1 j hj
    · intro j hj
      have hj2 : j < n + 1 := hj
      rw [a2 j hj2]
      show _ = nI (zins g (zhe g ky n) ky j)
      have h4' : ∀ j, j < n → (zsI S1 28 (nI (zhe g ky n))).2 15 j = nI (g j) := h4
      unfold zins
      by_cases h6 : j < zhe g ky n
      · rw [if_pos h6, if_pos h6, h4' j (by omega)]
      · rw [if_neg h6, if_neg h6]
        by_cases h7 : j = zhe g ky n
        · rw [if_pos h7, if_pos h7]
        · rw [if_neg h7, if_neg h7, if_pos (by omega), h4' (j - 1) (by omega)]
    · refine zfr_tr (zfr_mono c1 (by decide) (by decide)) (zfr_tr (S' := zsI S1 28 (nI (zhe g ky n))) ⟨fun j hj => by show (if j = 28 then _ else S1.1 j) = _; rw [if_neg (fun e => hj (by rw [e]; exact List.mem_cons_self))], fun _ _ => rfl⟩ (zfr_mono b2 (by decide) (by decide)))
  · refine ⟨zsI S 28 (nI (zhe g ky n)), ?_, hw, fun _ _ => rfl, hr, hfr1 _⟩
    by_cases h : zhe g ky n < n
    · simp (disch := omega) only [fM_X11_onSorted, hh, zsI_1, hz, zsoC, ↓zN_eq, zL0, zL1, zL2, zL3, zL4, zL5, zL6, zL7, zL8, zL10, zL16, zL31, zL42, zL63, zL64, zL100, zL200, zL255, zL256, zL1000, zL12345, zL536870912, zI_le, zI_lt, zI_eq, zI_add, zI_sub, zI_mul, zI_neN, zI_Nne, zI_leN, zI_ltN, zI_Nle, zI_Nlt, zI_pred, zI_clamp, zI_div, zI_rem, zin_t, zgd_t, znz_t, if_pos, if_neg, if_true, if_false, Option.bind_some]
    · simp (disch := omega) only [fM_X11_onSorted, hh, zsI_1, hz, zsoC, ↓zN_eq, zL0, zL1, zL2, zL3, zL4, zL5, zL6, zL7, zL8, zL10, zL16, zL31, zL42, zL63, zL64, zL100, zL200, zL255, zL256, zL1000, zL12345, zL536870912, zI_le, zI_lt, zI_eq, zI_add, zI_sub, zI_mul, zI_neN, zI_Nne, zI_leN, zI_ltN, zI_Nle, zI_Nlt, zI_pred, zI_clamp, zI_div, zI_rem, zin_t, zgd_t, znz_t, if_pos, if_neg, if_true, if_false, Option.bind_some]
  · by_cases h : zhe g ky n < n
    · have hgb := hg _ h
      have hr' : ∀ j, j < n → S.2 15 j = nI (g j) := hr
      by_cases h5 : g (zhe g ky n) = ky
      · have h6 : zhe g ky n < n ∧ g (zhe g ky n) = ky := ⟨h, h5⟩
        obtain ⟨S2, e2, a2, b2⟩ := pM_takeOut_sorted (S := zsI S 28 (nI (zhe g ky n))) hn h hr
        have k1 : S2.1 18 = nI n := (zfr_i b2 (by decide)).trans hz
        have k2 : S2.1 28 = nI (zhe g ky n) := (zfr_i b2 (by decide)).trans rfl
        refine ⟨S2, ?_, ?_, ?_, ?_, zfr_tr (hfr1 (nI (zhe g ky n))) (zfr_mono b2 (by decide) (by decide))⟩
        · simp (disch := omega) only [fM_X11_onSorted, hh, zsI_1, zsI_2, hz, hr', h5, e2, k1, k2, zsoC, h6, and_self, ↓zN_eq, zL0, zL1, zL2, zL3, zL4, zL5, zL6, zL7, zL8, zL10, zL16, zL31, zL42, zL63, zL64, zL100, zL200, zL255, zL256, zL1000, zL12345, zL536870912, zI_le, zI_lt, zI_eq, zI_add, zI_sub, zI_mul, zI_neN, zI_Nne, zI_leN, zI_ltN, zI_Nle, zI_Nlt, zI_pred, zI_clamp, zI_div, zI_rem, zin_t, zgd_t, znz_t, if_pos, if_neg, if_true, if_false, Option.bind_some]
        · rw [zfr_r b2 (by decide)]; exact hw
        · intro j _; rw [zfr_r b2 (by decide)]; rfl
        · unfold znx zsoG; rw [if_neg (by decide), if_pos rfl, if_pos h6, if_neg (by decide), if_pos rfl, if_pos h6]; exact a2
      · have h6 : ¬ (zhe g ky n < n ∧ g (zhe g ky n) = ky) := fun q => h5 q.2
        refine ⟨zsI S 28 (nI (zhe g ky n)), ?_, hw, fun _ _ => rfl, ?_, hfr1 _⟩
        · simp (disch := omega) only [fM_X11_onSorted, hh, zsI_1, zsI_2, hz, hr', zsoC, h6, ↓zN_eq, zL0, zL1, zL2, zL3, zL4, zL5, zL6, zL7, zL8, zL10, zL16, zL31, zL42, zL63, zL64, zL100, zL200, zL255, zL256, zL1000, zL12345, zL536870912, zI_le, zI_lt, zI_eq, zI_add, zI_sub, zI_mul, zI_neN, zI_Nne, zI_leN, zI_ltN, zI_Nle, zI_Nlt, zI_pred, zI_clamp, zI_div, zI_rem, zin_t, zgd_t, znz_t, if_pos, if_neg, if_true, if_false, Option.bind_some]
        · unfold znx zsoG; rw [if_neg (by decide), if_pos rfl, if_neg h6, if_neg (by decide), if_pos rfl, if_neg h6]; exact hr
    · have h6 : ¬ (zhe g ky n < n ∧ g (zhe g ky n) = ky) := fun q => h q.1
      refine ⟨zsI S 28 (nI (zhe g ky n)), ?_, hw, fun _ _ => rfl, ?_, hfr1 _⟩
      · simp (disch := omega) only [fM_X11_onSorted, hh, zsI_1, hz, zsoC, h6, ↓zN_eq, zL0, zL1, zL2, zL3, zL4, zL5, zL6, zL7, zL8, zL10, zL16, zL31, zL42, zL63, zL64, zL100, zL200, zL255, zL256, zL1000, zL12345, zL536870912, zI_le, zI_lt, zI_eq, zI_add, zI_sub, zI_mul, zI_neN, zI_Nne, zI_leN, zI_ltN, zI_Nle, zI_Nlt, zI_pred, zI_clamp, zI_div, zI_rem, zin_t, zgd_t, znz_t, if_pos, if_neg, if_true, if_false, Option.bind_some]
      · unfold znx zsoG; rw [if_neg (by decide), if_pos rfl, if_neg h6, if_neg (by decide), if_pos rfl, if_neg h6]; exact hr
  · exact ⟨S, by simp (disch := omega) only [fM_X11_onSorted, zsoC, hz, ↓zN_eq, zL0, zL1, zL2, zL3, zL4, zL5, zL6, zL7, zL8, zL10, zL16, zL31, zL42, zL63, zL64, zL100, zL200, zL255, zL256, zL1000, zL12345, zL536870912, zI_le, zI_lt, zI_eq, zI_add, zI_sub, zI_mul, zI_neN, zI_Nne, zI_leN, zI_ltN, zI_Nle, zI_Nlt, zI_pred, zI_clamp, zI_div, zI_rem, zin_t, zgd_t, znz_t, if_pos, if_neg, if_true, if_false, Option.bind_some], hw, fun _ _ => rfl, hr, zfr_rf⟩
  · exact ⟨S, by simp (disch := omega) only [fM_X11_onSorted, zsoC, hz, ↓zN_eq, zL0, zL1, zL2, zL3, zL4, zL5, zL6, zL7, zL8, zL10, zL16, zL31, zL42, zL63, zL64, zL100, zL200, zL255, zL256, zL1000, zL12345, zL536870912, zI_le, zI_lt, zI_eq, zI_add, zI_sub, zI_mul, zI_neN, zI_Nne, zI_leN, zI_ltN, zI_Nle, zI_Nlt, zI_pred, zI_clamp, zI_div, zI_rem, zin_t, zgd_t, znz_t, if_pos, if_neg, if_true, if_false, Option.bind_some], hw, fun _ _ => rfl, hr, zfr_rf⟩
  · refine ⟨zsI S 28 (nI (zhe g ky n)), ?_, hw, fun _ _ => rfl, hr, hfr1 _⟩
    by_cases h : zhe g ky n < n
    · simp (disch := omega) only [fM_X11_onSorted, hh, zsI_1, hz, zsoC, ↓zN_eq, zL0, zL1, zL2, zL3, zL4, zL5, zL6, zL7, zL8, zL10, zL16, zL31, zL42, zL63, zL64, zL100, zL200, zL255, zL256, zL1000, zL12345, zL536870912, zI_le, zI_lt, zI_eq, zI_add, zI_sub, zI_mul, zI_neN, zI_Nne, zI_leN, zI_ltN, zI_Nle, zI_Nlt, zI_pred, zI_clamp, zI_div, zI_rem, zin_t, zgd_t, znz_t, if_pos, if_neg, if_true, if_false, Option.bind_some]
    · simp (disch := omega) only [fM_X11_onSorted, hh, zsI_1, hz, zsoC, ↓zN_eq, zL0, zL1, zL2, zL3, zL4, zL5, zL6, zL7, zL8, zL10, zL16, zL31, zL42, zL63, zL64, zL100, zL200, zL255, zL256, zL1000, zL12345, zL536870912, zI_le, zI_lt, zI_eq, zI_add, zI_sub, zI_mul, zI_neN, zI_Nne, zI_leN, zI_ltN, zI_Nle, zI_Nlt, zI_pred, zI_clamp, zI_div, zI_rem, zin_t, zgd_t, znz_t, if_pos, if_neg, if_true, if_false, Option.bind_some]
  · exact ⟨S, by simp (disch := omega) only [fM_X11_onSorted, zsoC, hz, ↓zN_eq, zL0, zL1, zL2, zL3, zL4, zL5, zL6, zL7, zL8, zL10, zL16, zL31, zL42, zL63, zL64, zL100, zL200, zL255, zL256, zL1000, zL12345, zL536870912, zI_le, zI_lt, zI_eq, zI_add, zI_sub, zI_mul, zI_neN, zI_Nne, zI_leN, zI_ltN, zI_Nle, zI_Nlt, zI_pred, zI_clamp, zI_div, zI_rem, zin_t, zgd_t, znz_t, if_pos, if_neg, if_true, if_false, Option.bind_some], hw, fun _ _ => rfl, hr, zfr_rf⟩
  · have hz2 : (zsI S 28 (nI (zhe g ky n))).1 18 = nI n := hz
    have hh2 := pM_halving (S := zsI S 28 (nI (zhe g ky n))) hz2 hn hr hg (show ky + 1 ≤ 64 by omega)
    refine ⟨zsI (zsI S 28 (nI (zhe g ky n))) 28 (nI (zhe g (ky + 1) n)), ?_, hw, fun _ _ => rfl, hr, ?_⟩
    · simp (disch := omega) only [fM_X11_onSorted, hh, hh2, zsoC, ↓zN_eq, zL0, zL1, zL2, zL3, zL4, zL5, zL6, zL7, zL8, zL10, zL16, zL31, zL42, zL63, zL64, zL100, zL200, zL255, zL256, zL1000, zL12345, zL536870912, zI_le, zI_lt, zI_eq, zI_add, zI_sub, zI_mul, zI_neN, zI_Nne, zI_leN, zI_ltN, zI_Nle, zI_Nlt, zI_pred, zI_clamp, zI_div, zI_rem, zin_t, zgd_t, znz_t, if_pos, if_neg, if_true, if_false, Option.bind_some]
    · exact zfr_tr (hfr1 (nI (zhe g ky n))) ⟨fun j hj => by show (if j = 28 then _ else _) = _; rw [if_neg (fun e => hj (by rw [e]; exact List.mem_cons_self))], fun _ _ => rfl⟩

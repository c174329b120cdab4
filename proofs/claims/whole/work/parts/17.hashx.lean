/-! HASH: the class's line of chains -/
def zPw (B : Nat) : Prop := B = 8 ∨ B = 16 ∨ B = 32 ∨ B = 64 ∨ B = 128
theorem zPw_b {B : Nat} (h : zPw B) : 8 ≤ B ∧ B ≤ 128 := by unfold zPw at h; omega
theorem pX_chainOf {S : zSt} {B k : Nat} (hw : S.1 26 = nI B) (hB : zPw B) (hk : k < 64) : fX_X2_chainOf (nI k) S = some (nI (k % B)) := by
  have hb := zPw_b hB
  unfold fX_X2_chainOf
  rw [hw, zL1, zI_sub (by omega)]
  rcases hB with rfl | rfl | rfl | rfl | rfl
  · rw [pk_andN (by omega) 3 (by rw [pk_tn (by omega)])]
  · rw [pk_andN (by omega) 4 (by rw [pk_tn (by omega)])]
  · rw [pk_andN (by omega) 5 (by rw [pk_tn (by omega)])]
  · rw [pk_andN (by omega) 6 (by rw [pk_tn (by omega)])]
  · rw [pk_andN (by omega) 7 (by rw [pk_tn (by omega)])]
/-- where a chain begins, where it ends -/
def zhd (ch : Nat → Nat) (c : Nat) : Nat → Nat → Nat
  | 0, i => i
  | r + 1, i => if c ≤ ch i then i else zhd ch c r (i + 1)
def zen (ch : Nat → Nat) (c : Nat) : Nat → Nat → Nat
  | 0, i => i
  | r + 1, i => if ch i = c then zen ch c r (i + 1) else i
theorem zhd_le (ch : Nat → Nat) (c : Nat) : ∀ r i, i ≤ zhd ch c r i ∧ zhd ch c r i ≤ i + r := by
  intro r
  induction r with
  | zero => intro i; exact ⟨Nat.le_refl _, Nat.le_refl _⟩
  | succ r ih =>
    intro i
    unfold zhd
    by_cases h : c ≤ ch i
    · rw [if_pos h]; omega
    · rw [if_neg h]; have := ih (i + 1); omega
theorem zhd_lt (ch : Nat → Nat) (c : Nat) : ∀ r i j, i ≤ j → j < zhd ch c r i → ch j < c := by
  intro r
  induction r with
  | zero => intro i j h1 h2; exact absurd h2 (by unfold zhd; omega)
  | succ r ih =>
    intro i j h1
    unfold zhd
    by_cases h : c ≤ ch i
    · rw [if_pos h]; intro h2; omega
    · rw [if_neg h]
      intro h2
      by_cases e : j = i
      · rw [e]; omega
      · exact ih (i + 1) j (by omega) h2
theorem zhd_at (ch : Nat → Nat) (c : Nat) : ∀ r i, zhd ch c r i < i + r → c ≤ ch (zhd ch c r i) := by
  intro r
  induction r with
  | zero => intro i h; exact absurd h (by unfold zhd; omega)
  | succ r ih =>
    intro i
    unfold zhd
    by_cases h : c ≤ ch i
    · rw [if_pos h]; intro _; exact h
    · rw [if_neg h]; intro h2; exact ih (i + 1) (by omega)
theorem zen_le (ch : Nat → Nat) (c : Nat) : ∀ r i, i ≤ zen ch c r i ∧ zen ch c r i ≤ i + r := by
  intro r
  induction r with
  | zero => intro i; exact ⟨Nat.le_refl _, Nat.le_refl _⟩
  | succ r ih =>
    intro i
    unfold zen
    by_cases h : ch i = c
    · rw [if_pos h]; have := ih (i + 1); omega
    · rw [if_neg h]; omega
theorem zen_eq (ch : Nat → Nat) (c : Nat) : ∀ r i j, i ≤ j → j < zen ch c r i → ch j = c := by
  intro r
  induction r with
  | zero => intro i j h1 h2; exact absurd h2 (by unfold zen; omega)
  | succ r ih =>
    intro i j h1
    unfold zen
    by_cases h : ch i = c
    · rw [if_pos h]
      intro h2
      by_cases e : j = i
      · rw [e]; exact h
      · exact ih (i + 1) j (by omega) h2
    · rw [if_neg h]; intro h2; omega
theorem zen_at (ch : Nat → Nat) (c : Nat) : ∀ r i, zen ch c r i < i + r → ch (zen ch c r i) ≠ c := by
  intro r
  induction r with
  | zero => intro i h; exact absurd h (by unfold zen; omega)
  | succ r ih =>
    intro i
    unfold zen
    by_cases h : ch i = c
    · rw [if_pos h]; intro h2; exact ih (i + 1) (by omega)
    · rw [if_neg h]; intro _; exact h
def zHd (g : Nat → Nat) (B n c : Nat) : Nat := zhd (fun j => g j % B) c n 0
def zEn (g : Nat → Nat) (B n c : Nat) : Nat := zen (fun j => g j % B) c (n - zHd g B n c) (zHd g B n c)
theorem zHd_le (g : Nat → Nat) (B n c : Nat) : zHd g B n c ≤ n := by have := (zhd_le (fun j => g j % B) c n 0).2; unfold zHd; omega
theorem zEn_le (g : Nat → Nat) (B n c : Nat) : zHd g B n c ≤ zEn g B n c ∧ zEn g B n c ≤ n := by
  have h := zen_le (fun j => g j % B) c (n - zHd g B n c) (zHd g B n c)
  have h2 := zHd_le g B n c
  unfold zEn; omega
theorem pX_head_2 {S : zSt} {B n c : Nat} {g : Nat → Nat} (hz : S.1 27 = nI n) (hw : S.1 26 = nI B) (hB : zPw B) (hn : n ≤ 200) (hr : zRp (S.2 35) n g) (hg : zK64 g n) (hc : c ≤ 128) : ∀ r i m, r < m → i + r = n → fX_X2_headOfChain_2 m (nI c) (nI i) S = some (nI (zhd (fun j => g j % B) c r i)) := by
  have hb := zPw_b hB
  have hr' : ∀ j, j < n → S.2 35 j = nI (g j) := hr
  intro r
  induction r with
  | zero =>
    intro i m hm hi
    obtain ⟨m, rfl⟩ : ∃ m', m = m' + 1 := ⟨m - 1, by omega⟩
    rw [show zhd (fun j => g j % B) c 0 i = i from rfl]
    simp (disch := omega) only [fX_X2_headOfChain_2, hz, ↓zN_eq, zL0, zL1, zL2, zL3, zL4, zL5, zL6, zL7, zL8, zL10, zL16, zL31, zL42, zL63, zL64, zL100, zL200, zL255, zL256, zL1000, zL12345, zL536870912, zI_le, zI_lt, zI_eq, zI_add, zI_sub, zI_mul, zI_neN, zI_Nne, zI_leN, zI_ltN, zI_Nle, zI_Nlt, zI_pred, zI_clamp, zI_div, zI_rem, zin_t, zgd_t, znz_t, if_pos, if_neg, if_true, if_false, Option.bind_some]
  | succ r ih =>
    intro i m hm hi
    obtain ⟨m, rfl⟩ : ∃ m', m = m' + 1 := ⟨m - 1, by omega⟩
    have h1 := hg i (by omega)
    have h2 := pX_chainOf hw hB h1
    have h3 : g i % B < B := Nat.mod_lt _ (by omega)
    unfold zhd
    by_cases h : c ≤ g i % B
    · rw [if_pos h]
      simp (disch := omega) only [fX_X2_headOfChain_2, hz, hr', h2, ↓zN_eq, zL0, zL1, zL2, zL3, zL4, zL5, zL6, zL7, zL8, zL10, zL16, zL31, zL42, zL63, zL64, zL100, zL200, zL255, zL256, zL1000, zL12345, zL536870912, zI_le, zI_lt, zI_eq, zI_add, zI_sub, zI_mul, zI_neN, zI_Nne, zI_leN, zI_ltN, zI_Nle, zI_Nlt, zI_pred, zI_clamp, zI_div, zI_rem, zin_t, zgd_t, znz_t, if_pos, if_neg, if_true, if_false, Option.bind_some]
    · rw [if_neg h]
      simp (disch := omega) only [fX_X2_headOfChain_2, hz, hr', h2, ↓zN_eq, zL0, zL1, zL2, zL3, zL4, zL5, zL6, zL7, zL8, zL10, zL16, zL31, zL42, zL63, zL64, zL100, zL200, zL255, zL256, zL1000, zL12345, zL536870912, zI_le, zI_lt, zI_eq, zI_add, zI_sub, zI_mul, zI_neN, zI_Nne, zI_leN, zI_ltN, zI_Nle, zI_Nlt, zI_pred, zI_clamp, zI_div, zI_rem, zin_t, zgd_t, znz_t, if_pos, if_neg, if_true, if_false, Option.bind_some]
      exact ih (i + 1) m (by omega) (by omega)
theorem pX_head {S : zSt} {B n c : Nat} {g : Nat → Nat} (hz : S.1 27 = nI n) (hw : S.1 26 = nI B) (hB : zPw B) (hn : n ≤ 200) (hr : zRp (S.2 35) n g) (hg : zK64 g n) (hc : c ≤ 128) : fX_X2_headOfChain (nI c) S = some (nI (zHd g B n c)) := by
  unfold fX_X2_headOfChain
  rw [zL0, pX_head_2 hz hw hB hn hr hg hc n 0 1000 (by omega) (by omega)]
  rfl
/-- the line is laid chain behind chain -/
def zchn (g : Nat → Nat) (B n : Nat) : Prop := ∀ i j, i ≤ j → j < n → g i % B ≤ g j % B
theorem zHd_ch {g : Nat → Nat} {B n c : Nat} (hs : zchn g B n) : (∀ j, j < zHd g B n c → g j % B < c) ∧ ∀ j, zHd g B n c ≤ j → j < n → c ≤ g j % B := by
  refine ⟨fun j h => zhd_lt (fun j => g j % B) c n 0 j (by omega) h, fun j h1 h2 => ?_⟩
  have h3 := zhd_at (fun j => g j % B) c n 0 (by unfold zHd at h1; omega)
  have h4 := hs (zHd g B n c) j h1 h2
  unfold zHd at h4
  omega
theorem zEn_ch {g : Nat → Nat} {B n c : Nat} (hs : zchn g B n) : (∀ j, zHd g B n c ≤ j → j < zEn g B n c → g j % B = c) ∧ ∀ j, zEn g B n c ≤ j → j < n → c < g j % B := by
  refine ⟨fun j h1 h2 => zen_eq (fun j => g j % B) c _ _ j h1 h2, fun j h1 h2 => ?_⟩
  have h0 := zHd_le g B n c
  have h5 := zEn_le g B n c
  have h3 := zen_at (fun j => g j % B) c (n - zHd g B n c) (zHd g B n c) (by unfold zEn at h1 h5; omega)
  have h4 := hs (zEn g B n c) j h1 h2
  have h6 := (zHd_ch hs).2 (zEn g B n c) h5.1 (by omega)
  unfold zEn at h4 h6
  omega
theorem zEn_Hd {g : Nat → Nat} {B n c : Nat} (hc : zchn g B n) : zEn g B n c = zHd g B n (c + 1) := by
  have a1 := zEn_le g B n c
  have a2 := zEn_ch (c := c) hc
  have a3 := zHd_ch (c := c) hc
  have b1 := zHd_le g B n (c + 1)
  have b2 := zHd_ch (c := c + 1) hc
  rcases Nat.lt_trichotomy (zEn g B n c) (zHd g B n (c + 1)) with q | q | q
  · have h1 := b2.1 _ q
    have h2 := a2.2 (zEn g B n c) (Nat.le_refl _) (by omega)
    omega
  · exact q
  · have h1 := b2.2 (zHd g B n (c + 1)) (Nat.le_refl _) (by omega)
    rcases Nat.lt_or_ge (zHd g B n (c + 1)) (zHd g B n c) with r | r
    · have := a3.1 _ r; omega
    · have := a2.1 _ r q; omega
/-- the first of a key lies in its chain -/
theorem zpl_ch {g : Nat → Nat} {B n k : Nat} (hs : zchn g B n) (h : zpl g k n 0 < n) : zHd g B n (k % B) ≤ zpl g k n 0 ∧ zpl g k n 0 < zEn g B n (k % B) := by
  have h1 := zpl_at g k n 0 (by omega)
  have h2 := zHd_ch (c := k % B) hs
  have h3 := zEn_ch (c := k % B) hs
  constructor
  · rcases Nat.lt_or_ge (zpl g k n 0) (zHd g B n (k % B)) with q | q
    · have := h2.1 _ q; rw [h1] at this; omega
    · exact q
  · rcases Nat.lt_or_ge (zpl g k n 0) (zEn g B n (k % B)) with q | q
    · exact q
    · have := h3.2 _ q h; rw [h1] at this; omega
def zhsG (kd ky n B : Nat) (g : Nat → Nat) : Nat → Nat := if kd = 0 then zins g (zHd g B n (ky % B)) ky else if kd = 2 then (if zpl g ky n 0 < n then zdel g (zpl g ky n 0) else g) else g
def zhsK (ky n B : Nat) (g : Nat → Nat) : Nat := if zpl g ky n 0 < n then 2 + zpl g ky n 0 - zHd g B n (ky % B) else 1 + zEn g B n (ky % B) - zHd g B n (ky % B)
/-- laid anew into twice as many chains -/
def zsp (g : Nat → Nat) (B : Nat) : Nat → Nat → Nat
  | 0 => fun _ => 0
  | i + 1 => zins (zsp g B i) (zHd (zsp g B i) B i (g i % B)) (g i)
theorem zK64_sp {g : Nat → Nat} {B n : Nat} (hg : zK64 g n) : ∀ i, i ≤ n → zK64 (zsp g B i) i := by
  intro i
  induction i with
  | zero => intro _ j hj; omega
  | succ i ih => intro hi; exact zK64_ins (ih (by omega)) (zHd_le _ _ _ _) (hg i (by omega))
theorem pX_seek {S : zSt} {B n k : Nat} {g : Nat → Nat} (hz : S.1 27 = nI n) (hw : S.1 26 = nI B) (hB : zPw B) (hn : n ≤ 200) (hr : zRp (S.2 35) n g) (hg : zK64 g n) (hs : zchn g B n) (hk : k < 64) : fX_X2_seek (nI k) S = some (nI (zhsK k n B g)) := by
  have hb := zPw_b hB
  have h3 : k % B < B := Nat.mod_lt _ (by omega)
  have hp := pX_placeOf_Hash hz hn hr hg hk
  have hc := pX_chainOf hw hB hk
  have hh := pX_head (c := k % B) hz hw hB hn hr hg (by omega)
  have he := pX_head (c := k % B + 1) hz hw hB hn hr hg (by omega)
  rw [← zEn_Hd hs] at he
  have h1 := zEn_le g B n (k % B)
  by_cases h : zpl g k n 0 < n
  · have h2 := zpl_ch hs h
    rw [if_pos h] at hp
    simp (disch := omega) only [fX_X2_seek, fX_X2_seek_30, hp, hc, hh, zhsK, ↓zN_eq, zL0, zL1, zL2, zL3, zL4, zL5, zL6, zL7, zL8, zL10, zL16, zL31, zL42, zL63, zL64, zL100, zL200, zL255, zL256, zL1000, zL12345, zL536870912, zI_le, zI_lt, zI_eq, zI_add, zI_sub, zI_mul, zI_neN, zI_Nne, zI_leN, zI_ltN, zI_Nle, zI_Nlt, zI_pred, zI_clamp, zI_div, zI_rem, zin_t, zgd_t, znz_t, if_pos, if_neg, if_true, if_false, Option.bind_some]
    congr 2; omega
  · rw [if_neg h] at hp
    simp (disch := omega) only [fX_X2_seek, fX_X2_seek_30, hp, hc, hh, he, zhsK, ↓zN_eq, zL0, zL1, zL2, zL3, zL4, zL5, zL6, zL7, zL8, zL10, zL16, zL31, zL42, zL63, zL64, zL100, zL200, zL255, zL256, zL1000, zL12345, zL536870912, zI_le, zI_lt, zI_eq, zI_add, zI_sub, zI_mul, zI_neN, zI_Nne, zI_leN, zI_ltN, zI_Nle, zI_Nlt, zI_pred, zI_clamp, zI_div, zI_rem, zin_t, zgd_t, znz_t, if_pos, if_neg, if_true, if_false, Option.bind_some]
theorem pX_putAtHead {S : zSt} {B n k : Nat} {g : Nat → Nat} (hz : S.1 27 = nI n) (hw : S.1 26 = nI B) (hB : zPw B) (hn : n < 200) (hr : zRp (S.2 35) n g) (hg : zK64 g n) (hk : k < 64) : ∃ S', fX_X2_putAtHead (nI k) S = some (nI 1, S') ∧ S'.1 27 = nI (n + 1) ∧ zRp (S'.2 35) (n + 1) (zins g (zHd g B n (k % B)) k) ∧ zfr S S' [27] [35] := by
  have hb := zPw_b hB
  have h3 : k % B < B := Nat.mod_lt _ (by omega)
  obtain ⟨S1, e1, a1, b1, c1⟩ := pX_insert_Hash (k := k) hz hn hr (zHd_le g B n (k % B))
  refine ⟨S1, ?_, a1, b1, c1⟩
  unfold fX_X2_putAtHead
  rw [pX_chainOf hw hB hk, Option.bind_some, pX_head hz hw hB (by omega) hr hg (by omega), Option.bind_some, e1]
  rfl
theorem pX_spread_51 {B n : Nat} {g : Nat → Nat} (hB : zPw B) (hn : n ≤ 200) (hg : zK64 g n) : ∀ r i m S, r < m → i + r = n → S.1 27 = nI i → S.1 26 = nI B → zRp (S.2 37) n g → zRp (S.2 35) i (zsp g B i) → ∃ S', fX_X2_spreadIfFull_51 m (nI n) (nI i) S = some (nI n, S') ∧ S'.1 27 = nI n ∧ zRp (S'.2 35) n (zsp g B n) ∧ zfr S S' [27] [35] := by
  intro r
  induction r with
  | zero =>
    intro i m S hm hi hz hw hq hr
    obtain ⟨m, rfl⟩ : ∃ m', m = m' + 1 := ⟨m - 1, by omega⟩
    have e : i = n := by omega
    subst e
    exact ⟨S, by simp (disch := omega) only [fX_X2_spreadIfFull_51, ↓zN_eq, zL0, zL1, zL2, zL3, zL4, zL5, zL6, zL7, zL8, zL10, zL16, zL31, zL42, zL63, zL64, zL100, zL200, zL255, zL256, zL1000, zL12345, zL536870912, zI_le, zI_lt, zI_eq, zI_add, zI_sub, zI_mul, zI_neN, zI_Nne, zI_leN, zI_ltN, zI_Nle, zI_Nlt, zI_pred, zI_clamp, zI_div, zI_rem, zin_t, zgd_t, znz_t, if_pos, if_neg, if_true, if_false, Option.bind_some], hz, hr, zfr_rf⟩
  | succ r ih =>
    intro i m S hm hi hz hw hq hr
    obtain ⟨m, rfl⟩ : ∃ m', m = m' + 1 := ⟨m - 1, by omega⟩
    have hq' : ∀ j, j < n → S.2 37 j = nI (g j) := hq
    have hgi := hg i (by omega)
    obtain ⟨S1, e1, a1, b1, c1⟩ := pX_putAtHead hz hw hB (by omega) hr (zK64_sp (B := B) hg i (by omega)) hgi
    obtain ⟨S2, e2, a2, b2, c2⟩ := ih (i + 1) m S1 (by omega) (by omega) a1 ((zfr_i c1 (by decide)).trans hw) (by rw [zfr_r c1 (by decide)]; exact hq) b1
    refine ⟨S2, ?_, a2, b2, zfr_tr c1 c2⟩
    simp (disch := omega) only [fX_X2_spreadIfFull_51, hq', e1, ↓zN_eq, zL0, zL1, zL2, zL3, zL4, zL5, zL6, zL7, zL8, zL10, zL16, zL31, zL42, zL63, zL64, zL100, zL200, zL255, zL256, zL1000, zL12345, zL536870912, zI_le, zI_lt, zI_eq, zI_add, zI_sub, zI_mul, zI_neN, zI_Nne, zI_leN, zI_ltN, zI_Nle, zI_Nlt, zI_pred, zI_clamp, zI_div, zI_rem, zin_t, zgd_t, znz_t, if_pos, if_neg, if_true, if_false, Option.bind_some]
    exact e2
theorem pX_spread {S : zSt} {B n : Nat} {g : Nat → Nat} (hz : S.1 27 = nI n) (hw : S.1 26 = nI B) (hB : zPw B) (hn : n < 200) (hr : zRp (S.2 35) n g) (hg : zK64 g n) : ∃ S', fX_X2_spreadIfFull S = some (nI (if n = 2 * B then n else 0), S') ∧ S'.1 27 = nI n ∧ S'.1 26 = nI (if n = 2 * B then B * 2 else B) ∧ zRp (S'.2 35) n (if n = 2 * B then zsp g (B * 2) n else g) ∧ zfr S S' [27, 26] [35, 37] := by
  have hb := zPw_b hB
  by_cases h : n = 2 * B
  · have hB2 : zPw (B * 2) := by unfold zPw at hB ⊢; omega
    have hfr : zfr S (zsI (zsI (zcp S 35 37 (nI 0) (nI 0) (nI n)) 26 (nI (B * 2))) 27 (nI 0)) [27, 26] [35, 37] := zfr_tr (zfr_tr (zfr_sA (by decide)) (zfr_sI (by decide))) (zfr_sI (by decide))
    obtain ⟨S1, e1, a1, b1, c1⟩ := pX_spread_51 hB2 (show n ≤ 200 by omega) hg n 0 1000 (zsI (zsI (zcp S 35 37 (nI 0) (nI 0) (nI n)) 26 (nI (B * 2))) 27 (nI 0)) (by omega) (by omega) rfl rfl (by
      intro j hj
      show va_cpy (S.2 35) (S.2 37) (nI 0).toNatClampNeg (nI 0).toNatClampNeg (nI n).toNatClampNeg j = _
      rw [zI_clamp (by omega), zI_clamp (by omega), pk_cpy_in (by omega) (by omega), hr _ (by omega)]
      congr 2; omega) (fun j hj => absurd hj (by omega))
    refine ⟨S1, ?_, a1, ?_, ?_, zfr_tr hfr (zfr_mono c1 (by decide) (by decide))⟩
    · simp (disch := omega) only [fX_X2_spreadIfFull, hz, hw, zcg_t, ↓zN_eq, zL0, zL1, zL2, zL3, zL4, zL5, zL6, zL7, zL8, zL10, zL16, zL31, zL42, zL63, zL64, zL100, zL200, zL255, zL256, zL1000, zL12345, zL536870912, zI_le, zI_lt, zI_eq, zI_add, zI_sub, zI_mul, zI_neN, zI_Nne, zI_leN, zI_ltN, zI_Nle, zI_Nlt, zI_pred, zI_clamp, zI_div, zI_rem, zin_t, zgd_t, znz_t, if_pos, if_neg, if_true, if_false, Option.bind_some]
      exact e1
    · rw [if_pos h]; exact (zfr_i c1 (by decide)).trans rfl
    · rw [if_pos h]; exact b1
  · refine ⟨S, ?_, hz, ?_, ?_, zfr_rf⟩
    · simp (disch := omega) only [fX_X2_spreadIfFull, hz, hw, ↓zN_eq, zL0, zL1, zL2, zL3, zL4, zL5, zL6, zL7, zL8, zL10, zL16, zL31, zL42, zL63, zL64, zL100, zL200, zL255, zL256, zL1000, zL12345, zL536870912, zI_le, zI_lt, zI_eq, zI_add, zI_sub, zI_mul, zI_neN, zI_Nne, zI_leN, zI_ltN, zI_Nle, zI_Nlt, zI_pred, zI_clamp, zI_div, zI_rem, zin_t, zgd_t, znz_t, if_pos, if_neg, if_true, if_false, Option.bind_some]
    · rw [if_neg h]; exact hw
    · rw [if_neg h]; exact hr

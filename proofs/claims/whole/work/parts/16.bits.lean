/-! BITS, answers: counts of keys -/
theorem zcn_ins (g : Nat → Nat) (v k : Nat) : ∀ n p, p ≤ n → zcn (zins g p v) k (n + 1) = zcn g k n + (if v = k then 1 else 0) := by
  intro n
  induction n with
  | zero =>
    intro p hp
    have h0 : p = 0 := by omega
    subst h0
    show 0 + (if zins g 0 v 0 = k then 1 else 0) = 0 + _
    rw [show zins g 0 v 0 = v from by unfold zins; rw [if_neg (by omega), if_pos rfl]]
  | succ n ih =>
    intro p hp
    have hstep : zcn (zins g p v) k (n + 1 + 1) = zcn (zins g p v) k (n + 1) + (if zins g p v (n + 1) = k then 1 else 0) := rfl
    rw [hstep, show zcn g k (n + 1) = zcn g k n + (if g n = k then 1 else 0) from rfl]
    by_cases h : p = n + 1
    · subst h
      have e1 : ∀ m, m ≤ n + 1 → zcn (zins g (n + 1) v) k m = zcn g k m := by
        intro m
        induction m with
        | zero => intro _; rfl
        | succ m ih2 =>
          intro hm
          rw [show zcn (zins g (n + 1) v) k (m + 1) = zcn (zins g (n + 1) v) k m + (if zins g (n + 1) v m = k then 1 else 0) from rfl, ih2 (by omega), show zins g (n + 1) v m = g m from by unfold zins; rw [if_pos (by omega)]]
          rfl
      rw [e1 _ (Nat.le_refl _), show zins g (n + 1) v (n + 1) = v from by unfold zins; rw [if_neg (by omega), if_pos rfl]]
      rfl
    · rw [ih p (by omega), show zins g p v (n + 1) = g n from by unfold zins; rw [if_neg (by omega), if_neg (by omega)]; rfl]
      omega
theorem zcn_congr {g h : Nat → Nat} {k : Nat} : ∀ n, (∀ j, j < n → g j = h j) → zcn g k n = zcn h k n := by
  intro n
  induction n with
  | zero => intro _; rfl
  | succ n ih =>
    intro e
    rw [show zcn g k (n + 1) = zcn g k n + (if g n = k then 1 else 0) from rfl, show zcn h k (n + 1) = zcn h k n + (if h n = k then 1 else 0) from rfl, ih (fun j hj => e j (by omega)), e n (by omega)]
theorem zins_del {g : Nat → Nat} {p : Nat} (j : Nat) : zins (zdel g p) p (g p) j = g j := by
  unfold zins zdel
  by_cases h : j < p
  · rw [if_pos h, if_pos h]
  · rw [if_neg h]
    by_cases h2 : j = p
    · rw [if_pos h2, h2]
    · rw [if_neg h2, if_neg (by omega)]; congr 1; omega
theorem zcn_del (g : Nat → Nat) (k : Nat) {n p : Nat} (hp : p < n) : zcn (zdel g p) k (n - 1) + (if g p = k then 1 else 0) = zcn g k n := by
  have h := zcn_ins (zdel g p) (g p) k (n - 1) p (by omega)
  rw [show n - 1 + 1 = n by omega] at h
  rw [← h]
  exact zcn_congr n (fun j _ => zins_del j)
theorem zcn_le (g : Nat → Nat) (k : Nat) : ∀ n, zcn g k n ≤ n := by
  intro n
  induction n with
  | zero => exact Nat.le_refl _
  | succ n ih =>
    rw [show zcn g k (n + 1) = zcn g k n + (if g n = k then 1 else 0) from rfl]
    by_cases h : g n = k
    · rw [if_pos h]; omega
    · rw [if_neg h]; omega
/-- the first key from i on, among r, that is there -/
def znk (cn : Nat → Nat) : Nat → Nat → Nat
  | 0, i => i
  | r + 1, i => if 0 < cn i then i else znk cn r (i + 1)
theorem znk_le (cn : Nat → Nat) : ∀ r i, i ≤ znk cn r i ∧ znk cn r i ≤ i + r := by
  intro r
  induction r with
  | zero => intro i; exact ⟨Nat.le_refl _, Nat.le_refl _⟩
  | succ r ih =>
    intro i
    unfold znk
    by_cases h : 0 < cn i
    · rw [if_pos h]; omega
    · rw [if_neg h]; have := ih (i + 1); omega
theorem znk_at (cn : Nat → Nat) : ∀ r i, znk cn r i < i + r → 0 < cn (znk cn r i) := by
  intro r
  induction r with
  | zero => intro i h; exact absurd h (by unfold znk; omega)
  | succ r ih =>
    intro i
    unfold znk
    by_cases h : 0 < cn i
    · rw [if_pos h]; intro _; exact h
    · rw [if_neg h]; intro h2; exact ih (i + 1) (by omega)
theorem znk_ne (cn : Nat → Nat) : ∀ r i j, i ≤ j → j < znk cn r i → cn j = 0 := by
  intro r
  induction r with
  | zero => intro i j h1 h2; exact absurd h2 (by unfold znk; omega)
  | succ r ih =>
    intro i j h1
    unfold znk
    by_cases h : 0 < cn i
    · rw [if_pos h]; intro h2; omega
    · rw [if_neg h]
      intro h2
      by_cases e : j = i
      · rw [e]; omega
      · exact ih (i + 1) j (by omega) h2
def zC2 (cn : Nat → Nat) : Prop := ∀ j, j < 64 → cn j ≤ 200
theorem pX_lookFrom_2 {S : zSt} {cn : Nat → Nat} {k : Nat} (hr : zRp (S.2 39) 64 cn) (hc : zC2 cn) : ∀ r i m, r < m → i + r = 63 → k ≤ i → fX_X0_lookFrom_2 m (nI k) (nI i) S = some (nI ((if znk cn (r + 1) i < 64 then znk cn (r + 1) i else 63) - k + 1)) := by
  have hr' : ∀ j, j < 64 → S.2 39 j = nI (cn j) := hr
  intro r
  induction r with
  | zero =>
    intro i m hm hi hk
    obtain ⟨m, rfl⟩ : ∃ m', m = m' + 1 := ⟨m - 1, by omega⟩
    have h1 : (if znk cn (0 + 1) i < 64 then znk cn (0 + 1) i else 63) = i := by
      have := znk_le cn (0 + 1) i
      by_cases h : znk cn (0 + 1) i < 64
      · rw [if_pos h]; omega
      · rw [if_neg h]; omega
    rw [h1]
    simp (disch := omega) only [fX_X0_lookFrom_2, fX_X0_lookFrom_23, ↓zN_eq, zL0, zL1, zL2, zL3, zL4, zL5, zL6, zL7, zL8, zL10, zL16, zL31, zL42, zL63, zL64, zL100, zL200, zL255, zL256, zL1000, zL12345, zL536870912, zI_le, zI_lt, zI_eq, zI_add, zI_sub, zI_mul, zI_neN, zI_Nne, zI_leN, zI_ltN, zI_Nle, zI_Nlt, zI_pred, zI_clamp, zI_div, zI_rem, zin_t, zgd_t, znz_t, if_pos, if_neg, if_true, if_false, Option.bind_some]
  | succ r ih =>
    intro i m hm hi hk
    obtain ⟨m, rfl⟩ : ∃ m', m = m' + 1 := ⟨m - 1, by omega⟩
    have hb := hc i (by omega)
    unfold znk
    by_cases h : 0 < cn i
    · rw [if_pos h, if_pos (by omega)]
      simp (disch := omega) only [fX_X0_lookFrom_2, fX_X0_lookFrom_23, hr', ↓zN_eq, zL0, zL1, zL2, zL3, zL4, zL5, zL6, zL7, zL8, zL10, zL16, zL31, zL42, zL63, zL64, zL100, zL200, zL255, zL256, zL1000, zL12345, zL536870912, zI_le, zI_lt, zI_eq, zI_add, zI_sub, zI_mul, zI_neN, zI_Nne, zI_leN, zI_ltN, zI_Nle, zI_Nlt, zI_pred, zI_clamp, zI_div, zI_rem, zin_t, zgd_t, znz_t, if_pos, if_neg, if_true, if_false, Option.bind_some]
    · rw [if_neg h]
      simp (disch := omega) only [fX_X0_lookFrom_2, hr', ↓zN_eq, zL0, zL1, zL2, zL3, zL4, zL5, zL6, zL7, zL8, zL10, zL16, zL31, zL42, zL63, zL64, zL100, zL200, zL255, zL256, zL1000, zL12345, zL536870912, zI_le, zI_lt, zI_eq, zI_add, zI_sub, zI_mul, zI_neN, zI_Nne, zI_leN, zI_ltN, zI_Nle, zI_Nlt, zI_pred, zI_clamp, zI_div, zI_rem, zin_t, zgd_t, znz_t, if_pos, if_neg, if_true, if_false, Option.bind_some]
      exact ih (i + 1) m (by omega) (by omega) (by omega)
def zlook (cn : Nat → Nat) (k : Nat) : Nat := (if znk cn (64 - k) k < 64 then znk cn (64 - k) k else 63) - k + 1
theorem pX_lookFrom {S : zSt} {cn : Nat → Nat} {k : Nat} (hr : zRp (S.2 39) 64 cn) (hc : zC2 cn) (hk : k < 64) : fX_X0_lookFrom (nI k) S = some (nI (zlook cn k)) := by
  unfold fX_X0_lookFrom
  rw [pX_lookFrom_2 hr hc (63 - k) k 1000 (by omega) (by omega) (Nat.le_refl k), show 63 - k + 1 = 64 - k by omega]
  rfl
def zbtN (kd ky : Nat) (cn : Nat → Nat) : Nat → Nat := if kd = 0 then (fun k => if k = ky then cn k + 1 else cn k) else if kd = 2 then (fun k => if k = ky then cn k - 1 else cn k) else cn
def zbtC (kd ky : Nat) (cn : Nat → Nat) : Nat := if kd = 3 then 64 else if kd = 4 then zlook cn 0 else if kd = 5 then zlook cn ky else if kd = 6 then 0 else 1
theorem zmax_p {c : Nat} (hc : c ≤ 200) : zmax (nI c - 1) 0 = nI (c - 1) := by
  unfold zmax
  by_cases h : c = 0
  · subst h; rfl
  · rw [zL1, zI_sub (by omega), if_neg (nI_pos (by omega))]
theorem zRp_up {f : Nat → Int32} {n p v : Nat} {g : Nat → Nat} (h : zRp f n g) : zRp (upd f p (nI v)) n (fun k => if k = p then v else g k) := by
  intro j hj
  show upd f p (nI v) j = nI (if j = p then v else g j)
  by_cases h1 : j = p
  · rw [h1, pk_us, if_pos rfl]
  · rw [pk_un h1, if_neg h1]; exact h j hj
theorem zRp_congr {f : Nat → Int32} {n : Nat} {g h : Nat → Nat} (hr : zRp f n g) (e : ∀ j, j < n → g j = h j) : zRp f n h := fun j hj => by rw [← e j hj]; exact hr j hj
theorem pX_Bits_step {S : zSt} {kd ky : Nat} {cn : Nat → Nat} (hr : zRp (S.2 39) 64 cn) (hc : zC2 cn) (hd : kd < 8) (hk : ky < 64) :
    ∃ S', fX_X0_step (nI kd) (nI ky) S = some (nI (zbtC kd ky cn), S') ∧ zRp (S'.2 39) 64 (zbtN kd ky cn) ∧ zfr S S' [] [39] := by
  have hr' : ∀ j, j < 64 → S.2 39 j = nI (cn j) := hr
  have hb := hc ky hk
  rcases z8 hd with rfl | rfl | rfl | rfl | rfl | rfl | rfl | rfl
  · refine ⟨zsR S 39 ky (nI (cn ky + 1)), ?_, ?_, zfr_sR (by decide)⟩
    · simp (disch := omega) only [fX_X0_step, hr', zbtC, ↓zN_eq, zL0, zL1, zL2, zL3, zL4, zL5, zL6, zL7, zL8, zL10, zL16, zL31, zL42, zL63, zL64, zL100, zL200, zL255, zL256, zL1000, zL12345, zL536870912, zI_le, zI_lt, zI_eq, zI_add, zI_sub, zI_mul, zI_neN, zI_Nne, zI_leN, zI_ltN, zI_Nle, zI_Nlt, zI_pred, zI_clamp, zI_div, zI_rem, zin_t, zgd_t, znz_t, if_pos, if_neg, if_true, if_false, Option.bind_some]
    · refine zRp_congr (zRp_up (p := ky) (v := cn ky + 1) hr) (fun j _ => ?_)
      show _ = if j = ky then cn j + 1 else cn j
      by_cases h : j = ky
      · rw [if_pos h, if_pos h, h]
      · rw [if_neg h, if_neg h]
  · exact ⟨S, by simp (disch := omega) only [fX_X0_step, zbtC, ↓zN_eq, zL0, zL1, zL2, zL3, zL4, zL5, zL6, zL7, zL8, zL10, zL16, zL31, zL42, zL63, zL64, zL100, zL200, zL255, zL256, zL1000, zL12345, zL536870912, zI_le, zI_lt, zI_eq, zI_add, zI_sub, zI_mul, zI_neN, zI_Nne, zI_leN, zI_ltN, zI_Nle, zI_Nlt, zI_pred, zI_clamp, zI_div, zI_rem, zin_t, zgd_t, znz_t, if_pos, if_neg, if_true, if_false, Option.bind_some], hr, zfr_rf⟩
  · have hm := zmax_p hb
    rw [zL1, zL0] at hm
    refine ⟨zsR S 39 ky (nI (cn ky - 1)), ?_, ?_, zfr_sR (by decide)⟩
    · rw [show fX_X0_step (nI 2) (nI ky) S = zgd (zin (nI ky) 64) (zgd (zin (nI ky) 64) (some (1, (zsR S 39 (nI ky).toNatClampNeg (zmax ((S.2 39 (nI ky).toNatClampNeg) - 1) 0))))) from by unfold fX_X0_step; rw [zL0, zL1, zL2, if_neg (by decide), if_neg (by decide), if_pos rfl]]
      rw [zin_t hk (by omega), zgd_t, zgd_t, zI_clamp (by omega), hr' ky hk, zL1, zL0, hm]
      rfl
    · refine zRp_congr (zRp_up (p := ky) (v := cn ky - 1) hr) (fun j _ => ?_)
      show _ = if j = ky then cn j - 1 else cn j
      by_cases h : j = ky
      · rw [if_pos h, if_pos h, h]
      · rw [if_neg h, if_neg h]
  · exact ⟨S, by simp (disch := omega) only [fX_X0_step, zbtC, ↓zN_eq, zL0, zL1, zL2, zL3, zL4, zL5, zL6, zL7, zL8, zL10, zL16, zL31, zL42, zL63, zL64, zL100, zL200, zL255, zL256, zL1000, zL12345, zL536870912, zI_le, zI_lt, zI_eq, zI_add, zI_sub, zI_mul, zI_neN, zI_Nne, zI_leN, zI_ltN, zI_Nle, zI_Nlt, zI_pred, zI_clamp, zI_div, zI_rem, zin_t, zgd_t, znz_t, if_pos, if_neg, if_true, if_false, Option.bind_some], hr, zfr_rf⟩
  · have hl := pX_lookFrom hr hc (show 0 < 64 by omega)
    exact ⟨S, by simp (disch := omega) only [fX_X0_step, hl, zbtC, ↓zN_eq, zL0, zL1, zL2, zL3, zL4, zL5, zL6, zL7, zL8, zL10, zL16, zL31, zL42, zL63, zL64, zL100, zL200, zL255, zL256, zL1000, zL12345, zL536870912, zI_le, zI_lt, zI_eq, zI_add, zI_sub, zI_mul, zI_neN, zI_Nne, zI_leN, zI_ltN, zI_Nle, zI_Nlt, zI_pred, zI_clamp, zI_div, zI_rem, zin_t, zgd_t, znz_t, if_pos, if_neg, if_true, if_false, Option.bind_some], hr, zfr_rf⟩
  · have hl := pX_lookFrom hr hc hk
    exact ⟨S, by simp (disch := omega) only [fX_X0_step, hl, zbtC, ↓zN_eq, zL0, zL1, zL2, zL3, zL4, zL5, zL6, zL7, zL8, zL10, zL16, zL31, zL42, zL63, zL64, zL100, zL200, zL255, zL256, zL1000, zL12345, zL536870912, zI_le, zI_lt, zI_eq, zI_add, zI_sub, zI_mul, zI_neN, zI_Nne, zI_leN, zI_ltN, zI_Nle, zI_Nlt, zI_pred, zI_clamp, zI_div, zI_rem, zin_t, zgd_t, znz_t, if_pos, if_neg, if_true, if_false, Option.bind_some], hr, zfr_rf⟩
  · exact ⟨S, by simp (disch := omega) only [fX_X0_step, zbtC, ↓zN_eq, zL0, zL1, zL2, zL3, zL4, zL5, zL6, zL7, zL8, zL10, zL16, zL31, zL42, zL63, zL64, zL100, zL200, zL255, zL256, zL1000, zL12345, zL536870912, zI_le, zI_lt, zI_eq, zI_add, zI_sub, zI_mul, zI_neN, zI_Nne, zI_leN, zI_ltN, zI_Nle, zI_Nlt, zI_pred, zI_clamp, zI_div, zI_rem, zin_t, zgd_t, znz_t, if_pos, if_neg, if_true, if_false, Option.bind_some], hr, zfr_rf⟩
  · exact ⟨S, by simp (disch := omega) only [fX_X0_step, zbtC, ↓zN_eq, zL0, zL1, zL2, zL3, zL4, zL5, zL6, zL7, zL8, zL10, zL16, zL31, zL42, zL63, zL64, zL100, zL200, zL255, zL256, zL1000, zL12345, zL536870912, zI_le, zI_lt, zI_eq, zI_add, zI_sub, zI_mul, zI_neN, zI_Nne, zI_leN, zI_ltN, zI_Nle, zI_Nlt, zI_pred, zI_clamp, zI_div, zI_rem, zin_t, zgd_t, znz_t, if_pos, if_neg, if_true, if_false, Option.bind_some], hr, zfr_rf⟩
/-! the reference's counts -/
theorem pM_nextKey_2 {S : zSt} {cn : Nat → Nat} (hr : zRp (S.2 24) 64 cn) (hc : zC2 cn) : ∀ r i m, r < m → i + r = 64 → fM_X11_nextKey_2 m (nI i) S = some (if znk cn r i < 64 then nI (znk cn r i) else zN) := by
  have hr' : ∀ j, j < 64 → S.2 24 j = nI (cn j) := hr
  intro r
  induction r with
  | zero =>
    intro i m hm hi
    obtain ⟨m, rfl⟩ : ∃ m', m = m' + 1 := ⟨m - 1, by omega⟩
    rw [show znk cn 0 i = i from rfl, if_neg (show ¬ i < 64 by omega)]
    simp (disch := omega) only [fM_X11_nextKey_2, ↓zN_eq, zL0, zL1, zL2, zL3, zL4, zL5, zL6, zL7, zL8, zL10, zL16, zL31, zL42, zL63, zL64, zL100, zL200, zL255, zL256, zL1000, zL12345, zL536870912, zI_le, zI_lt, zI_eq, zI_add, zI_sub, zI_mul, zI_neN, zI_Nne, zI_leN, zI_ltN, zI_Nle, zI_Nlt, zI_pred, zI_clamp, zI_div, zI_rem, zin_t, zgd_t, znz_t, if_pos, if_neg, if_true, if_false, Option.bind_some]
  | succ r ih =>
    intro i m hm hi
    obtain ⟨m, rfl⟩ : ∃ m', m = m' + 1 := ⟨m - 1, by omega⟩
    have hb := hc i (by omega)
    unfold znk
    by_cases h : 0 < cn i
    · rw [if_pos h, if_pos (by omega)]
      simp (disch := omega) only [fM_X11_nextKey_2, hr', ↓zN_eq, zL0, zL1, zL2, zL3, zL4, zL5, zL6, zL7, zL8, zL10, zL16, zL31, zL42, zL63, zL64, zL100, zL200, zL255, zL256, zL1000, zL12345, zL536870912, zI_le, zI_lt, zI_eq, zI_add, zI_sub, zI_mul, zI_neN, zI_Nne, zI_leN, zI_ltN, zI_Nle, zI_Nlt, zI_pred, zI_clamp, zI_div, zI_rem, zin_t, zgd_t, znz_t, if_pos, if_neg, if_true, if_false, Option.bind_some]
    · rw [if_neg h]
      simp (disch := omega) only [fM_X11_nextKey_2, hr', ↓zN_eq, zL0, zL1, zL2, zL3, zL4, zL5, zL6, zL7, zL8, zL10, zL16, zL31, zL42, zL63, zL64, zL100, zL200, zL255, zL256, zL1000, zL12345, zL536870912, zI_le, zI_lt, zI_eq, zI_add, zI_sub, zI_mul, zI_neN, zI_Nne, zI_leN, zI_ltN, zI_Nle, zI_Nlt, zI_pred, zI_clamp, zI_div, zI_rem, zin_t, zgd_t, znz_t, if_pos, if_neg, if_true, if_false, Option.bind_some]
      exact ih (i + 1) m (by omega) (by omega)
theorem pM_nextKey {S : zSt} {cn : Nat → Nat} {k : Nat} (hr : zRp (S.2 24) 64 cn) (hc : zC2 cn) (hk : k < 64) : fM_X11_nextKey (nI k) S = some (if znk cn (64 - k) k < 64 then nI (znk cn (64 - k) k) else zN) := by
  unfold fM_X11_nextKey
  exact pM_nextKey_2 hr hc (64 - k) k 1000 (by omega) (by omega)
theorem pM_onBits {S : zSt} {kd ky : Nat} {cn : Nat → Nat} (hr : zRp (S.2 24) 64 cn) (hc : zC2 cn) (hd : kd < 8) (hk : ky < 64) : fM_X11_onBits (nI kd) (nI ky) S = some (nI (zbtC kd ky cn)) := by
  have h0 := pM_nextKey hr hc (show 0 < 64 by omega)
  have h1 := pM_nextKey hr hc hk
  have l0 := znk_le cn (64 - 0) 0
  have l1 := znk_le cn (64 - ky) ky
  rcases z8 hd with rfl | rfl | rfl | rfl | rfl | rfl | rfl | rfl
  · simp (disch := omega) only [fM_X11_onBits, fM_X11_onBits_10, zbtC, ↓zN_eq, zL0, zL1, zL2, zL3, zL4, zL5, zL6, zL7, zL8, zL10, zL16, zL31, zL42, zL63, zL64, zL100, zL200, zL255, zL256, zL1000, zL12345, zL536870912, zI_le, zI_lt, zI_eq, zI_add, zI_sub, zI_mul, zI_neN, zI_Nne, zI_leN, zI_ltN, zI_Nle, zI_Nlt, zI_pred, zI_clamp, zI_div, zI_rem, zin_t, zgd_t, znz_t, if_pos, if_neg, if_true, if_false, Option.bind_some]
  · simp (disch := omega) only [fM_X11_onBits, fM_X11_onBits_10, zbtC, ↓zN_eq, zL0, zL1, zL2, zL3, zL4, zL5, zL6, zL7, zL8, zL10, zL16, zL31, zL42, zL63, zL64, zL100, zL200, zL255, zL256, zL1000, zL12345, zL536870912, zI_le, zI_lt, zI_eq, zI_add, zI_sub, zI_mul, zI_neN, zI_Nne, zI_leN, zI_ltN, zI_Nle, zI_Nlt, zI_pred, zI_clamp, zI_div, zI_rem, zin_t, zgd_t, znz_t, if_pos, if_neg, if_true, if_false, Option.bind_some]
  · simp (disch := omega) only [fM_X11_onBits, fM_X11_onBits_10, zbtC, ↓zN_eq, zL0, zL1, zL2, zL3, zL4, zL5, zL6, zL7, zL8, zL10, zL16, zL31, zL42, zL63, zL64, zL100, zL200, zL255, zL256, zL1000, zL12345, zL536870912, zI_le, zI_lt, zI_eq, zI_add, zI_sub, zI_mul, zI_neN, zI_Nne, zI_leN, zI_ltN, zI_Nle, zI_Nlt, zI_pred, zI_clamp, zI_div, zI_rem, zin_t, zgd_t, znz_t, if_pos, if_neg, if_true, if_false, Option.bind_some]
  · simp (disch := omega) only [fM_X11_onBits, fM_X11_onBits_10, zbtC, ↓zN_eq, zL0, zL1, zL2, zL3, zL4, zL5, zL6, zL7, zL8, zL10, zL16, zL31, zL42, zL63, zL64, zL100, zL200, zL255, zL256, zL1000, zL12345, zL536870912, zI_le, zI_lt, zI_eq, zI_add, zI_sub, zI_mul, zI_neN, zI_Nne, zI_leN, zI_ltN, zI_Nle, zI_Nlt, zI_pred, zI_clamp, zI_div, zI_rem, zin_t, zgd_t, znz_t, if_pos, if_neg, if_true, if_false, Option.bind_some]
  · by_cases h : znk cn (64 - 0) 0 < 64
    · rw [if_pos h] at h0
      simp (disch := omega) only [fM_X11_onBits, fM_X11_onBits_10, fM_X11_onBits_67, h0, zbtC, zlook, ↓zN_eq, zL0, zL1, zL2, zL3, zL4, zL5, zL6, zL7, zL8, zL10, zL16, zL31, zL42, zL63, zL64, zL100, zL200, zL255, zL256, zL1000, zL12345, zL536870912, zI_le, zI_lt, zI_eq, zI_add, zI_sub, zI_mul, zI_neN, zI_Nne, zI_leN, zI_ltN, zI_Nle, zI_Nlt, zI_pred, zI_clamp, zI_div, zI_rem, zin_t, zgd_t, znz_t, if_pos, if_neg, if_true, if_false, Option.bind_some]
    · rw [if_neg h] at h0
      simp (disch := omega) only [fM_X11_onBits, fM_X11_onBits_10, fM_X11_onBits_67, h0, zbtC, zlook, ↓zN_eq, zL0, zL1, zL2, zL3, zL4, zL5, zL6, zL7, zL8, zL10, zL16, zL31, zL42, zL63, zL64, zL100, zL200, zL255, zL256, zL1000, zL12345, zL536870912, zI_le, zI_lt, zI_eq, zI_add, zI_sub, zI_mul, zI_neN, zI_Nne, zI_leN, zI_ltN, zI_Nle, zI_Nlt, zI_pred, zI_clamp, zI_div, zI_rem, zin_t, zgd_t, znz_t, if_pos, if_neg, if_true, if_false, Option.bind_some]
  · by_cases h : znk cn (64 - ky) ky < 64
    · rw [if_pos h] at h1
      simp (disch := omega) only [fM_X11_onBits, fM_X11_onBits_10, fM_X11_onBits_67, h1, zbtC, zlook, ↓zN_eq, zL0, zL1, zL2, zL3, zL4, zL5, zL6, zL7, zL8, zL10, zL16, zL31, zL42, zL63, zL64, zL100, zL200, zL255, zL256, zL1000, zL12345, zL536870912, zI_le, zI_lt, zI_eq, zI_add, zI_sub, zI_mul, zI_neN, zI_Nne, zI_leN, zI_ltN, zI_Nle, zI_Nlt, zI_pred, zI_clamp, zI_div, zI_rem, zin_t, zgd_t, znz_t, if_pos, if_neg, if_true, if_false, Option.bind_some]
    · rw [if_neg h] at h1
      simp (disch := omega) only [fM_X11_onBits, fM_X11_onBits_10, fM_X11_onBits_67, h1, zbtC, zlook, ↓zN_eq, zL0, zL1, zL2, zL3, zL4, zL5, zL6, zL7, zL8, zL10, zL16, zL31, zL42, zL63, zL64, zL100, zL200, zL255, zL256, zL1000, zL12345, zL536870912, zI_le, zI_lt, zI_eq, zI_add, zI_sub, zI_mul, zI_neN, zI_Nne, zI_leN, zI_ltN, zI_Nle, zI_Nlt, zI_pred, zI_clamp, zI_div, zI_rem, zin_t, zgd_t, znz_t, if_pos, if_neg, if_true, if_false, Option.bind_some]
  · simp (disch := omega) only [fM_X11_onBits, fM_X11_onBits_10, zbtC, ↓zN_eq, zL0, zL1, zL2, zL3, zL4, zL5, zL6, zL7, zL8, zL10, zL16, zL31, zL42, zL63, zL64, zL100, zL200, zL255, zL256, zL1000, zL12345, zL536870912, zI_le, zI_lt, zI_eq, zI_add, zI_sub, zI_mul, zI_neN, zI_Nne, zI_leN, zI_ltN, zI_Nle, zI_Nlt, zI_pred, zI_clamp, zI_div, zI_rem, zin_t, zgd_t, znz_t, if_pos, if_neg, if_true, if_false, Option.bind_some]
  · simp (disch := omega) only [fM_X11_onBits, fM_X11_onBits_10, zbtC, ↓zN_eq, zL0, zL1, zL2, zL3, zL4, zL5, zL6, zL7, zL8, zL10, zL16, zL31, zL42, zL63, zL64, zL100, zL200, zL255, zL256, zL1000, zL12345, zL536870912, zI_le, zI_lt, zI_eq, zI_add, zI_sub, zI_mul, zI_neN, zI_Nne, zI_leN, zI_ltN, zI_Nle, zI_Nlt, zI_pred, zI_clamp, zI_div, zI_rem, zin_t, zgd_t, znz_t, if_pos, if_neg, if_true, if_false, Option.bind_some]
/-! answers -/
def zlo (g : Nat → Nat) (k : Nat) : Nat → Nat
  | 0 => 64
  | i + 1 => if k ≤ g i ∧ g i < zlo g k i then g i else zlo g k i
theorem zlo_le (g : Nat → Nat) (k : Nat) : ∀ n, zlo g k n ≤ 64 := by
  intro n
  induction n with
  | zero => exact Nat.le_refl _
  | succ n ih =>
    unfold zlo
    by_cases h : k ≤ g n ∧ g n < zlo g k n
    · rw [if_pos h]; omega
    · rw [if_neg h]; exact ih
theorem zlo_in (g : Nat → Nat) (k : Nat) : ∀ n, zlo g k n < 64 → k ≤ zlo g k n ∧ ∃ j, j < n ∧ g j = zlo g k n := by
  intro n
  induction n with
  | zero => intro h; exact absurd h (by unfold zlo; omega)
  | succ n ih =>
    unfold zlo
    by_cases h : k ≤ g n ∧ g n < zlo g k n
    · rw [if_pos h]; intro _; exact ⟨h.1, n, by omega, rfl⟩
    · rw [if_neg h]; intro h2
      obtain ⟨a, j, b, c⟩ := ih h2
      exact ⟨a, j, by omega, c⟩
theorem zlo_min (g : Nat → Nat) (k : Nat) : ∀ n j, j < n → k ≤ g j → zlo g k n ≤ g j ∨ 64 ≤ g j := by
  intro n
  induction n with
  | zero => intro j h; omega
  | succ n ih =>
    intro j hj hk
    unfold zlo
    by_cases h : k ≤ g n ∧ g n < zlo g k n
    · rw [if_pos h]
      by_cases e : j = n
      · rw [e]; exact Or.inl (Nat.le_refl _)
      · rcases ih j (by omega) hk with h1 | h1
        · exact Or.inl (by omega)
        · exact Or.inr h1
    · rw [if_neg h]
      by_cases e : j = n
      · have := zlo_le g k n
        rw [e]; rw [e] at hk
        by_cases h2 : g n < zlo g k n
        · exact absurd ⟨hk, h2⟩ h
        · exact Or.inl (by omega)
      · exact ih j (by omega) hk
theorem zlo_nk {g : Nat → Nat} {n k : Nat} (hg : zK64 g n) (hk : k < 64) : zlo g k n = znk (fun j => zcn g j n) (64 - k) k := by
  have h1 := znk_le (fun j => zcn g j n) (64 - k) k
  have h2 := znk_at (fun j => zcn g j n) (64 - k) k
  have h3 := znk_ne (fun j => zcn g j n) (64 - k) k
  generalize znk (fun j => zcn g j n) (64 - k) k = q at h1 h2 h3
  have h4 := zlo_le g k n
  rcases Nat.lt_or_ge q 64 with h | h
  · obtain ⟨j, a, b⟩ := (zcn_pos g q n).mp (h2 (by omega))
    have h5 := zlo_min g k n j a (by omega)
    obtain ⟨c1, j2, c2, c3⟩ := zlo_in g k n (by omega)
    have h6 : ¬ zlo g k n < q := fun h7 => by
      have h8 := h3 (zlo g k n) c1 h7
      have h9 := (zcn_pos g (zlo g k n) n).mpr ⟨j2, c2, c3⟩
      omega
    omega
  · have h6 : ¬ zlo g k n < 64 := fun h7 => by
      obtain ⟨c1, j2, c2, c3⟩ := zlo_in g k n h7
      have h8 := h3 (zlo g k n) c1 (by omega)
      have h9 := (zcn_pos g (zlo g k n) n).mpr ⟨j2, c2, c3⟩
      omega
    omega
theorem pX_leastFrom_4 {S : zSt} {n k : Nat} {g : Nat → Nat} (hz : S.1 20 = nI n) (hn : n ≤ 200) (hr : zRp (S.2 33) n g) (hg : zK64 g n) (hk : k < 64) : ∀ r i m, r < m → i + r = n → fX_X6_leastFrom_4 m (nI k) (if zlo g k i < 64 then nI (zlo g k i) else zN) (nI i) S = some (if zlo g k n < 64 then nI (zlo g k n) else zN) := by
  have hr' : ∀ j, j < n → S.2 33 j = nI (g j) := hr
  intro r
  induction r with
  | zero =>
    intro i m hm hi
    obtain ⟨m, rfl⟩ : ∃ m', m = m' + 1 := ⟨m - 1, by omega⟩
    have e : i = n := by omega
    subst e
    simp (disch := omega) only [fX_X6_leastFrom_4, hz, ↓zN_eq, zL0, zL1, zL2, zL3, zL4, zL5, zL6, zL7, zL8, zL10, zL16, zL31, zL42, zL63, zL64, zL100, zL200, zL255, zL256, zL1000, zL12345, zL536870912, zI_le, zI_lt, zI_eq, zI_add, zI_sub, zI_mul, zI_neN, zI_Nne, zI_leN, zI_ltN, zI_Nle, zI_Nlt, zI_pred, zI_clamp, zI_div, zI_rem, zin_t, zgd_t, znz_t, if_pos, if_neg, if_true, if_false, Option.bind_some]
  | succ r ih =>
    intro i m hm hi
    obtain ⟨m, rfl⟩ : ∃ m', m = m' + 1 := ⟨m - 1, by omega⟩
    have hb := hg i (by omega)
    have ih1 := ih (i + 1) m (by omega) (by omega)
    have hl := zlo_le g k i
    have hs : zlo g k (i + 1) = if k ≤ g i ∧ g i < zlo g k i then g i else zlo g k i := rfl
    rw [hs] at ih1
    by_cases h1 : g i < k
    · rw [if_neg (show ¬ (k ≤ g i ∧ g i < zlo g k i) by omega)] at ih1
      simp (disch := omega) only [fX_X6_leastFrom_4, hz, hr', ↓zN_eq, zL0, zL1, zL2, zL3, zL4, zL5, zL6, zL7, zL8, zL10, zL16, zL31, zL42, zL63, zL64, zL100, zL200, zL255, zL256, zL1000, zL12345, zL536870912, zI_le, zI_lt, zI_eq, zI_add, zI_sub, zI_mul, zI_neN, zI_Nne, zI_leN, zI_ltN, zI_Nle, zI_Nlt, zI_pred, zI_clamp, zI_div, zI_rem, zin_t, zgd_t, znz_t, if_pos, if_neg, if_true, if_false, Option.bind_some]
      exact ih1
    · by_cases h2 : zlo g k i < 64
      · rw [if_pos h2]
        by_cases h3 : zlo g k i ≤ g i
        · rw [if_neg (show ¬ (k ≤ g i ∧ g i < zlo g k i) by omega), if_pos h2] at ih1
          simp (disch := omega) only [fX_X6_leastFrom_4, hz, hr', ↓zN_eq, zL0, zL1, zL2, zL3, zL4, zL5, zL6, zL7, zL8, zL10, zL16, zL31, zL42, zL63, zL64, zL100, zL200, zL255, zL256, zL1000, zL12345, zL536870912, zI_le, zI_lt, zI_eq, zI_add, zI_sub, zI_mul, zI_neN, zI_Nne, zI_leN, zI_ltN, zI_Nle, zI_Nlt, zI_pred, zI_clamp, zI_div, zI_rem, zin_t, zgd_t, znz_t, if_pos, if_neg, if_true, if_false, Option.bind_some]
          exact ih1
        · rw [if_pos (show (k ≤ g i ∧ g i < zlo g k i) by omega), if_pos hb] at ih1
          simp (disch := omega) only [fX_X6_leastFrom_4, fX_X6_leastFrom_37, hz, hr', ↓zN_eq, zL0, zL1, zL2, zL3, zL4, zL5, zL6, zL7, zL8, zL10, zL16, zL31, zL42, zL63, zL64, zL100, zL200, zL255, zL256, zL1000, zL12345, zL536870912, zI_le, zI_lt, zI_eq, zI_add, zI_sub, zI_mul, zI_neN, zI_Nne, zI_leN, zI_ltN, zI_Nle, zI_Nlt, zI_pred, zI_clamp, zI_div, zI_rem, zin_t, zgd_t, znz_t, if_pos, if_neg, if_true, if_false, Option.bind_some]
          exact ih1
      · rw [if_neg h2]
        rw [if_pos (show (k ≤ g i ∧ g i < zlo g k i) by omega), if_pos hb] at ih1
        simp (disch := omega) only [fX_X6_leastFrom_4, fX_X6_leastFrom_37, hz, hr', ↓zN_eq, zL0, zL1, zL2, zL3, zL4, zL5, zL6, zL7, zL8, zL10, zL16, zL31, zL42, zL63, zL64, zL100, zL200, zL255, zL256, zL1000, zL12345, zL536870912, zI_le, zI_lt, zI_eq, zI_add, zI_sub, zI_mul, zI_neN, zI_Nne, zI_leN, zI_ltN, zI_Nle, zI_Nlt, zI_pred, zI_clamp, zI_div, zI_rem, zin_t, zgd_t, znz_t, if_pos, if_neg, if_true, if_false, Option.bind_some]
        exact ih1
theorem pX_leastFrom {S : zSt} {n k : Nat} {g : Nat → Nat} (hz : S.1 20 = nI n) (hn : n ≤ 200) (hr : zRp (S.2 33) n g) (hg : zK64 g n) (hk : k < 64) : fX_X6_leastFrom (nI k) S = some (if znk (fun j => zcn g j n) (64 - k) k < 64 then nI (znk (fun j => zcn g j n) (64 - k) k) else zN) := by
  have h := pX_leastFrom_4 hz hn hr hg hk n 0 1000 (by omega) (by omega)
  rw [show zlo g k 0 = 64 from rfl, if_neg (by omega)] at h
  rw [← zlo_nk hg hk]
  unfold fX_X6_leastFrom
  rw [zN_eq, zL0]
  exact h
theorem pX_howMany_4 {S : zSt} {n k : Nat} {g : Nat → Nat} (hz : S.1 20 = nI n) (hn : n ≤ 200) (hr : zRp (S.2 33) n g) (hg : zK64 g n) (hk : k < 64) : ∀ r i m, r < m → i + r = n → fX_X6_howMany_4 m (nI k) (nI (zcn g k i)) (nI i) S = some (nI (zcn g k n)) := by
  have hr' : ∀ j, j < n → S.2 33 j = nI (g j) := hr
  intro r
  induction r with
  | zero =>
    intro i m hm hi
    obtain ⟨m, rfl⟩ : ∃ m', m = m' + 1 := ⟨m - 1, by omega⟩
    have e : i = n := by omega
    subst e
    simp (disch := omega) only [fX_X6_howMany_4, hz, ↓zN_eq, zL0, zL1, zL2, zL3, zL4, zL5, zL6, zL7, zL8, zL10, zL16, zL31, zL42, zL63, zL64, zL100, zL200, zL255, zL256, zL1000, zL12345, zL536870912, zI_le, zI_lt, zI_eq, zI_add, zI_sub, zI_mul, zI_neN, zI_Nne, zI_leN, zI_ltN, zI_Nle, zI_Nlt, zI_pred, zI_clamp, zI_div, zI_rem, zin_t, zgd_t, znz_t, if_pos, if_neg, if_true, if_false, Option.bind_some]
  | succ r ih =>
    intro i m hm hi
    obtain ⟨m, rfl⟩ : ∃ m', m = m' + 1 := ⟨m - 1, by omega⟩
    have hb := hg i (by omega)
    have ih1 := ih (i + 1) m (by omega) (by omega)
    have hs : zcn g k (i + 1) = zcn g k i + (if g i = k then 1 else 0) := rfl
    rw [hs] at ih1
    by_cases h1 : g i = k
    · rw [if_pos h1] at ih1
      simp (disch := omega) only [fX_X6_howMany_4, hz, hr', ↓zN_eq, zL0, zL1, zL2, zL3, zL4, zL5, zL6, zL7, zL8, zL10, zL16, zL31, zL42, zL63, zL64, zL100, zL200, zL255, zL256, zL1000, zL12345, zL536870912, zI_le, zI_lt, zI_eq, zI_add, zI_sub, zI_mul, zI_neN, zI_Nne, zI_leN, zI_ltN, zI_Nle, zI_Nlt, zI_pred, zI_clamp, zI_div, zI_rem, zin_t, zgd_t, znz_t, if_pos, if_neg, if_true, if_false, Option.bind_some]
      exact ih1
    · rw [if_neg h1] at ih1
      simp (disch := omega) only [fX_X6_howMany_4, hz, hr', ↓zN_eq, zL0, zL1, zL2, zL3, zL4, zL5, zL6, zL7, zL8, zL10, zL16, zL31, zL42, zL63, zL64, zL100, zL200, zL255, zL256, zL1000, zL12345, zL536870912, zI_le, zI_lt, zI_eq, zI_add, zI_sub, zI_mul, zI_neN, zI_Nne, zI_leN, zI_ltN, zI_Nle, zI_Nlt, zI_pred, zI_clamp, zI_div, zI_rem, zin_t, zgd_t, znz_t, if_pos, if_neg, if_true, if_false, Option.bind_some]
      exact ih1
theorem pX_howMany {S : zSt} {n k : Nat} {g : Nat → Nat} (hz : S.1 20 = nI n) (hn : n ≤ 200) (hr : zRp (S.2 33) n g) (hg : zK64 g n) (hk : k < 64) : fX_X6_howMany (nI k) S = some (nI (zcn g k n)) := by
  have h := pX_howMany_4 hz hn hr hg hk n 0 1000 (by omega) (by omega)
  unfold fX_X6_howMany
  rw [zL0]
  exact h
def zans (kd ky n : Nat) (g : Nat → Nat) : Int32 := if kd = 0 then nI (n + 1) else if kd = 1 then nI (if 0 < zcn g ky n then 1 else 0) else if kd = 2 then nI (if 0 < zcn g ky n then 1 else 0) else if kd = 3 then nI n else if kd = 4 then (if znk (fun j => zcn g j n) 64 0 < 64 then nI (znk (fun j => zcn g j n) 64 0) else zN) else if kd = 5 then (if znk (fun j => zcn g j n) (64 - ky) ky < 64 then nI (znk (fun j => zcn g j n) (64 - ky) ky) else zN) else if kd = 6 then (if n = 0 then zN else nI (g 0)) else nI (zcn g ky n)
theorem pX_answerTo {S : zSt} {n kd ky : Nat} {g : Nat → Nat} (hz : S.1 20 = nI n) (hn : n ≤ 200) (hr : zRp (S.2 33) n g) (hg : zK64 g n) (hd : kd < 8) (hk : ky < 64) : fX_X6_answerTo (nI kd) (nI ky) S = some (zans kd ky n g) := by
  have hp := pX_placeOf_Row hz hn hr hg hk
  have hle := (zpl_le g ky n 0).2
  have hr' : ∀ j, j < n → S.2 33 j = nI (g j) := hr
  have hcn := zpl_cn g ky n
  rcases z8 hd with rfl | rfl | rfl | rfl | rfl | rfl | rfl | rfl
  · simp (disch := omega) only [fX_X6_answerTo, hz, zans, ↓zN_eq, zL0, zL1, zL2, zL3, zL4, zL5, zL6, zL7, zL8, zL10, zL16, zL31, zL42, zL63, zL64, zL100, zL200, zL255, zL256, zL1000, zL12345, zL536870912, zI_le, zI_lt, zI_eq, zI_add, zI_sub, zI_mul, zI_neN, zI_Nne, zI_leN, zI_ltN, zI_Nle, zI_Nlt, zI_pred, zI_clamp, zI_div, zI_rem, zin_t, zgd_t, znz_t, if_pos, if_neg, if_true, if_false, Option.bind_some]
  · by_cases h : zpl g ky n 0 < n
    · rw [if_pos h] at hp
      have h2 := hcn.mp h
      simp (disch := omega) only [fX_X6_answerTo, hp, zans, ↓zN_eq, zL0, zL1, zL2, zL3, zL4, zL5, zL6, zL7, zL8, zL10, zL16, zL31, zL42, zL63, zL64, zL100, zL200, zL255, zL256, zL1000, zL12345, zL536870912, zI_le, zI_lt, zI_eq, zI_add, zI_sub, zI_mul, zI_neN, zI_Nne, zI_leN, zI_ltN, zI_Nle, zI_Nlt, zI_pred, zI_clamp, zI_div, zI_rem, zin_t, zgd_t, znz_t, if_pos, if_neg, if_true, if_false, Option.bind_some]
    · rw [if_neg h] at hp
      have h2 : ¬ 0 < zcn g ky n := fun q => h (hcn.mpr q)
      simp (disch := omega) only [fX_X6_answerTo, hp, zans, ↓zN_eq, zL0, zL1, zL2, zL3, zL4, zL5, zL6, zL7, zL8, zL10, zL16, zL31, zL42, zL63, zL64, zL100, zL200, zL255, zL256, zL1000, zL12345, zL536870912, zI_le, zI_lt, zI_eq, zI_add, zI_sub, zI_mul, zI_neN, zI_Nne, zI_leN, zI_ltN, zI_Nle, zI_Nlt, zI_pred, zI_clamp, zI_div, zI_rem, zin_t, zgd_t, znz_t, if_pos, if_neg, if_true, if_false, Option.bind_some]
  · by_cases h : zpl g ky n 0 < n
    · rw [if_pos h] at hp
      have h2 := hcn.mp h
      simp (disch := omega) only [fX_X6_answerTo, hp, zans, ↓zN_eq, zL0, zL1, zL2, zL3, zL4, zL5, zL6, zL7, zL8, zL10, zL16, zL31, zL42, zL63, zL64, zL100, zL200, zL255, zL256, zL1000, zL12345, zL536870912, zI_le, zI_lt, zI_eq, zI_add, zI_sub, zI_mul, zI_neN, zI_Nne, zI_leN, zI_ltN, zI_Nle, zI_Nlt, zI_pred, zI_clamp, zI_div, zI_rem, zin_t, zgd_t, znz_t, if_pos, if_neg, if_true, if_false, Option.bind_some]
    · rw [if_neg h] at hp
      have h2 : ¬ 0 < zcn g ky n := fun q => h (hcn.mpr q)
      simp (disch := omega) only [fX_X6_answerTo, hp, zans, ↓zN_eq, zL0, zL1, zL2, zL3, zL4, zL5, zL6, zL7, zL8, zL10, zL16, zL31, zL42, zL63, zL64, zL100, zL200, zL255, zL256, zL1000, zL12345, zL536870912, zI_le, zI_lt, zI_eq, zI_add, zI_sub, zI_mul, zI_neN, zI_Nne, zI_leN, zI_ltN, zI_Nle, zI_Nlt, zI_pred, zI_clamp, zI_div, zI_rem, zin_t, zgd_t, znz_t, if_pos, if_neg, if_true, if_false, Option.bind_some]
  · simp (disch := omega) only [fX_X6_answerTo, hz, zans, ↓zN_eq, zL0, zL1, zL2, zL3, zL4, zL5, zL6, zL7, zL8, zL10, zL16, zL31, zL42, zL63, zL64, zL100, zL200, zL255, zL256, zL1000, zL12345, zL536870912, zI_le, zI_lt, zI_eq, zI_add, zI_sub, zI_mul, zI_neN, zI_Nne, zI_leN, zI_ltN, zI_Nle, zI_Nlt, zI_pred, zI_clamp, zI_div, zI_rem, zin_t, zgd_t, znz_t, if_pos, if_neg, if_true, if_false, Option.bind_some]
  · have hl := pX_leastFrom hz hn hr hg (show 0 < 64 by omega)
    rw [show 64 - 0 = 64 from rfl] at hl
    simp (disch := omega) only [fX_X6_answerTo, hl, zans, ↓zN_eq, zL0, zL1, zL2, zL3, zL4, zL5, zL6, zL7, zL8, zL10, zL16, zL31, zL42, zL63, zL64, zL100, zL200, zL255, zL256, zL1000, zL12345, zL536870912, zI_le, zI_lt, zI_eq, zI_add, zI_sub, zI_mul, zI_neN, zI_Nne, zI_leN, zI_ltN, zI_Nle, zI_Nlt, zI_pred, zI_clamp, zI_div, zI_rem, zin_t, zgd_t, znz_t, if_pos, if_neg, if_true, if_false, Option.bind_some]
  · have hl := pX_leastFrom hz hn hr hg hk
    simp (disch := omega) only [fX_X6_answerTo, hl, zans, ↓zN_eq, zL0, zL1, zL2, zL3, zL4, zL5, zL6, zL7, zL8, zL10, zL16, zL31, zL42, zL63, zL64, zL100, zL200, zL255, zL256, zL1000, zL12345, zL536870912, zI_le, zI_lt, zI_eq, zI_add, zI_sub, zI_mul, zI_neN, zI_Nne, zI_leN, zI_ltN, zI_Nle, zI_Nlt, zI_pred, zI_clamp, zI_div, zI_rem, zin_t, zgd_t, znz_t, if_pos, if_neg, if_true, if_false, Option.bind_some]
  · by_cases h : n = 0
    · simp (disch := omega) only [fX_X6_answerTo, fX_X4_keyAt_Row, hz, zans, ↓zN_eq, zL0, zL1, zL2, zL3, zL4, zL5, zL6, zL7, zL8, zL10, zL16, zL31, zL42, zL63, zL64, zL100, zL200, zL255, zL256, zL1000, zL12345, zL536870912, zI_le, zI_lt, zI_eq, zI_add, zI_sub, zI_mul, zI_neN, zI_Nne, zI_leN, zI_ltN, zI_Nle, zI_Nlt, zI_pred, zI_clamp, zI_div, zI_rem, zin_t, zgd_t, znz_t, if_pos, if_neg, if_true, if_false, Option.bind_some]
    · simp (disch := omega) only [fX_X6_answerTo, fX_X4_keyAt_Row, hz, hr', zans, ↓zN_eq, zL0, zL1, zL2, zL3, zL4, zL5, zL6, zL7, zL8, zL10, zL16, zL31, zL42, zL63, zL64, zL100, zL200, zL255, zL256, zL1000, zL12345, zL536870912, zI_le, zI_lt, zI_eq, zI_add, zI_sub, zI_mul, zI_neN, zI_Nne, zI_leN, zI_ltN, zI_Nle, zI_Nlt, zI_pred, zI_clamp, zI_div, zI_rem, zin_t, zgd_t, znz_t, if_pos, if_neg, if_true, if_false, Option.bind_some]
  · have hl := pX_howMany hz hn hr hg hk
    simp (disch := omega) only [fX_X6_answerTo, hl, zans, ↓zN_eq, zL0, zL1, zL2, zL3, zL4, zL5, zL6, zL7, zL8, zL10, zL16, zL31, zL42, zL63, zL64, zL100, zL200, zL255, zL256, zL1000, zL12345, zL536870912, zI_le, zI_lt, zI_eq, zI_add, zI_sub, zI_mul, zI_neN, zI_Nne, zI_leN, zI_ltN, zI_Nle, zI_Nlt, zI_pred, zI_clamp, zI_div, zI_rem, zin_t, zgd_t, znz_t, if_pos, if_neg, if_true, if_false, Option.bind_some]

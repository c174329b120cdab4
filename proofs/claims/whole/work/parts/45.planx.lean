/-! the plan: bounds -/
theorem zpB_lt (off : Nat → Bool) (f : Nat → Nat) : ∀ r, zpB off f r = 6 ∨ (zpB off f r < r ∧ off (zpB off f r) = true) := by
  intro r
  induction r with
  | zero => exact Or.inl rfl
  | succ r ih =>
    have es : zpB off f (r + 1) = if off r = true then (if zpB off f r = 6 then r else if f (zpB off f r) ≤ f r then zpB off f r else r) else zpB off f r := rfl
    rw [es]
    by_cases q : off r = true
    · rw [if_pos q]
      by_cases w : zpB off f r = 6
      · rw [if_pos w]; exact Or.inr ⟨by omega, q⟩
      · rw [if_neg w]
        by_cases y : f (zpB off f r) ≤ f r
        · rw [if_pos y]
          rcases ih with u | ⟨u1, u2⟩
          · exact Or.inl u
          · exact Or.inr ⟨by omega, u2⟩
        · rw [if_neg y]; exact Or.inr ⟨by omega, q⟩
    · rw [if_neg q]
      rcases ih with u | ⟨u1, u2⟩
      · exact Or.inl u
      · exact Or.inr ⟨by omega, u2⟩
theorem zpB_min (off : Nat → Bool) (f : Nat → Nat) : ∀ r s, r ≤ 6 → s < r → off s = true → zpB off f r ≠ 6 ∧ f (zpB off f r) ≤ f s := by
  intro r
  induction r with
  | zero => intro s _ h; exact absurd h (Nat.not_lt_zero s)
  | succ r ih =>
    intro s hr hs ho
    have es : zpB off f (r + 1) = if off r = true then (if zpB off f r = 6 then r else if f (zpB off f r) ≤ f r then zpB off f r else r) else zpB off f r := rfl
    rw [es]
    by_cases q : s = r
    · rw [q] at ho ⊢
      rw [if_pos ho]
      by_cases w : zpB off f r = 6
      · rw [if_pos w]; exact ⟨by omega, Nat.le_refl _⟩
      · rw [if_neg w]
        by_cases y : f (zpB off f r) ≤ f r
        · rw [if_pos y]; exact ⟨w, y⟩
        · rw [if_neg y]; exact ⟨by omega, Nat.le_refl _⟩
    · obtain ⟨k1, k2⟩ := ih s (by omega) (by omega) ho
      by_cases p : off r = true
      · rw [if_pos p, if_neg k1]
        by_cases y : f (zpB off f r) ≤ f r
        · rw [if_pos y]; exact ⟨k1, k2⟩
        · rw [if_neg y]; exact ⟨by omega, by omega⟩
      · rw [if_neg p]; exact ⟨k1, k2⟩
theorem zpP_1 {off : Nat → Bool} {c : Nat → Nat → Nat} {mv : Nat → Nat} {N s : Nat} : zpP off c mv N 1 s = (c (N - 1) s, 0) := if_pos rfl
theorem zpP_s {off : Nat → Bool} {c : Nat → Nat → Nat} {mv : Nat → Nat} {N k s : Nat} (h : k ≠ 0) : zpP off c mv N (k + 1) s = zpS off (zpP off c mv N k) (c (N - (k + 1)) s) (mv (N - (k + 1))) s := if_neg h
theorem zpP_b {off : Nat → Bool} {c : Nat → Nat → Nat} {mv : Nat → Nat} {N : Nat} (hN : N ≤ 200) (hc : ∀ i s, i < N → s < 6 → c i s ≤ 1000) (hm : ∀ i, i < N → mv i ≤ 201000) : ∀ k, k ≤ N → ∀ s, s < 6 → (zpP off c mv N k s).2 ≤ k ∧ (zpP off c mv N k s).1 ≤ 1000 * k + 201000 ∧ (off s = true → (zpP off c mv N k s).1 ≤ 1000 * k) := by
  intro k
  induction k with
  | zero => intro _ s _; exact ⟨Nat.le_refl 0, by show 0 ≤ _; omega, fun _ => by show 0 ≤ _; omega⟩
  | succ k ih =>
    intro hk s hs
    by_cases q : k = 0
    · rw [q, zpP_1]
      have := hc (N - 1) s (by omega) hs
      exact ⟨by show 0 ≤ 1; omega, by show c (N - 1) s ≤ _; omega, fun _ => by show c (N - 1) s ≤ _; omega⟩
    · rw [zpP_s q]
      have ih' := ih (by omega)
      have h1 := hc (N - (k + 1)) s (by omega) hs
      have h2 := hm (N - (k + 1)) (by omega)
      generalize mv (N - (k + 1)) = m at h2 ⊢
      generalize c (N - (k + 1)) s = ci at h1 ⊢
      generalize zpP off c mv N k = P at ih' ⊢
      unfold zpS
      have hl := zpB_lt off (zpF P m s) 6
      have hmn := zpB_min off (zpF P m s) 6 s (Nat.le_refl 6) hs
      generalize zpB off (zpF P m s) 6 = t at hl hmn ⊢
      by_cases w : t = 6
      · rw [if_pos w]
        exact ⟨by show 0 ≤ _; omega, by show ci ≤ _; omega, fun _ => by show ci ≤ _; omega⟩
      · rw [if_neg w]
        obtain ⟨g1, g2, g3⟩ := ih' t (by omega)
        have g4 := g3 (by rcases hl with u | u; exact absurd u w; exact u.2)
        obtain ⟨j1, j2, j3⟩ := ih' s hs
        refine ⟨?_, ?_, fun ho => ?_⟩
        · show (P t).2 + (if s = t then 0 else 1) ≤ k + 1
          by_cases y : s = t
          · rw [if_pos y]; omega
          · rw [if_neg y]; omega
        · show ci + (P t).1 + (if s = t then 0 else m) ≤ _
          by_cases y : s = t
          · rw [if_pos y]; omega
          · rw [if_neg y]; omega
        · show ci + (P t).1 + (if s = t then 0 else m) ≤ _
          have f1 := (hmn ho).2
          have f2 : zpF P m s s = 256 * (P s).1 + (P s).2 := by unfold zpF; rw [if_pos rfl, if_pos rfl]; rfl
          have j4 := j3 ho
          by_cases y : s = t
          · rw [if_pos y]; omega
          · have f3 : zpF P m s t = 256 * ((P t).1 + m) + ((P t).2 + 1) := by unfold zpF; rw [if_neg y, if_neg y]
            rw [if_neg y]; omega
theorem zpF_b {P : Nat → Nat × Nat} {m s t : Nat} (h1 : (P t).2 ≤ 200) (h2 : (P t).1 ≤ 402000) (h3 : m ≤ 201000) : zpF P m s t < 200000000 := by
  unfold zpF
  by_cases y : s = t
  · rw [if_pos y, if_pos y]; omega
  · rw [if_neg y, if_neg y]; omega
/-! the class's plan -/
theorem pX_wOver {S : zSt} {P : Nat → Nat × Nat} {N fe ea i s t sz m : Nat} (hN : N ≤ 200) (hi : i + 1 < N) (hs : s < 6) (ht : t < 6) (h8 : S.1 8 = nI fe) (h9 : S.1 9 = nI ea) (h31 : S.2 31 i = nI sz) (hm : m = fe + ea * sz) (hw : S.2 (22 + t) (i + 1) = nI (zpW (P t))) : fX_X5_weightOver (nI s) (nI i) (nI t) S = some (nI (zpF P m s t)) := by
  by_cases y : s = t
  · have e : zpF P m s t = 0 + zpW (P t) := by unfold zpF zpW; rw [if_pos y, if_pos y]; omega
    rw [e, y]
    simp (disch := omega) only [fX_X5_weightOver, fX_X5_weightOver_29, hw, ↓zN_eq, zL0, zL1, zL2, zL3, zL4, zL5, zL6, zL7, zL8, zL10, zL16, zL31, zL42, zL63, zL64, zL100, zL200, zL255, zL256, zL1000, zL12345, zL536870912, zI_le, zI_lt, zI_eq, zI_add, zI_sub, zI_mul, zI_neN, zI_Nne, zI_leN, zI_ltN, zI_Nle, zI_Nlt, zI_pred, zI_clamp, zI_div, zI_rem, zin_t, zgd_t, znz_t, if_pos, if_neg, if_true, if_false, Option.bind_some]
  · have e : zpF P m s t = ((fe + ea * sz) * 256 + 1) + zpW (P t) := by unfold zpF zpW; rw [if_neg y, if_neg y, hm]; omega
    rw [e]
    simp (disch := omega) only [fX_X5_weightOver, fX_X5_weightOver_29, h8, h9, h31, hw, ↓zN_eq, zL0, zL1, zL2, zL3, zL4, zL5, zL6, zL7, zL8, zL10, zL16, zL31, zL42, zL63, zL64, zL100, zL200, zL255, zL256, zL1000, zL12345, zL536870912, zI_le, zI_lt, zI_eq, zI_add, zI_sub, zI_mul, zI_neN, zI_Nne, zI_leN, zI_ltN, zI_Nle, zI_Nlt, zI_pred, zI_clamp, zI_div, zI_rem, zin_t, zgd_t, znz_t, if_pos, if_neg, if_true, if_false, Option.bind_some]
theorem pX_next_9 {S : zSt} {msk : Int32} {off : Nat → Bool} {f : Nat → Nat} {N i s : Nat} (hN : N ≤ 200) (hi : i + 1 < N) (h7 : S.1 7 = nI N) (h6 : S.1 6 = msk) (ho : ∀ t, t < 6 → fX_X10_isIn msk (nI t) S = some (nI (zb1 (off t)))) (hf : ∀ t, t < 6 → off t = true → fX_X5_weightOver (nI s) (nI i) (nI t) S = some (nI (f t)) ∧ f t < 200000000) : ∀ r t u x5, r < u → t + r = 6 → (zpB off f t ≠ 6 → x5 = nI (f (zpB off f t))) → fX_X5_nextOf_9 u (nI s) (nI i) (ze6 (zpB off f t)) x5 (nI t) S = some (ze6 (zpB off f 6)) := by
  intro r
  induction r with
  | zero =>
    intro t u x5 hu ht hx
    obtain ⟨u, rfl⟩ : ∃ u', u = u' + 1 := ⟨u - 1, by omega⟩
    have e : t = 6 := by omega
    rw [e]
    simp (disch := omega) only [fX_X5_nextOf_9, ↓zN_eq, zL0, zL1, zL2, zL3, zL4, zL5, zL6, zL7, zL8, zL10, zL16, zL31, zL42, zL63, zL64, zL100, zL200, zL255, zL256, zL1000, zL12345, zL536870912, zI_le, zI_lt, zI_eq, zI_add, zI_sub, zI_mul, zI_neN, zI_Nne, zI_leN, zI_ltN, zI_Nle, zI_Nlt, zI_pred, zI_clamp, zI_div, zI_rem, zin_t, zgd_t, znz_t, if_pos, if_neg, if_true, if_false, Option.bind_some]
  | succ r ih =>
    intro t u x5 hu ht hx
    obtain ⟨u, rfl⟩ : ∃ u', u = u' + 1 := ⟨u - 1, by omega⟩
    have h1 := ho t (by omega)
    have hl := zpB_lt off f t
    have es : zpB off f (t + 1) = if off t = true then (if zpB off f t = 6 then t else if f (zpB off f t) ≤ f t then zpB off f t else t) else zpB off f t := rfl
    by_cases q : off t = true
    · obtain ⟨h2, h3⟩ := hf t (by omega) q
      rw [q, zb1_t] at h1
      rw [if_pos q] at es
      by_cases w : zpB off f t = 6
      · rw [if_pos w] at es
        have k := ih (t + 1) u (nI (f t)) (by omega) (by omega) (fun _ => by rw [es])
        rw [es, ze6_n (by omega)] at k
        rw [w, ze6_6, ← k, fX_X5_nextOf_9]
        simp (disch := omega) only [fX_X5_nextOf_62, h7, h6, h1, h2, ↓zN_eq, zL0, zL1, zL2, zL3, zL4, zL5, zL6, zL7, zL8, zL10, zL16, zL31, zL42, zL63, zL64, zL100, zL200, zL255, zL256, zL1000, zL12345, zL536870912, zI_le, zI_lt, zI_eq, zI_add, zI_sub, zI_mul, zI_neN, zI_Nne, zI_leN, zI_ltN, zI_Nle, zI_Nlt, zI_pred, zI_clamp, zI_div, zI_rem, zin_t, zgd_t, znz_t, if_pos, if_neg, if_true, if_false, Option.bind_some]
      · rw [if_neg w] at es
        have hx' := hx w
        have h4 := (hf (zpB off f t) (by omega) (by rcases hl with u | u; exact absurd u w; exact u.2)).2
        by_cases y : f (zpB off f t) ≤ f t
        · rw [if_pos y] at es
          have k := ih (t + 1) u x5 (by omega) (by omega) (fun _ => by rw [es]; exact hx')
          rw [es] at k
          rw [← k, ze6_n w, hx', fX_X5_nextOf_9]
          simp (disch := omega) only [fX_X5_nextOf_62, h7, h6, h1, h2, ↓zN_eq, zL0, zL1, zL2, zL3, zL4, zL5, zL6, zL7, zL8, zL10, zL16, zL31, zL42, zL63, zL64, zL100, zL200, zL255, zL256, zL1000, zL12345, zL536870912, zI_le, zI_lt, zI_eq, zI_add, zI_sub, zI_mul, zI_neN, zI_Nne, zI_leN, zI_ltN, zI_Nle, zI_Nlt, zI_pred, zI_clamp, zI_div, zI_rem, zin_t, zgd_t, znz_t, if_pos, if_neg, if_true, if_false, Option.bind_some]
        · rw [if_neg y] at es
          have k := ih (t + 1) u (nI (f t)) (by omega) (by omega) (fun _ => by rw [es])
          rw [es, ze6_n (by omega)] at k
          rw [← k, ze6_n w, hx', fX_X5_nextOf_9]
          simp (disch := omega) only [fX_X5_nextOf_62, h7, h6, h1, h2, ↓zN_eq, zL0, zL1, zL2, zL3, zL4, zL5, zL6, zL7, zL8, zL10, zL16, zL31, zL42, zL63, zL64, zL100, zL200, zL255, zL256, zL1000, zL12345, zL536870912, zI_le, zI_lt, zI_eq, zI_add, zI_sub, zI_mul, zI_neN, zI_Nne, zI_leN, zI_ltN, zI_Nle, zI_Nlt, zI_pred, zI_clamp, zI_div, zI_rem, zin_t, zgd_t, znz_t, if_pos, if_neg, if_true, if_false, Option.bind_some]
    · rw [Bool.eq_false_iff.mpr q, zb1_f] at h1
      rw [if_neg q] at es
      have k := ih (t + 1) u x5 (by omega) (by omega) (fun n => by rw [es]; rw [es] at n; exact hx n)
      rw [es] at k
      rw [← k, fX_X5_nextOf_9]
      simp (disch := omega) only [h7, h6, h1, ↓zN_eq, zL0, zL1, zL2, zL3, zL4, zL5, zL6, zL7, zL8, zL10, zL16, zL31, zL42, zL63, zL64, zL100, zL200, zL255, zL256, zL1000, zL12345, zL536870912, zI_le, zI_lt, zI_eq, zI_add, zI_sub, zI_mul, zI_neN, zI_Nne, zI_leN, zI_ltN, zI_Nle, zI_Nlt, zI_pred, zI_clamp, zI_div, zI_rem, zin_t, zgd_t, znz_t, if_pos, if_neg, if_true, if_false, Option.bind_some]
theorem pX_next {S : zSt} {msk : Int32} {off : Nat → Bool} {f : Nat → Nat} {N i s : Nat} (hN : N ≤ 200) (hi : i + 1 < N) (h7 : S.1 7 = nI N) (h6 : S.1 6 = msk) (ho : ∀ t, t < 6 → fX_X10_isIn msk (nI t) S = some (nI (zb1 (off t)))) (hf : ∀ t, t < 6 → off t = true → fX_X5_weightOver (nI s) (nI i) (nI t) S = some (nI (f t)) ∧ f t < 200000000) : fX_X5_nextOf (nI s) (nI i) S = some (ze6 (zpB off f 6)) := by
  unfold fX_X5_nextOf
  rw [zL0, zN_eq, ← ze6_6]
  exact pX_next_9 hN hi h7 h6 ho hf 6 0 1000 (nI 0) (by omega) (by omega) (fun n => absurd rfl n)
theorem pX_nextL {S : zSt} {N i s : Nat} (hN : N ≤ 200) (hi : i + 1 = N) (h7 : S.1 7 = nI N) : fX_X5_nextOf (nI s) (nI i) S = some zN := by
  unfold fX_X5_nextOf
  rw [show (1000 : Nat) = 999 + 1 from rfl, fX_X5_nextOf_9]
  simp (disch := omega) only [h7, ↓zN_eq, zL0, zL1, zL2, zL3, zL4, zL5, zL6, zL7, zL8, zL10, zL16, zL31, zL42, zL63, zL64, zL100, zL200, zL255, zL256, zL1000, zL12345, zL536870912, zI_le, zI_lt, zI_eq, zI_add, zI_sub, zI_mul, zI_neN, zI_Nne, zI_leN, zI_ltN, zI_Nle, zI_Nlt, zI_pred, zI_clamp, zI_div, zI_rem, zin_t, zgd_t, znz_t, if_pos, if_neg, if_true, if_false, Option.bind_some]
/-- what the plan reads -/
def zXp (S : zSt) (msk : Int32) (off : Nat → Bool) (c : Nat → Nat → Nat) (mv sz : Nat → Nat) (N fe ea : Nat) : Prop := S.1 7 = nI N ∧ S.1 6 = msk ∧ S.1 8 = nI fe ∧ S.1 9 = nI ea ∧ (∀ t, t < N → S.2 31 t = nI (sz t)) ∧ (∀ s, s < 6 → ∀ t, t < N → S.2 (10 + s) t = nI (c t s)) ∧ (∀ (U : zSt) t, t < 6 → fX_X10_isIn msk (nI t) U = some (nI (zb1 (off t)))) ∧ (∀ i, i < N → mv i = fe + ea * sz i ∧ mv i ≤ 201000) ∧ (∀ i s, i < N → s < 6 → c i s ≤ 1000) ∧ N ≤ 200
def zrX : List Nat := [22, 23, 24, 25, 26, 27]
theorem zXp_cg {S S' : zSt} {msk : Int32} {off : Nat → Bool} {c : Nat → Nat → Nat} {mv sz : Nat → Nat} {N fe ea : Nat} (h : zXp S msk off c mv sz N fe ea) (f : zfr S S' [] (32 :: zrX)) : zXp S' msk off c mv sz N fe ea := by
  obtain ⟨a1, a2, a3, a4, a5, a6, a7, a8, a9, a10⟩ := h
  refine ⟨(f.1 7 (by decide)).trans a1, (f.1 6 (by decide)).trans a2, (f.1 8 (by decide)).trans a3, (f.1 9 (by decide)).trans a4, ?_, fun s hs => ?_, a7, a8, a9, a10⟩
  · rw [f.2 31 (by decide)]; exact a5
  · rw [f.2 (10 + s) (by
      unfold zrX
      simp only [List.mem_cons, List.not_mem_nil, or_false]
      omega)]; exact a6 s hs
theorem zrX_m {s : Nat} (hs : s < 6) : 22 + s ∈ zrX := by rcases z6c hs with rfl | rfl | rfl | rfl | rfl | rfl <;> decide
theorem zrX_m2 {s : Nat} (hs : s < 6) : 22 + s ∈ 32 :: zrX := List.mem_cons_of_mem _ (zrX_m hs)
/-- the next shelf, by the weights of the next call -/
theorem pX_nextP {S : zSt} {msk : Int32} {off : Nat → Bool} {c : Nat → Nat → Nat} {mv sz : Nat → Nat} {N fe ea i s : Nat} (h : zXp S msk off c mv sz N fe ea) (hi : i + 1 < N) (hs : s < 6) (hw : ∀ t, t < 6 → S.2 (22 + t) (i + 1) = nI (zpW (zpP off c mv N (N - (i + 1)) t))) : fX_X5_nextOf (nI s) (nI i) S = some (ze6 (zpB off (zpF (zpP off c mv N (N - (i + 1))) (mv i) s) 6)) ∧ ∀ t, t < 6 → fX_X5_weightOver (nI s) (nI i) (nI t) S = some (nI (zpF (zpP off c mv N (N - (i + 1))) (mv i) s t)) ∧ zpF (zpP off c mv N (N - (i + 1))) (mv i) s t < 200000000 := by
  obtain ⟨a1, a2, a3, a4, a5, a6, a7, a8, a9, a10⟩ := h
  have hf : ∀ t, t < 6 → fX_X5_weightOver (nI s) (nI i) (nI t) S = some (nI (zpF (zpP off c mv N (N - (i + 1))) (mv i) s t)) ∧ zpF (zpP off c mv N (N - (i + 1))) (mv i) s t < 200000000 := fun t ht => by
    refine ⟨pX_wOver a10 hi hs ht a3 a4 (a5 i (by omega)) (a8 i (by omega)).1 (hw t ht), ?_⟩
    obtain ⟨b1, b2, b3⟩ := zpP_b (off := off) a10 a9 (fun i hi => (a8 i hi).2) (N - (i + 1)) (by omega) t ht
    exact zpF_b (by omega) (by omega) (a8 i (by omega)).2
  exact ⟨pX_next a10 hi a1 a2 (a7 S) (fun t ht _ => hf t ht), hf⟩
def zWr (S : zSt) (off : Nat → Bool) (c : Nat → Nat → Nat) (mv : Nat → Nat) (N i : Nat) : Prop := ∀ t, i ≤ t → t < N → ∀ s, s < 6 → S.2 (22 + s) t = nI (zpW (zpP off c mv N (N - t) s))
theorem zlw_p (i : Nat) : nI i + zN = zlw i := by
  unfold zlw
  by_cases q : i = 0
  · rw [if_pos q, q]; decide
  · rw [if_neg q, zI_pred (by omega)]
theorem pX_weigh_14 {msk : Int32} {off : Nat → Bool} {c : Nat → Nat → Nat} {mv sz : Nat → Nat} {N fe ea i : Nat} (K : Int32 → zSt → Option zSt) (hi : i < N) : ∀ r j u S, r < u → j + r = 6 → zXp S msk off c mv sz N fe ea → zWr S off c mv N (i + 1) → (∀ s, s < j → S.2 (22 + s) i = nI (zpW (zpP off c mv N (N - i) s))) → ∃ S', fX_X5_weigh_14 K u (nI i) (nI j) S = K (zlw i) S' ∧ zXp S' msk off c mv sz N fe ea ∧ zWr S' off c mv N i ∧ zfr S S' [] zrX := by
  intro r
  induction r with
  | zero =>
    intro j u S hu hj h hW hd
    obtain ⟨u, rfl⟩ : ∃ u', u = u' + 1 := ⟨u - 1, by omega⟩
    have e : j = 6 := by omega
    refine ⟨S, ?_, h, fun t h1 h2 s hs => ?_, zfr_rf⟩
    · rw [fX_X5_weigh_14, if_pos (by rw [zL6, e]; decide), zN_eq, zlw_p]
    · by_cases q : t = i
      · rw [q]; exact hd s (by omega)
      · exact hW t (by omega) h2 s hs
  | succ r ih =>
    intro j u S hu hj h hW hd
    obtain ⟨u, rfl⟩ : ∃ u', u = u' + 1 := ⟨u - 1, by omega⟩
    have hj6 : j < 6 := by omega
    have hN := h.2.2.2.2.2.2.2.2.2
    have h10 := h.2.2.2.2.2.1 j hj6 i hi
    obtain ⟨S1, hS1⟩ : ∃ S1, S1 = zsR S (22 + j) i (nI (c i j * 256)) := ⟨_, rfl⟩
    have f1 : zfr S S1 [] zrX := by rw [hS1]; exact zfr_sR (zrX_m hj6)
    have p1 := zXp_cg h (zfr_mono f1 (by decide) (by decide))
    have r1 : ∀ s t, (s ≠ j ∨ t ≠ i) → S1.2 (22 + s) t = S.2 (22 + s) t := fun s t q => by
      rw [hS1, zsR_2]
      by_cases w : 22 + s = 22 + j
      · rw [if_pos w, zup1, if_neg (by omega), show s = j by omega]
      · rw [if_neg w]
    have r2 : S1.2 (22 + j) i = nI (c i j * 256) := by rw [hS1, zsR_2, if_pos rfl, pk_us]
    have fin : ∀ S2, zfr S S2 [] zrX → S2.2 (22 + j) i = nI (zpW (zpP off c mv N (N - i) j)) → (∀ s t, (s ≠ j ∨ t ≠ i) → S2.2 (22 + s) t = S.2 (22 + s) t) → ∃ S', fX_X5_weigh_14 K u (nI i) (nI (j + 1)) S2 = K (zlw i) S' ∧ zXp S' msk off c mv sz N fe ea ∧ zWr S' off c mv N i ∧ zfr S S' [] zrX := fun S2 g1 g2 g3 => by
      obtain ⟨S', e1, e2, e3, e4⟩ := ih (j + 1) u S2 (by omega) (by omega) (zXp_cg h (zfr_mono g1 (by decide) (by decide))) (fun t h1 h2 s hs => by rw [g3 s t (by omega)]; exact hW t h1 h2 s hs) (fun s hs => by
        by_cases q : s = j
        · rw [q]; exact g2
        · rw [g3 s i (by omega)]; exact hd s (by omega))
      exact ⟨S', e1, e2, e3, zfr_tr g1 e4⟩
    have fst : ∀ v, fX_X5_nextOf (nI j) (nI i) S1 = some v → fX_X5_weigh_14 K (u + 1) (nI i) (nI j) S = (if v = zN then fX_X5_weigh_14 K u (nI i) (nI (j + 1)) S1 else (fX_X5_weightOver (nI j) (nI i) v S1).bind (fun u11 => fX_X5_weigh_14 K u (nI i) (nI (j + 1)) (zsR S1 (22 + j) i (nI (c i j * 256) + u11)))) := fun v hv => by
      rw [hS1] at hv r2 ⊢
      rw [fX_X5_weigh_14]
      simp (disch := omega) only [h10, hv, r2, ↓zN_eq, zL0, zL1, zL2, zL3, zL4, zL5, zL6, zL7, zL8, zL10, zL16, zL31, zL42, zL63, zL64, zL100, zL200, zL255, zL256, zL1000, zL12345, zL536870912, zI_le, zI_lt, zI_eq, zI_add, zI_sub, zI_mul, zI_neN, zI_Nne, zI_leN, zI_ltN, zI_Nle, zI_Nlt, zI_pred, zI_clamp, zI_div, zI_rem, zin_t, zgd_t, znz_t, if_pos, if_neg, if_true, if_false, Option.bind_some]
    by_cases q : i + 1 = N
    · have e := fst zN (pX_nextL hN q p1.1)
      rw [if_pos rfl] at e
      obtain ⟨S', k1, k2⟩ := fin S1 f1 (by rw [r2, show N - i = 1 by omega, zpP_1, show N - 1 = i by omega]; unfold zpW; rw [show c i j * 256 = 256 * c i j + 0 by omega]) r1
      exact ⟨S', e.trans k1, k2⟩
    · have hP : zpP off c mv N (N - i) j = zpS off (zpP off c mv N (N - (i + 1))) (c i j) (mv i) j := by
        obtain ⟨k, hk⟩ : ∃ k, k = N - (i + 1) := ⟨_, rfl⟩
        rw [show N - i = k + 1 by omega, zpP_s (by omega), show N - (k + 1) = i by omega, hk]
      obtain ⟨n1, n2⟩ := pX_nextP (s := j) p1 (show i + 1 < N by omega) hj6 (fun t ht => by rw [r1 t (i + 1) (by omega)]; exact hW (i + 1) (by omega) (by omega) t ht)
      have e := fst _ n1
      have hl := zpB_lt off (zpF (zpP off c mv N (N - (i + 1))) (mv i) j) 6
      unfold zpS at hP
      generalize ht : zpB off (zpF (zpP off c mv N (N - (i + 1))) (mv i) j) 6 = t at *
      by_cases w : t = 6
      · rw [w, ze6_6, if_pos rfl] at e
        obtain ⟨S', k1, k2⟩ := fin S1 f1 (by rw [r2, hP, if_pos w]; unfold zpW; rw [show c i j * 256 = 256 * c i j + 0 by omega]) r1
        exact ⟨S', e.trans k1, k2⟩
      · obtain ⟨m1, m2⟩ := n2 t (by omega)
        rw [ze6_n w, if_neg (by rw [zI_neN (by omega)]; exact fun h => h), m1, Option.bind_some, zI_add] at e
        obtain ⟨S', k1, k2⟩ := fin (zsR S1 (22 + j) i (nI (c i j * 256 + zpF (zpP off c mv N (N - (i + 1))) (mv i) j t))) (zfr_tr f1 (zfr_sR (zrX_m hj6))) (by
          rw [zsR_2, if_pos rfl, pk_us, hP, if_neg w]
          unfold zpW zpF
          have : ∀ a b x y z : Nat, a * 256 + (256 * (x + y) + b + z) = 256 * (a + x + y) + (b + z) := fun a b x y z => by omega
          exact congrArg nI (by
            by_cases y : j = t
            · rw [if_pos y, if_pos y]; show _ = 256 * (c i j + _ + 0) + (_ + 0); omega
            · rw [if_neg y, if_neg y]; show _ = 256 * (c i j + _ + mv i) + (_ + 1); omega)) (fun s t' q' => by
          rw [← r1 s t' q', zsR_2]
          by_cases w' : 22 + s = 22 + j
          · rw [if_pos w', zup1, if_neg (by omega), show s = j by omega]
          · rw [if_neg w'])
        exact ⟨S', e.trans k1, k2⟩
theorem pX_weigh_7 {msk : Int32} {off : Nat → Bool} {c : Nat → Nat → Nat} {mv sz : Nat → Nat} {N fe ea : Nat} : ∀ i u S, i < u → i ≤ N → zXp S msk off c mv sz N fe ea → zWr S off c mv N i → ∃ S', fX_X5_weigh_7 u (zlw i) S = some S' ∧ zXp S' msk off c mv sz N fe ea ∧ zWr S' off c mv N 0 ∧ zfr S S' [] zrX := by
  intro i
  induction i with
  | zero =>
    intro u S hu hi h hW
    obtain ⟨u, rfl⟩ : ∃ u', u = u' + 1 := ⟨u - 1, by omega⟩
    refine ⟨S, ?_, h, hW, zfr_rf⟩
    rw [show zlw 0 = zN from if_pos rfl]
    simp (disch := omega) only [fX_X5_weigh_7, ↓zN_eq, zL0, zL1, zL2, zL3, zL4, zL5, zL6, zL7, zL8, zL10, zL16, zL31, zL42, zL63, zL64, zL100, zL200, zL255, zL256, zL1000, zL12345, zL536870912, zI_le, zI_lt, zI_eq, zI_add, zI_sub, zI_mul, zI_neN, zI_Nne, zI_leN, zI_ltN, zI_Nle, zI_Nlt, zI_pred, zI_clamp, zI_div, zI_rem, zin_t, zgd_t, znz_t, if_pos, if_neg, if_true, if_false, Option.bind_some]
  | succ i ih =>
    intro u S hu hi h hW
    obtain ⟨u, rfl⟩ : ∃ u', u = u' + 1 := ⟨u - 1, by omega⟩
    have hN := h.2.2.2.2.2.2.2.2.2
    obtain ⟨S1, e1, a1, b1, c1⟩ := pX_weigh_14 (fX_X5_weigh_7 u) (show i < N by omega) 6 0 1000 S (by omega) (by omega) h hW (fun s hs => absurd hs (by omega))
    obtain ⟨S2, e2, a2, b2, c2⟩ := ih u S1 (by omega) (by omega) a1 b1
    refine ⟨S2, ?_, a2, b2, zfr_tr c1 c2⟩
    rw [zlw_s, fX_X5_weigh_7, zL0, if_neg (by rw [zI_lt (by omega) (by omega)]; omega)]
    exact e1.trans e2
theorem pX_weigh {S : zSt} {msk : Int32} {off : Nat → Bool} {c : Nat → Nat → Nat} {mv sz : Nat → Nat} {N fe ea : Nat} (h : zXp S msk off c mv sz N fe ea) : ∃ S', fX_X5_weigh S = some S' ∧ zXp S' msk off c mv sz N fe ea ∧ zWr S' off c mv N 0 ∧ zfr S S' [] zrX := by
  have hN := h.2.2.2.2.2.2.2.2.2
  obtain ⟨S', e, rest⟩ := pX_weigh_7 N 1000 S (by omega) (Nat.le_refl N) h (fun t h1 h2 => absurd h2 (by omega))
  refine ⟨S', ?_, rest⟩
  unfold fX_X5_weigh
  have e1 : nI N - 1 = zlw N := by
    unfold zlw
    by_cases q : N = 0
    · rw [if_pos q, q]; decide
    · rw [if_neg q, zL1, zI_sub (by omega)]
  rw [h.1, e1]; exact e
theorem pX_light_4 {S : zSt} {msk : Int32} {off : Nat → Bool} {c : Nat → Nat → Nat} {mv sz : Nat → Nat} {N fe ea : Nat} (h : zXp S msk off c mv sz N fe ea) (hW : zWr S off c mv N 0) (h0 : 0 < N) : ∀ r t u, r < u → t + r = 6 → fX_X5_lightestAtFirst_4 u (ze6 (zpB off (fun s => zpW (zpP off c mv N N s)) t)) (nI t) S = some (ze6 (zpB off (fun s => zpW (zpP off c mv N N s)) 6)) := by
  obtain ⟨a1, a2, a3, a4, a5, a6, a7, a8, a9, a10⟩ := h
  have hv : ∀ s, s < 6 → S.2 (22 + s) 0 = nI (zpW (zpP off c mv N N s)) ∧ zpW (zpP off c mv N N s) < 200000000 := fun s hs => by
    refine ⟨hW 0 (by omega) h0 s hs, ?_⟩
    obtain ⟨b1, b2, b3⟩ := zpP_b (off := off) a10 a9 (fun i hi => (a8 i hi).2) N (Nat.le_refl N) s hs
    unfold zpW; omega
  generalize hf : (fun s => zpW (zpP off c mv N N s)) = f
  have hv' : ∀ s, s < 6 → S.2 (22 + s) 0 = nI (f s) ∧ f s < 200000000 := fun s hs => by rw [← hf]; exact hv s hs
  intro r
  induction r with
  | zero =>
    intro t u hu ht
    obtain ⟨u, rfl⟩ : ∃ u', u = u' + 1 := ⟨u - 1, by omega⟩
    have e : t = 6 := by omega
    rw [e]
    simp (disch := omega) only [fX_X5_lightestAtFirst_4, ↓zN_eq, zL0, zL1, zL2, zL3, zL4, zL5, zL6, zL7, zL8, zL10, zL16, zL31, zL42, zL63, zL64, zL100, zL200, zL255, zL256, zL1000, zL12345, zL536870912, zI_le, zI_lt, zI_eq, zI_add, zI_sub, zI_mul, zI_neN, zI_Nne, zI_leN, zI_ltN, zI_Nle, zI_Nlt, zI_pred, zI_clamp, zI_div, zI_rem, zin_t, zgd_t, znz_t, if_pos, if_neg, if_true, if_false, Option.bind_some]
  | succ r ih =>
    intro t u hu ht
    obtain ⟨u, rfl⟩ : ∃ u', u = u' + 1 := ⟨u - 1, by omega⟩
    have h1 := a7 S t (by omega)
    obtain ⟨h2, h3⟩ := hv' t (by omega)
    have hl := zpB_lt off f t
    have k := ih (t + 1) u (by omega) (by omega)
    have es : zpB off f (t + 1) = if off t = true then (if zpB off f t = 6 then t else if f (zpB off f t) ≤ f t then zpB off f t else t) else zpB off f t := rfl
    rw [← k]
    by_cases q : off t = true
    · rw [q, zb1_t] at h1
      rw [if_pos q] at es
      by_cases w : zpB off f t = 6
      · rw [if_pos w] at es
        rw [es, w, ze6_6, ze6_n (by omega), fX_X5_lightestAtFirst_4]
        simp (disch := omega) only [fX_X5_lightestAtFirst_52, a1, a2, h1, ↓zN_eq, zL0, zL1, zL2, zL3, zL4, zL5, zL6, zL7, zL8, zL10, zL16, zL31, zL42, zL63, zL64, zL100, zL200, zL255, zL256, zL1000, zL12345, zL536870912, zI_le, zI_lt, zI_eq, zI_add, zI_sub, zI_mul, zI_neN, zI_Nne, zI_leN, zI_ltN, zI_Nle, zI_Nlt, zI_pred, zI_clamp, zI_div, zI_rem, zin_t, zgd_t, znz_t, if_pos, if_neg, if_true, if_false, Option.bind_some]
      · rw [if_neg w] at es
        obtain ⟨h4, h5⟩ := hv' (zpB off f t) (by omega)
        by_cases y : f (zpB off f t) ≤ f t
        · rw [if_pos y] at es
          rw [es, ze6_n w, fX_X5_lightestAtFirst_4]
          simp (disch := omega) only [fX_X5_lightestAtFirst_52, a1, a2, h1, h2, h4, ↓zN_eq, zL0, zL1, zL2, zL3, zL4, zL5, zL6, zL7, zL8, zL10, zL16, zL31, zL42, zL63, zL64, zL100, zL200, zL255, zL256, zL1000, zL12345, zL536870912, zI_le, zI_lt, zI_eq, zI_add, zI_sub, zI_mul, zI_neN, zI_Nne, zI_leN, zI_ltN, zI_Nle, zI_Nlt, zI_pred, zI_clamp, zI_div, zI_rem, zin_t, zgd_t, znz_t, if_pos, if_neg, if_true, if_false, Option.bind_some]
        · rw [if_neg y] at es
          rw [es, ze6_n w, ze6_n (by omega), fX_X5_lightestAtFirst_4]
          simp (disch := omega) only [fX_X5_lightestAtFirst_52, a1, a2, h1, h2, h4, ↓zN_eq, zL0, zL1, zL2, zL3, zL4, zL5, zL6, zL7, zL8, zL10, zL16, zL31, zL42, zL63, zL64, zL100, zL200, zL255, zL256, zL1000, zL12345, zL536870912, zI_le, zI_lt, zI_eq, zI_add, zI_sub, zI_mul, zI_neN, zI_Nne, zI_leN, zI_ltN, zI_Nle, zI_Nlt, zI_pred, zI_clamp, zI_div, zI_rem, zin_t, zgd_t, znz_t, if_pos, if_neg, if_true, if_false, Option.bind_some]
    · rw [Bool.eq_false_iff.mpr q, zb1_f] at h1
      rw [if_neg q] at es
      rw [es, fX_X5_lightestAtFirst_4]
      simp (disch := omega) only [a1, a2, h1, ↓zN_eq, zL0, zL1, zL2, zL3, zL4, zL5, zL6, zL7, zL8, zL10, zL16, zL31, zL42, zL63, zL64, zL100, zL200, zL255, zL256, zL1000, zL12345, zL536870912, zI_le, zI_lt, zI_eq, zI_add, zI_sub, zI_mul, zI_neN, zI_Nne, zI_leN, zI_ltN, zI_Nle, zI_Nlt, zI_pred, zI_clamp, zI_div, zI_rem, zin_t, zgd_t, znz_t, if_pos, if_neg, if_true, if_false, Option.bind_some]
theorem pX_light {S : zSt} {msk : Int32} {off : Nat → Bool} {c : Nat → Nat → Nat} {mv sz : Nat → Nat} {N fe ea : Nat} (h : zXp S msk off c mv sz N fe ea) (hW : zWr S off c mv N 0) : fX_X5_lightestAtFirst S = some (if N = 0 then zN else ze6 (zpB off (fun s => zpW (zpP off c mv N N s)) 6)) := by
  unfold fX_X5_lightestAtFirst
  by_cases q : N = 0
  · have a1 := h.1
    rw [if_pos q, show (1000 : Nat) = 999 + 1 from rfl, fX_X5_lightestAtFirst_4]
    simp (disch := omega) only [a1, ↓zN_eq, zL0, zL1, zL2, zL3, zL4, zL5, zL6, zL7, zL8, zL10, zL16, zL31, zL42, zL63, zL64, zL100, zL200, zL255, zL256, zL1000, zL12345, zL536870912, zI_le, zI_lt, zI_eq, zI_add, zI_sub, zI_mul, zI_neN, zI_Nne, zI_leN, zI_ltN, zI_Nle, zI_Nlt, zI_pred, zI_clamp, zI_div, zI_rem, zin_t, zgd_t, znz_t, if_pos, if_neg, if_true, if_false, Option.bind_some]
  · rw [if_neg q, zL0, zN_eq, ← ze6_6]
    exact pX_light_4 h hW (by omega) 6 0 1000 (by omega) (by omega)

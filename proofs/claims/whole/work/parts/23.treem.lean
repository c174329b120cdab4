/-! TREE: times of keys (0: not there); the top of an interval is the key with the least time -/
def zT (tm : Nat → Nat) (a b t : Nat) : Prop := (t = 64 ∧ ∀ k, a ≤ k → k < b → tm k = 0) ∨ (a ≤ t ∧ t < b ∧ 0 < tm t ∧ ∀ k, a ≤ k → k < b → 0 < tm k → tm t ≤ tm k)
def zJ (tm : Nat → Nat) : Prop := ∀ i j, i < 64 → j < 64 → 0 < tm i → tm i = tm j → i = j
theorem zT_lt {tm : Nat → Nat} {a b t : Nat} (hb : b ≤ 64) (h : zT tm a b t) (h2 : t < 64) : a ≤ t ∧ t < b ∧ 0 < tm t ∧ ∀ k, a ≤ k → k < b → 0 < tm k → tm t ≤ tm k := by
  rcases h with h | h
  · omega
  · exact h
theorem zT_no {tm : Nat → Nat} {a b : Nat} (hb : b ≤ 64) (h : zT tm a b 64) : ∀ k, a ≤ k → k < b → tm k = 0 := by
  rcases h with h | h
  · exact h.2
  · omega
theorem zT_uniq {tm : Nat → Nat} {a b t u : Nat} (hj : zJ tm) (hb : b ≤ 64) (h1 : zT tm a b t) (h2 : zT tm a b u) : t = u := by
  rcases h1 with h1 | h1
  · rcases h2 with h2 | h2
    · omega
    · have := h1.2 u h2.1 h2.2.1; omega
  · rcases h2 with h2 | h2
    · have := h2.2 t h1.1 h1.2.1; omega
    · have e1 := h1.2.2.2 u h2.1 h2.2.1 h2.2.2.1
      have e2 := h2.2.2.2 t h1.1 h1.2.1 h1.2.2.1
      exact hj t u (by omega) (by omega) h1.2.2.1 (by omega)
def zIv (tm : Nat → Nat) (a b : Nat) : Prop := a ≤ b ∧ b ≤ 64 ∧ (a = 0 ∨ (0 < tm (a - 1) ∧ ∀ k, a ≤ k → k < b → 0 < tm k → tm (a - 1) < tm k)) ∧ (b = 64 ∨ (0 < tm b ∧ ∀ k, a ≤ k → k < b → 0 < tm k → tm b < tm k))
/-- the node above an interval -/
def zAb (tm : Nat → Nat) (a b ab : Nat) : Prop := (a = 0 ∧ b = 64 ∧ ab = 64) ∨ (ab = b ∧ b < 64 ∧ (a = 0 ∨ tm (a - 1) < tm b)) ∨ (0 < a ∧ ab = a - 1 ∧ (b = 64 ∨ tm b < tm (a - 1)))
def zLK (tm l r : Nat → Nat) (root : Nat) : Prop := zT tm 0 64 root ∧ ∀ a b t, zIv tm a b → zT tm a b t → t < 64 → zT tm a t (l t) ∧ zT tm (t + 1) b (r t)
theorem zIv_all (tm : Nat → Nat) : zIv tm 0 64 := ⟨by omega, by omega, Or.inl rfl, Or.inl rfl⟩
theorem zIv_l {tm : Nat → Nat} {a b t : Nat} (hj : zJ tm) (h : zIv tm a b) (ht : zT tm a b t) (h2 : t < 64) : zIv tm a t ∧ zAb tm a t t := by
  obtain ⟨h3, h4, h5, h6⟩ := h
  obtain ⟨t1, t2, t3, t4⟩ := zT_lt h4 ht h2
  refine ⟨⟨t1, by omega, ?_, Or.inr ⟨t3, fun k q1 q2 q3 => ?_⟩⟩, Or.inr (Or.inl ⟨rfl, h2, ?_⟩)⟩
  · rcases h5 with h5 | h5
    · exact Or.inl h5
    · exact Or.inr ⟨h5.1, fun k q1 q2 q3 => h5.2 k q1 (by omega) q3⟩
  · have e1 := t4 k q1 (by omega) q3
    have e2 : tm t ≠ tm k := fun e => by have := hj t k (by omega) (by omega) t3 e; omega
    omega
  · rcases h5 with h5 | h5
    · exact Or.inl h5
    · exact Or.inr (h5.2 t t1 t2 t3)
theorem zIv_r {tm : Nat → Nat} {a b t : Nat} (hj : zJ tm) (h : zIv tm a b) (ht : zT tm a b t) (h2 : t < 64) : zIv tm (t + 1) b ∧ zAb tm (t + 1) b t := by
  obtain ⟨h3, h4, h5, h6⟩ := h
  obtain ⟨t1, t2, t3, t4⟩ := zT_lt h4 ht h2
  refine ⟨⟨by omega, h4, Or.inr ⟨by rw [show t + 1 - 1 = t by omega]; exact t3, fun k q1 q2 q3 => ?_⟩, ?_⟩, Or.inr (Or.inr ⟨by omega, by omega, ?_⟩)⟩
  · rw [show t + 1 - 1 = t by omega]
    have e1 := t4 k (by omega) q2 q3
    have e2 : tm t ≠ tm k := fun e => by have := hj t k (by omega) (by omega) t3 e; omega
    omega
  · rcases h6 with h6 | h6
    · exact Or.inl h6
    · exact Or.inr ⟨h6.1, fun k q1 q2 q3 => h6.2 k (by omega) q2 q3⟩
  · rw [show t + 1 - 1 = t by omega]
    rcases h6 with h6 | h6
    · exact Or.inl h6
    · exact Or.inr (h6.2 t t1 t2 t3)
theorem zIv_uniq {tm : Nat → Nat} {a b a' b' t : Nat} (h : zIv tm a b) (h' : zIv tm a' b') (ht : zT tm a b t) (ht' : zT tm a' b' t) (h2 : t < 64) : a = a' ∧ b = b' := by
  obtain ⟨x3, x4, x5, x6⟩ := h
  obtain ⟨y3, y4, y5, y6⟩ := h'
  obtain ⟨t1, t2, t3, t4⟩ := zT_lt x4 ht h2
  obtain ⟨u1, u2, u3, u4⟩ := zT_lt y4 ht' h2
  constructor
  · rcases Nat.lt_trichotomy a a' with q | q | q
    · rcases y5 with y5 | y5
      · omega
      · have e1 := t4 (a' - 1) (by omega) (by omega) y5.1
        have e2 := y5.2 t u1 u2 u3
        omega
    · exact q
    · rcases x5 with x5 | x5
      · omega
      · have e1 := u4 (a - 1) (by omega) (by omega) x5.1
        have e2 := x5.2 t t1 t2 t3
        omega
  · rcases Nat.lt_trichotomy b b' with q | q | q
    · rcases x6 with x6 | x6
      · omega
      · have e1 := u4 b (by omega) q x6.1
        have e2 := x6.2 t t1 t2 t3
        omega
    · exact q
    · rcases y6 with y6 | y6
      · omega
      · have e1 := t4 b' (by omega) q y6.1
        have e2 := y6.2 t u1 u2 u3
        omega
/-- the top, computed -/
def zto (tm : Nat → Nat) : Nat → Nat → Nat → Nat
  | 0, _, c => c
  | r + 1, i, c => if tm i = 0 then zto tm r (i + 1) c else if c = 64 then zto tm r (i + 1) i else if tm c ≤ tm i then zto tm r (i + 1) c else zto tm r (i + 1) i
def ztop (tm : Nat → Nat) (a b : Nat) : Nat := zto tm (b - a) a 64
theorem zto_T {tm : Nat → Nat} {a : Nat} : ∀ r i c, i + r ≤ 64 → a ≤ i → zT tm a i c → zT tm a (i + r) (zto tm r i c) := by
  intro r
  induction r with
  | zero => intro i c _ _ h; exact h
  | succ r ih =>
    intro i c h1 h2 h
    unfold zto
    have key : ∀ d, zT tm a (i + 1) d → zT tm a (i + (r + 1)) (zto tm r (i + 1) d) := fun d hd => by
      have := ih (i + 1) d (by omega) (by omega) hd
      rw [show i + 1 + r = i + (r + 1) by omega] at this
      exact this
    by_cases q : tm i = 0
    · rw [if_pos q]
      refine key c ?_
      rcases h with h | h
      · refine Or.inl ⟨h.1, fun k k1 k2 => ?_⟩
        by_cases e : k = i
        · rw [e]; exact q
        · exact h.2 k k1 (by omega)
      · refine Or.inr ⟨h.1, by omega, h.2.2.1, fun k k1 k2 k3 => ?_⟩
        by_cases e : k = i
        · rw [e] at k3; omega
        · exact h.2.2.2 k k1 (by omega) k3
    · rw [if_neg q]
      by_cases w : c = 64
      · rw [if_pos w]
        refine key i (Or.inr ⟨h2, by omega, by omega, fun k k1 k2 k3 => ?_⟩)
        by_cases e : k = i
        · rw [e]; exact Nat.le_refl _
        · rw [w] at h; have := zT_no (by omega) h k k1 (by omega); omega
      · rw [if_neg w]
        have h' : a ≤ c ∧ c < i ∧ 0 < tm c ∧ ∀ k, a ≤ k → k < i → 0 < tm k → tm c ≤ tm k := by
          rcases h with h | h
          · omega
          · exact h
        by_cases y : tm c ≤ tm i
        · rw [if_pos y]
          refine key c (Or.inr ⟨h'.1, by omega, h'.2.2.1, fun k k1 k2 k3 => ?_⟩)
          by_cases e : k = i
          · rw [e]; exact y
          · exact h'.2.2.2 k k1 (by omega) k3
        · rw [if_neg y]
          refine key i (Or.inr ⟨h2, by omega, by omega, fun k k1 k2 k3 => ?_⟩)
          by_cases e : k = i
          · rw [e]; exact Nat.le_refl _
          · have := h'.2.2.2 k k1 (by omega) k3; omega
theorem ztop_T {tm : Nat → Nat} {a b : Nat} (h : a ≤ b) (hb : b ≤ 64) : zT tm a b (ztop tm a b) := by
  have := zto_T (tm := tm) (a := a) (b - a) a 64 (by omega) (Nat.le_refl a) (Or.inl ⟨rfl, fun k k1 k2 => absurd k2 (by omega)⟩)
  rw [show a + (b - a) = b by omega] at this
  exact this
theorem zT_le {tm : Nat → Nat} {a b t : Nat} (hb : b ≤ 64) (h : zT tm a b t) : t ≤ 64 := by
  rcases h with h | h
  · omega
  · omega
/-- the way to k: steps, and the interval and the node above where it ends -/
def zwy (tm : Nat → Nat) (k : Nat) : Nat → Nat → Nat → Nat → Nat × Nat × Nat × Nat
  | 0, a, b, ab => (0, a, b, ab)
  | f + 1, a, b, ab => if ztop tm a b = 64 then (0, a, b, ab) else if ztop tm a b = k then (1, a, b, ab) else if k < ztop tm a b then ((zwy tm k f a (ztop tm a b) (ztop tm a b)).1 + 1, (zwy tm k f a (ztop tm a b) (ztop tm a b)).2) else ((zwy tm k f (ztop tm a b + 1) b (ztop tm a b)).1 + 1, (zwy tm k f (ztop tm a b + 1) b (ztop tm a b)).2)
theorem zwy_ok {tm : Nat → Nat} {k : Nat} (hj : zJ tm) : ∀ f a b ab, b - a < f → zIv tm a b → zAb tm a b ab → a ≤ k → k < b → zIv tm (zwy tm k f a b ab).2.1 (zwy tm k f a b ab).2.2.1 ∧ zAb tm (zwy tm k f a b ab).2.1 (zwy tm k f a b ab).2.2.1 (zwy tm k f a b ab).2.2.2 ∧ (zwy tm k f a b ab).2.1 ≤ k ∧ k < (zwy tm k f a b ab).2.2.1 ∧ (zwy tm k f a b ab).1 ≤ b - a ∧ ((tm k = 0 ∧ zT tm (zwy tm k f a b ab).2.1 (zwy tm k f a b ab).2.2.1 64) ∨ (0 < tm k ∧ zT tm (zwy tm k f a b ab).2.1 (zwy tm k f a b ab).2.2.1 k)) := by
  intro f
  induction f with
  | zero => intro a b ab h; omega
  | succ f ih =>
    intro a b ab hf hI hA hk1 hk2
    have hb := hI.2.1
    have hT := ztop_T (tm := tm) hI.1 hb
    have hle := zT_le hb hT
    unfold zwy
    by_cases q : ztop tm a b = 64
    · rw [if_pos q]
      rw [q] at hT
      exact ⟨hI, hA, hk1, hk2, Nat.zero_le _, Or.inl ⟨zT_no hb hT k hk1 hk2, hT⟩⟩
    · rw [if_neg q]
      have ht64 : ztop tm a b < 64 := by omega
      obtain ⟨t1, t2, t3, t4⟩ := zT_lt hb hT ht64
      by_cases w : ztop tm a b = k
      · rw [if_pos w]
        rw [w] at hT t3
        exact ⟨hI, hA, hk1, hk2, by show 1 ≤ b - a; omega, Or.inr ⟨t3, hT⟩⟩
      · rw [if_neg w]
        by_cases y : k < ztop tm a b
        · rw [if_pos y]
          obtain ⟨i1, i2⟩ := zIv_l hj hI hT ht64
          obtain ⟨r1, r2, r3, r4, r5, r6⟩ := ih a (ztop tm a b) (ztop tm a b) (by omega) i1 i2 hk1 y
          exact ⟨r1, r2, r3, r4, by show _ + 1 ≤ _; omega, r6⟩
        · rw [if_neg y]
          obtain ⟨i1, i2⟩ := zIv_r hj hI hT ht64
          obtain ⟨r1, r2, r3, r4, r5, r6⟩ := ih (ztop tm a b + 1) b (ztop tm a b) (by omega) i1 i2 (by omega) hk2
          exact ⟨r1, r2, r3, r4, by show _ + 1 ≤ _; omega, r6⟩

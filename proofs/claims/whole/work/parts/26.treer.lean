/-! TREE: a node's key k becomes m, the next place with none between -/
def zal (k m a : Nat) : Nat := if a = m + 1 then k + 1 else a
def zbe (k m b : Nat) : Nat := if b = m then k else b
def zps (k m u : Nat) : Nat := if u = k then m else u
theorem zAb_l {tm : Nat → Nat} {a b k ab a0 b0 t : Nat} (hI : zIv tm a b) (hA : zAb tm a b ab) (hT : zT tm a b k) (hk : k < 64) (c1 : t = ab) (c2 : k < ab) (ht : t < 64) (hI0 : zIv tm a0 b0) (hT0 : zT tm a0 b0 t) : a0 = a ∧ b = t := by
  obtain ⟨k1, k2, k3, k4⟩ := zT_lt hI.2.1 hT hk
  obtain ⟨t1, t2, t3, t4⟩ := zT_lt hI0.2.1 hT0 ht
  have hbt : b = t ∧ (a = 0 ∨ tm (a - 1) < tm t) := by
    rcases hA with q | q | q
    · omega
    · exact ⟨by omega, by rw [c1, q.1]; exact q.2.2⟩
    · omega
  refine ⟨?_, hbt.1⟩
  rcases Nat.lt_trichotomy a0 a with q | q | q
  · rcases hbt.2 with z | z
    · omega
    · rcases hI.2.2.1 with y | y
      · omega
      · have := t4 (a - 1) (by omega) (by omega) y.1; omega
  · exact q
  · rcases hI0.2.2.1 with y | y
    · omega
    · have y1 := y.2 t t1 t2 t3
      have y2 := k4 (a0 - 1) (by omega) (by omega) y.1
      rcases hI.2.2.2 with z | z
      · omega
      · have := z.2 k k1 k2 k3; rw [hbt.1] at this; omega
theorem zAb_r {tm : Nat → Nat} {a b k ab a0 b0 t : Nat} (hI : zIv tm a b) (hA : zAb tm a b ab) (hT : zT tm a b k) (hk : k < 64) (c1 : t = ab) (c2 : ab ≤ k) (ht : t < 64) (hI0 : zIv tm a0 b0) (hT0 : zT tm a0 b0 t) : b0 = b ∧ a = t + 1 := by
  obtain ⟨k1, k2, k3, k4⟩ := zT_lt hI.2.1 hT hk
  obtain ⟨t1, t2, t3, t4⟩ := zT_lt hI0.2.1 hT0 ht
  have hat : a = t + 1 ∧ (b = 64 ∨ tm b < tm t) := by
    rcases hA with q | q | q
    · omega
    · omega
    · exact ⟨by omega, by rw [c1, q.2.1]; exact q.2.2⟩
  refine ⟨?_, hat.1⟩
  rcases Nat.lt_trichotomy b b0 with q | q | q
  · rcases hat.2 with z | z
    · have := hI0.2.1; omega
    · rcases hI.2.2.2 with y | y
      · have := hI0.2.1; omega
      · have := t4 b (by omega) q y.1; omega
  · exact q.symm
  · rcases hI0.2.2.2 with y | y
    · have := hI.2.1; omega
    · have y1 := y.2 t t1 t2 t3
      have y2 := k4 b0 (by omega) q y.1
      rcases hI.2.2.1 with z | z
      · omega
      · have := z.2 k k1 k2 k3; rw [hat.1, show t + 1 - 1 = t by omega] at this; omega
theorem zLK_ren {tm l r : Nat → Nat} {root k m a b ab : Nat} (hj : zJ tm) (hL : zLK tm l r root) (hm : m < 64) (hkm : k < m) (h0 : 0 < tm k) (hgap : ∀ j, k < j → j ≤ m → tm j = 0) (hI : zIv tm a b) (hA : zAb tm a b ab) (hT : zT tm a b k) :
    zLK (fun j => if j = m then tm k else if j = k then 0 else tm j) (zhL (fun j => if j = m then l k else l j) ab k m) (zhR (fun j => if j = m then r k else r j) ab k m) (if ab = 64 then m else root) := by
  have hk : k < 64 := by omega
  have em : (fun j => if j = m then tm k else if j = k then 0 else tm j) m = tm k := if_pos rfl
  have ek : (fun j => if j = m then tm k else if j = k then 0 else tm j) k = 0 := by show (if k = m then _ else _) = 0; rw [if_neg (by omega), if_pos rfl]
  have en : ∀ j, j ≠ k → j ≠ m → (fun j => if j = m then tm k else if j = k then 0 else tm j) j = tm j := fun j q1 q2 => by show (if j = m then _ else _) = _; rw [if_neg q2, if_neg q1]
  generalize (fun j => if j = m then tm k else if j = k then 0 else tm j) = t2 at em ek en
  have hgm : tm m = 0 := hgap m hkm (Nat.le_refl m)
  -- places of one among those of the other
  have fwd : ∀ a1 b1 j, (a1 ≤ k ∨ m < a1) → (b1 ≤ k ∨ m ≤ b1) → zal k m a1 ≤ j → j < zbe k m b1 → 0 < tm j → a1 ≤ zps k m j ∧ zps k m j < b1 ∧ t2 (zps k m j) = tm j := fun a1 b1 j ha hb j1 j2 j3 => by
    unfold zal at j1; unfold zbe at j2; unfold zps
    by_cases q : j = k
    · rw [if_pos q, em, q]
      refine ⟨?_, ?_, rfl⟩
      · by_cases w : a1 = m + 1
        · rw [if_pos w] at j1; omega
        · rw [if_neg w] at j1; omega
      · by_cases w : b1 = m
        · rw [if_pos w] at j2; omega
        · rw [if_neg w] at j2; omega
    · have hjm : ¬ (k < j ∧ j ≤ m) := fun w => by have := hgap j w.1 w.2; omega
      rw [if_neg q, en j q (by omega)]
      refine ⟨?_, ?_, rfl⟩
      · by_cases w : a1 = m + 1
        · rw [if_pos w] at j1; omega
        · rw [if_neg w] at j1; omega
      · by_cases w : b1 = m
        · rw [if_pos w] at j2; omega
        · rw [if_neg w] at j2; omega
  have bwd : ∀ a1 b1 j, (a1 ≤ k ∨ m < a1) → (b1 ≤ k ∨ m ≤ b1) → a1 ≤ j → j < b1 → 0 < t2 j → j < 64 → ∃ i, zps k m i = j ∧ zal k m a1 ≤ i ∧ i < zbe k m b1 ∧ tm i = t2 j := fun a1 b1 j ha hb j1 j2 j3 j4 => by
    by_cases q : j = m
    · refine ⟨k, by unfold zps; rw [if_pos rfl, q], ?_, ?_, by rw [q, em]⟩
      · unfold zal; rw [if_neg (by omega)]; omega
      · unfold zbe; rw [if_neg (by omega)]; omega
    · have hjk : j ≠ k := fun e => by rw [e, ek] at j3; omega
      rw [en j hjk q] at j3 ⊢
      have hjm : ¬ (k < j ∧ j ≤ m) := fun w => by have := hgap j w.1 w.2; omega
      refine ⟨j, by unfold zps; rw [if_neg hjk], ?_, ?_, rfl⟩
      · unfold zal
        by_cases w : a1 = m + 1
        · rw [if_pos w]; omega
        · rw [if_neg w]; omega
      · unfold zbe
        by_cases w : b1 = m
        · rw [if_pos w]; omega
        · rw [if_neg w]; omega
  have toT : ∀ a1 b1 u, (a1 ≤ k ∨ m < a1) → (b1 ≤ k ∨ m ≤ b1) → b1 ≤ 64 → zT tm (zal k m a1) (zbe k m b1) u → zT t2 a1 b1 (zps k m u) := fun a1 b1 u ha hb hb64 h => by
    rcases h with h | h
    · refine Or.inl ⟨by unfold zps; rw [if_neg (by omega)]; exact h.1, fun j j1 j2 => ?_⟩
      rcases Nat.eq_zero_or_pos (t2 j) with q | q
      · exact q
      · obtain ⟨i, i1, i2, i3, i4⟩ := bwd a1 b1 j ha hb j1 j2 q (by omega)
        have := h.2 i i2 i3; omega
    · obtain ⟨f1, f2, f3⟩ := fwd a1 b1 u ha hb h.1 h.2.1 h.2.2.1
      refine Or.inr ⟨f1, f2, by rw [f3]; exact h.2.2.1, fun j j1 j2 j3 => ?_⟩
      obtain ⟨i, i1, i2, i3, i4⟩ := bwd a1 b1 j ha hb j1 j2 j3 (by omega)
      rw [f3, ← i4]
      exact h.2.2.2 i i2 i3 (by omega)
  refine ⟨?_, ?_⟩
  · have h1 := toT 0 64 root (Or.inl (by omega)) (Or.inr (by omega)) (Nat.le_refl 64) (by
      unfold zal zbe; rw [if_neg (by omega), if_neg (by omega)]; exact hL.1)
    have e : (if ab = 64 then m else root) = zps k m root := by
      unfold zps
      by_cases q : root = k
      · rw [if_pos q]
        have hroot := hL.1
        rw [q] at hroot
        have hu := zIv_uniq hI (zIv_all tm) hT hroot hk
        rw [if_pos (by rcases hA with w | w | w <;> omega)]
      · rw [if_neg q, if_neg (fun w => q ?_)]
        have hab : a = 0 ∧ b = 64 := by
          rcases hA with y | y | y
          · exact ⟨y.1, y.2.1⟩
          · omega
          · have := hI.2.1; have := hI.1; omega
        rw [hab.1, hab.2] at hT
        exact zT_uniq hj (Nat.le_refl 64) hL.1 hT
    rw [e]
    exact h1
  · intro a1 b1 t hI1 hT1 ht
    have hb1 := hI1.2.1
    obtain ⟨t1, t2', t3, t4⟩ := zT_lt hb1 hT1 ht
    have htk : t ≠ k := fun e => by rw [e, ek] at t3; omega
    have hta : t < k ∨ m ≤ t := by
      by_cases q : t = m
      · omega
      · rw [en t htk q] at t3
        rcases Nat.lt_or_ge t k with w | w
        · exact Or.inl w
        · rcases Nat.lt_or_ge t m with y | y
          · have := hgap t (by omega) (by omega); omega
          · exact Or.inr y
    have haa : a1 ≤ k ∨ m < a1 := by
      rcases hI1.2.2.1 with q | q
      · omega
      · rcases Nat.lt_or_ge k a1 with w | w
        · rcases Nat.lt_or_ge m a1 with y | y
          · exact Or.inr y
          · exfalso
            by_cases z : a1 - 1 = k
            · rw [z, ek] at q; omega
            · rw [en _ z (by omega)] at q; have := hgap (a1 - 1) (by omega) (by omega); omega
        · exact Or.inl w
    have hba : b1 ≤ k ∨ m ≤ b1 := by
      rcases hI1.2.2.2 with q | q
      · omega
      · rcases Nat.lt_or_ge k b1 with w | w
        · rcases Nat.lt_or_ge b1 m with y | y
          · rw [en _ (by omega) (by omega)] at q; have := hgap b1 w (by omega); omega
          · exact Or.inr y
        · exact Or.inl w
    have hbk : b1 ≠ k := fun e => by
      rcases hI1.2.2.2 with q | q
      · omega
      · rw [e, ek] at q; omega
    obtain ⟨t0, u1, u2, u3, u4⟩ := bwd a1 b1 t haa hba t1 t2' t3 ht
    have ht0 : t0 = if t = m then k else t := by
      unfold zps at u1
      by_cases q : t0 = k
      · rw [if_pos q] at u1; rw [if_pos u1.symm]; exact q
      · rw [if_neg q] at u1
        have : t ≠ m := fun e => by rw [u1, e] at u4; rw [em] at u4; omega
        rw [if_neg this]; exact u1
    have ht064 : t0 < 64 := by
      rw [ht0]
      by_cases q : t = m
      · rw [if_pos q]; omega
      · rw [if_neg q]; omega
    have hTo : zT tm (zal k m a1) (zbe k m b1) t0 := by
      refine Or.inr ⟨u2, u3, by rw [u4]; exact t3, fun j j1 j2 j3 => ?_⟩
      obtain ⟨f1, f2, f3⟩ := fwd a1 b1 j haa hba j1 j2 j3
      rw [u4, ← f3]
      exact t4 _ f1 f2 (by rw [f3]; exact j3)
    have hIo : zIv tm (zal k m a1) (zbe k m b1) := by
      refine ⟨by omega, ?_, ?_, ?_⟩
      · unfold zbe; by_cases q : b1 = m
        · rw [if_pos q]; omega
        · rw [if_neg q]; exact hb1
      · rcases hI1.2.2.1 with q | q
        · left; unfold zal; rw [if_neg (by omega)]; exact q
        · right
          have hlowv : tm (zal k m a1 - 1) = t2 (a1 - 1) := by
            unfold zal
            by_cases w : a1 = m + 1
            · rw [if_pos w, w, show m + 1 - 1 = m by omega, em, show k + 1 - 1 = k by omega]
            · rw [if_neg w]
              have z1 : a1 - 1 ≠ k := fun e => by rw [e, ek] at q; omega
              by_cases z2 : a1 = 0
              · subst z2
                by_cases z3 : (0 : Nat) - 1 = m
                · omega
                · rw [en _ z1 z3]
              · rw [en _ z1 (by omega)]
          rw [hlowv]
          refine ⟨q.1, fun j j1 j2 j3 => ?_⟩
          obtain ⟨f1, f2, f3⟩ := fwd a1 b1 j haa hba j1 j2 j3
          rw [← f3]
          exact q.2 _ f1 f2 (by rw [f3]; exact j3)
      · rcases hI1.2.2.2 with q | q
        · left; unfold zbe; rw [if_neg (by omega)]; exact q
        · right
          have hhv : tm (zbe k m b1) = t2 b1 := by
            unfold zbe
            by_cases w : b1 = m
            · rw [if_pos w, w, em]
            · rw [if_neg w, en _ hbk w]
          rw [hhv]
          refine ⟨q.1, fun j j1 j2 j3 => ?_⟩
          obtain ⟨f1, f2, f3⟩ := fwd a1 b1 j haa hba j1 j2 j3
          rw [← f3]
          exact q.2 _ f1 f2 (by rw [f3]; exact j3)
    obtain ⟨hl, hr⟩ := hL.2 _ _ t0 hIo hTo ht064
    have hbt : zbe k m t = t0 := by unfold zbe; exact ht0.symm
    have hat : zal k m (t + 1) = t0 + 1 := by
      rw [ht0]; unfold zal
      by_cases q : t = m
      · rw [if_pos (by omega), if_pos q]
      · rw [if_neg (by omega), if_neg q]
    have gl := toT a1 t (l t0) haa (by omega) (by omega) (by rw [hbt]; exact hl)
    have gr := toT (t + 1) b1 (r t0) (by omega) hba hb1 (by rw [hat]; exact hr)
    have habm : ab ≠ m := fun e => by
      rcases hA with q | q | q
      · omega
      · rcases hI.2.2.2 with z | z
        · omega
        · rw [← q.1, e] at z; omega
      · rcases hI.2.2.1 with z | z
        · omega
        · rw [← q.2.1, e] at z; omega
    have hb0 : zbe k m b1 ≤ 64 := hIo.2.1
    constructor
    · have e : zhL (fun j => if j = m then l k else l j) ab k m t = zps k m (l t0) := by
        unfold zhL
        by_cases q : t = m
        · rw [if_neg (fun w => habm (by omega))]
          show (if t = m then l k else l t) = _
          rw [if_pos q]
          rw [if_pos q] at ht0
          rw [ht0] at hl ⊢
          unfold zps
          rw [if_neg]
          rcases hl with w | w <;> omega
        · rw [if_neg q] at ht0
          rw [ht0] at hl hTo ⊢
          by_cases c : t = ab ∧ k < ab
          · rw [if_pos c]
            obtain ⟨v1, v2⟩ := zAb_l hI hA hT hk c.1 c.2 ht hIo hTo
            rw [v1] at hl
            rw [v2] at hT
            have := zT_uniq hj (by omega) hl hT
            unfold zps; rw [if_pos this]
          · rw [if_neg c]
            show (if t = m then l k else l t) = _
            rw [if_neg q]
            unfold zps
            rw [if_neg (fun w => c ?_)]
            rw [w] at hl
            obtain ⟨i1, i2⟩ := zIv_l hj hIo hTo ht
            obtain ⟨v1, v2⟩ := zIv_uniq hI i1 hT hl hk
            have hkt := zT_lt (by omega) hl hk
            rcases hA with y | y | y
            · omega
            · exact ⟨by omega, by omega⟩
            · exfalso
              rcases y.2.2 with z | z
              · omega
              · rcases hIo.2.2.1 with x | x
                · omega
                · have := x.2 t (by omega) (by rw [← ht0]; exact u3) (by rw [← ht0, u4]; exact t3)
                  rw [v1, v2] at z
                  omega
      rw [e]
      exact gl
    · have e : zhR (fun j => if j = m then r k else r j) ab k m t = zps k m (r t0) := by
        unfold zhR
        by_cases q : t = m
        · rw [if_neg (fun w => habm (by omega))]
          show (if t = m then r k else r t) = _
          rw [if_pos q]
          rw [if_pos q] at ht0
          rw [ht0] at hr ⊢
          unfold zps
          rw [if_neg]
          rcases hr with w | w <;> omega
        · rw [if_neg q] at ht0
          rw [ht0] at hr hTo ⊢
          by_cases c : t = ab ∧ ab ≤ k
          · rw [if_pos c]
            obtain ⟨v1, v2⟩ := zAb_r hI hA hT hk c.1 c.2 ht hIo hTo
            rw [v1] at hr
            rw [v2] at hT
            have := zT_uniq hj hI.2.1 hr hT
            unfold zps; rw [if_pos this]
          · rw [if_neg c]
            show (if t = m then r k else r t) = _
            rw [if_neg q]
            unfold zps
            rw [if_neg (fun w => c ?_)]
            rw [w] at hr
            obtain ⟨i1, i2⟩ := zIv_r hj hIo hTo ht
            obtain ⟨v1, v2⟩ := zIv_uniq hI i1 hT hr hk
            have hkt := zT_lt hb0 hr hk
            rcases hA with y | y | y
            · omega
            · exfalso
              rcases y.2.2 with z | z
              · omega
              · rcases hIo.2.2.2 with x | x
                · omega
                · have := x.2 t (by rw [← ht0]; exact u2) (by omega) (by rw [← ht0, u4]; exact t3)
                  rw [v1, v2, show t + 1 - 1 = t by omega] at z
                  omega
            · exact ⟨by omega, by omega⟩
      rw [e]
      exact gr

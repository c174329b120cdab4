/-! TREE: links when a node with at most one child goes -/
theorem zT_drop {tm tm' : Nat → Nat} {a b k t : Nat} (e0 : tm' k = 0) (en : ∀ j, j ≠ k → tm' j = tm j) (hb : b ≤ 64) (h : zT tm a b t) (ht : t ≠ k) : zT tm' a b t := by
  rcases h with h | h
  · refine Or.inl ⟨h.1, fun j j1 j2 => ?_⟩
    by_cases q : j = k
    · rw [q]; exact e0
    · rw [en j q]; exact h.2 j j1 j2
  · refine Or.inr ⟨h.1, h.2.1, by rw [en t ht]; exact h.2.2.1, fun j j1 j2 j3 => ?_⟩
    by_cases q : j = k
    · rw [q, e0] at j3; omega
    · rw [en j q] at j3 ⊢; rw [en t ht]; exact h.2.2.2 j j1 j2 j3
theorem zLK_del {tm l r : Nat → Nat} {root k x a b ab : Nat} (hj : zJ tm) (hL : zLK tm l r root) (hk : k < 64) (h0 : 0 < tm k) (hI : zIv tm a b) (hA : zAb tm a b ab) (hT : zT tm a b k) (hx : (l k = 64 ∧ x = r k) ∨ (r k = 64 ∧ x = l k)) :
    zLK (fun j => if j = k then 0 else tm j) (zhL l ab k x) (zhR r ab k x) (if ab = 64 then x else root) := by
  have hb64 := hI.2.1
  obtain ⟨k1, k2, k3, k4⟩ := zT_lt hb64 hT hk
  obtain ⟨hlk, hrk⟩ := hL.2 a b k hI hT hk
  have e0 : (fun j => if j = k then 0 else tm j) k = 0 := if_pos rfl
  have en : ∀ j, j ≠ k → (fun j => if j = k then 0 else tm j) j = tm j := fun j q => if_neg q
  generalize (fun j => if j = k then 0 else tm j) = tm' at e0 en
  -- one side is empty
  have hside : (∀ j, a ≤ j → j < k → tm j = 0) ∨ (∀ j, k + 1 ≤ j → j < b → tm j = 0) := by
    rcases hx with q | q
    · rw [q.1] at hlk; exact Or.inl (zT_no (by omega) hlk)
    · rw [q.1] at hrk; exact Or.inr (zT_no hb64 hrk)
  have hxT : zT tm' a b x := by
    rcases hx with ⟨q1, q2⟩ | ⟨q1, q2⟩
    · rw [q1] at hlk
      have hn := zT_no (by omega) hlk
      rw [q2]
      rcases hrk with w | w
      · refine Or.inl ⟨w.1, fun j j1 j2 => ?_⟩
        by_cases y : j = k
        · rw [y]; exact e0
        · rw [en j y]
          rcases Nat.lt_or_ge j k with z | z
          · exact hn j j1 z
          · exact w.2 j (by omega) j2
      · have hne : r k ≠ k := by omega
        refine Or.inr ⟨by omega, w.2.1, by rw [en _ hne]; exact w.2.2.1, fun j j1 j2 j3 => ?_⟩
        by_cases y : j = k
        · rw [y, e0] at j3; omega
        · rw [en j y] at j3 ⊢; rw [en _ hne]
          rcases Nat.lt_or_ge j k with z | z
          · have := hn j j1 z; omega
          · exact w.2.2.2 j (by omega) j2 j3
    · rw [q1] at hrk
      have hn := zT_no hb64 hrk
      rw [q2]
      rcases hlk with w | w
      · refine Or.inl ⟨w.1, fun j j1 j2 => ?_⟩
        by_cases y : j = k
        · rw [y]; exact e0
        · rw [en j y]
          rcases Nat.lt_or_ge j k with z | z
          · exact w.2 j j1 z
          · exact hn j (by omega) j2
      · have hne : l k ≠ k := by omega
        refine Or.inr ⟨w.1, by omega, by rw [en _ hne]; exact w.2.2.1, fun j j1 j2 j3 => ?_⟩
        by_cases y : j = k
        · rw [y, e0] at j3; omega
        · rw [en j y] at j3 ⊢; rw [en _ hne]
          rcases Nat.lt_or_ge j k with z | z
          · exact w.2.2.2 j j1 z j3
          · have := hn j (by omega) j2; omega
  have habL : ∀ t, t = ab → k < ab → t < 64 → b = t ∧ tm t < tm k ∧ (a = 0 ∨ tm (a - 1) < tm t) := fun t c1 c2 ht => by
    rcases hA with q | q | q
    · omega
    · refine ⟨by omega, ?_, by rw [c1, q.1]; exact q.2.2⟩
      rcases hI.2.2.2 with z | z
      · omega
      · have := z.2 k k1 k2 h0; rw [c1, q.1]; exact this
    · omega
  have habR : ∀ t, t = ab → ab ≤ k → t < 64 → a = t + 1 ∧ tm t < tm k ∧ (b = 64 ∨ tm b < tm t) := fun t c1 c2 ht => by
    rcases hA with q | q | q
    · omega
    · omega
    · refine ⟨by omega, ?_, ?_⟩
      · rcases hI.2.2.1 with z | z
        · omega
        · have := z.2 k k1 k2 h0; rw [c1, q.2.1]; exact this
      · rw [c1, q.2.1]; exact q.2.2
  refine ⟨?_, ?_⟩
  · by_cases q : ab = 64
    · rw [if_pos q]
      have hab : a = 0 ∧ b = 64 := by
        rcases hA with w | w | w
        · exact ⟨w.1, w.2.1⟩
        · omega
        · omega
      rw [hab.1, hab.2] at hxT
      exact hxT
    · rw [if_neg q]
      have hrk2 : root ≠ k := fun e => by
        have hroot := hL.1
        rw [e] at hroot
        have hu := zIv_uniq hI (zIv_all tm) hT hroot hk
        rcases hA with w | w | w
        · omega
        · omega
        · omega
      exact zT_drop e0 en (Nat.le_refl 64) hL.1 hrk2
  · intro a1 b1 t hI1 hT1 ht
    have hb1 := hI1.2.1
    obtain ⟨t1, t2, t3, t4⟩ := zT_lt hb1 hT1 ht
    have htk : t ≠ k := fun e => by rw [e, e0] at t3; omega
    rw [en t htk] at t3
    have t4' : ∀ j, a1 ≤ j → j < b1 → j ≠ k → 0 < tm j → tm t ≤ tm j := fun j j1 j2 j3 j4 => by
      have := t4 j j1 j2 (by rw [en j j3]; exact j4)
      rw [en t htk, en j j3] at this
      exact this
    have hlow : a1 = 0 ∨ (a1 - 1 ≠ k ∧ 0 < tm (a1 - 1) ∧ ∀ j, a1 ≤ j → j < b1 → j ≠ k → 0 < tm j → tm (a1 - 1) < tm j) := by
      rcases hI1.2.2.1 with q | q
      · exact Or.inl q
      · have hne : a1 - 1 ≠ k := fun e => by rw [e, e0] at q; omega
        rw [en _ hne] at q
        exact Or.inr ⟨hne, q.1, fun j j1 j2 j3 j4 => by
          have := q.2 j j1 j2 (by rw [en j j3]; exact j4)
          rw [en j j3] at this
          exact this⟩
    have hhigh : b1 = 64 ∨ (b1 ≠ k ∧ 0 < tm b1 ∧ ∀ j, a1 ≤ j → j < b1 → j ≠ k → 0 < tm j → tm b1 < tm j) := by
      rcases hI1.2.2.2 with q | q
      · exact Or.inl q
      · have hne : b1 ≠ k := fun e => by rw [e, e0] at q; omega
        rw [en _ hne] at q
        exact Or.inr ⟨hne, q.1, fun j j1 j2 j3 j4 => by
          have := q.2 j j1 j2 (by rw [en j j3]; exact j4)
          rw [en j j3] at this
          exact this⟩
    have hLeq : ¬ (t = ab ∧ k < ab) → zhL l ab k x t = l t := fun c => by unfold zhL; rw [if_neg c]
    have hReq : ¬ (t = ab ∧ ab ≤ k) → zhR r ab k x t = r t := fun c => by unfold zhR; rw [if_neg c]
    by_cases hin : a1 ≤ k ∧ k < b1
    · by_cases hlt : tm k < tm t
      · by_cases hs : k < t
        · -- k is a lower bound of t's part
          have hIo : zIv tm (k + 1) b1 := by
            refine ⟨by omega, hb1, Or.inr ⟨by rw [show k + 1 - 1 = k by omega]; exact h0, fun j j1 j2 j3 => ?_⟩, ?_⟩
            · rw [show k + 1 - 1 = k by omega]; have := t4' j (by omega) j2 (by omega) j3; omega
            · rcases hhigh with q | q
              · exact Or.inl q
              · exact Or.inr ⟨q.2.1, fun j j1 j2 j3 => q.2.2 j (by omega) j2 (by omega) j3⟩
          have hTo : zT tm (k + 1) b1 t := Or.inr ⟨by omega, t2, t3, fun j j1 j2 j3 => t4' j (by omega) j2 (by omega) j3⟩
          obtain ⟨hl, hr⟩ := hL.2 (k + 1) b1 t hIo hTo ht
          have hcL : ¬ (t = ab ∧ k < ab) := fun c => by have := habL t c.1 c.2 ht; omega
          have hcR : ¬ (t = ab ∧ ab ≤ k) := fun c => by omega
          rw [hLeq hcL, hReq hcR]
          refine ⟨?_, zT_same (fun j j1 j2 => en j (by omega)) hr⟩
          have hempty : ∀ j, a1 ≤ j → j < k → tm j = 0 := by
            rcases hside with q | q
            · have g1 : a ≤ a1 := by
                rcases Nat.lt_or_ge a1 a with w | w
                · rcases hI.2.2.1 with z | z
                  · omega
                  · have z1 := z.2 k k1 k2 h0
                    have z2 := t4' (a - 1) (by omega) (by omega) (by omega) z.1
                    omega
                · exact w
              exact fun j j1 j2 => q j (by omega) j2
            · exfalso
              rcases Nat.lt_or_ge t b with w | w
              · have := q t (by omega) w; omega
              · rcases hI.2.2.2 with z | z
                · omega
                · have z1 := z.2 k k1 k2 h0
                  have z2 := t4' b (by omega) (by omega) (by omega) z.1
                  omega
          rcases hl with w | w
          · refine Or.inl ⟨w.1, fun j j1 j2 => ?_⟩
            by_cases y : j = k
            · rw [y]; exact e0
            · rw [en j y]
              rcases Nat.lt_or_ge j k with z | z
              · exact hempty j j1 z
              · exact w.2 j (by omega) j2
          · have hne : l t ≠ k := by omega
            refine Or.inr ⟨by omega, w.2.1, by rw [en _ hne]; exact w.2.2.1, fun j j1 j2 j3 => ?_⟩
            by_cases y : j = k
            · rw [y, e0] at j3; omega
            · rw [en j y] at j3 ⊢; rw [en _ hne]
              rcases Nat.lt_or_ge j k with z | z
              · have := hempty j j1 z; omega
              · exact w.2.2.2 j (by omega) j2 j3
        · have hIo : zIv tm a1 k := by
            refine ⟨by omega, by omega, ?_, Or.inr ⟨h0, fun j j1 j2 j3 => ?_⟩⟩
            · rcases hlow with q | q
              · exact Or.inl q
              · exact Or.inr ⟨q.2.1, fun j j1 j2 j3 => q.2.2 j j1 (by omega) (by omega) j3⟩
            · have := t4' j j1 (by omega) (by omega) j3; omega
          have hTo : zT tm a1 k t := Or.inr ⟨t1, by omega, t3, fun j j1 j2 j3 => t4' j j1 (by omega) (by omega) j3⟩
          obtain ⟨hl, hr⟩ := hL.2 a1 k t hIo hTo ht
          have hcR : ¬ (t = ab ∧ ab ≤ k) := fun c => by have := habR t c.1 c.2 ht; omega
          have hcL : ¬ (t = ab ∧ k < ab) := fun c => by omega
          rw [hLeq hcL, hReq hcR]
          refine ⟨zT_same (fun j j1 j2 => en j (by omega)) hl, ?_⟩
          have hempty : ∀ j, k + 1 ≤ j → j < b1 → tm j = 0 := by
            rcases hside with q | q
            · exfalso
              rcases Nat.lt_or_ge t a with w | w
              · rcases hI.2.2.1 with z | z
                · omega
                · have z1 := z.2 k k1 k2 h0
                  have z2 := t4' (a - 1) (by omega) (by omega) (by omega) z.1
                  omega
              · have := q t w (by omega); omega
            · have g1 : b1 ≤ b := by
                rcases Nat.lt_or_ge b b1 with w | w
                · rcases hI.2.2.2 with z | z
                  · omega
                  · have z1 := z.2 k k1 k2 h0
                    have z2 := t4' b (by omega) w (by omega) z.1
                    omega
                · exact w
              exact fun j j1 j2 => q j j1 (by omega)
          rcases hr with w | w
          · refine Or.inl ⟨w.1, fun j j1 j2 => ?_⟩
            by_cases y : j = k
            · rw [y]; exact e0
            · rw [en j y]
              rcases Nat.lt_or_ge j k with z | z
              · exact w.2 j j1 z
              · exact hempty j (by omega) j2
          · have hne : r t ≠ k := by omega
            refine Or.inr ⟨w.1, by omega, by rw [en _ hne]; exact w.2.2.1, fun j j1 j2 j3 => ?_⟩
            by_cases y : j = k
            · rw [y, e0] at j3; omega
            · rw [en j y] at j3 ⊢; rw [en _ hne]
              rcases Nat.lt_or_ge j k with z | z
              · exact w.2.2.2 j j1 z j3
              · have := hempty j (by omega) j2; omega
      · have hlt2 : tm t < tm k := by
          have : tm t ≠ tm k := fun e => htk (hj t k ht hk t3 e)
          omega
        have hIo : zIv tm a1 b1 := by
          refine ⟨hI1.1, hb1, ?_, ?_⟩
          · rcases hlow with q | q
            · exact Or.inl q
            · refine Or.inr ⟨q.2.1, fun j j1 j2 j3 => ?_⟩
              by_cases y : j = k
              · have := q.2.2 t t1 t2 htk t3; rw [y]; omega
              · exact q.2.2 j j1 j2 y j3
          · rcases hhigh with q | q
            · exact Or.inl q
            · refine Or.inr ⟨q.2.1, fun j j1 j2 j3 => ?_⟩
              by_cases y : j = k
              · have := q.2.2 t t1 t2 htk t3; rw [y]; omega
              · exact q.2.2 j j1 j2 y j3
        have hTo : zT tm a1 b1 t := Or.inr ⟨t1, t2, t3, fun j j1 j2 j3 => by
          by_cases y : j = k
          · rw [y]; omega
          · exact t4' j j1 j2 y j3⟩
        obtain ⟨hl, hr⟩ := hL.2 a1 b1 t hIo hTo ht
        by_cases hs : k < t
        · have hcR : ¬ (t = ab ∧ ab ≤ k) := fun c => by omega
          rw [hReq hcR]
          refine ⟨?_, zT_same (fun j j1 j2 => en j (by omega)) hr⟩
          by_cases hlk2 : l t = k
          · rw [hlk2] at hl
            obtain ⟨i1, i2⟩ := zIv_l hj hIo hTo ht
            obtain ⟨u1, u2⟩ := zIv_uniq hI i1 hT hl hk
            have hc : t = ab ∧ k < ab := by
              rcases hA with q | q | q
              · omega
              · exact ⟨by omega, by omega⟩
              · exfalso
                rcases q.2.2 with z | z
                · omega
                · rcases hlow with y | y
                  · omega
                  · have := y.2.2 t t1 t2 htk t3
                    rw [u1, u2] at z
                    omega
            have e1 : zhL l ab k x t = x := by unfold zhL; rw [if_pos hc]
            rw [e1, ← u1, ← u2]
            exact hxT
          · have hcL : ¬ (t = ab ∧ k < ab) := fun c => by
              obtain ⟨g1, g2, g3⟩ := habL t c.1 c.2 ht
              have hl64 : l t < 64 := by
                rcases hl with w | w
                · have := w.2 k hin.1 hs; omega
                · omega
              obtain ⟨w1, w2, w3, w4⟩ := zT_lt (by omega) hl hl64
              have w5 := w4 k hin.1 hs h0
              rcases Nat.lt_or_ge (l t) a with z | z
              · rcases g3 with y | y
                · omega
                · rcases hI.2.2.1 with v | v
                  · omega
                  · have := t4' (a - 1) (by omega) (by omega) (by omega) v.1; omega
              · have := k4 (l t) z (by omega) w3
                exact hlk2 (hj (l t) k hl64 hk w3 (by omega))
            rw [hLeq hcL]
            exact zT_drop e0 en (by omega) hl hlk2
        · have hcL : ¬ (t = ab ∧ k < ab) := fun c => by omega
          rw [hLeq hcL]
          refine ⟨zT_same (fun j j1 j2 => en j (by omega)) hl, ?_⟩
          by_cases hrk2 : r t = k
          · rw [hrk2] at hr
            obtain ⟨i1, i2⟩ := zIv_r hj hIo hTo ht
            obtain ⟨u1, u2⟩ := zIv_uniq hI i1 hT hr hk
            have hc : t = ab ∧ ab ≤ k := by
              rcases hA with q | q | q
              · omega
              · exfalso
                rcases q.2.2 with z | z
                · omega
                · rcases hhigh with y | y
                  · omega
                  · have := y.2.2 t t1 t2 htk t3
                    rw [u1, u2, show t + 1 - 1 = t by omega] at z
                    omega
              · exact ⟨by omega, by omega⟩
            have e1 : zhR r ab k x t = x := by unfold zhR; rw [if_pos hc]
            rw [e1, ← u1, ← u2]
            exact hxT
          · have hcR : ¬ (t = ab ∧ ab ≤ k) := fun c => by
              obtain ⟨g1, g2, g3⟩ := habR t c.1 c.2 ht
              have hr64 : r t < 64 := by
                rcases hr with w | w
                · have := w.2 k (by omega) hin.2; omega
                · omega
              obtain ⟨w1, w2, w3, w4⟩ := zT_lt hb1 hr hr64
              have w5 := w4 k (by omega) hin.2 h0
              rcases Nat.lt_or_ge (r t) b with z | z
              · have := k4 (r t) (by omega) z w3
                exact hrk2 (hj (r t) k hr64 hk w3 (by omega))
              · rcases g3 with y | y
                · omega
                · rcases hI.2.2.2 with v | v
                  · omega
                  · have := t4' b (by omega) (by omega) (by omega) v.1; omega
            rw [hReq hcR]
            exact zT_drop e0 en hb1 hr hrk2
    · -- k lies outside
      have hIo : zIv tm a1 b1 := by
        refine ⟨hI1.1, hb1, ?_, ?_⟩
        · rcases hlow with q | q
          · exact Or.inl q
          · exact Or.inr ⟨q.2.1, fun j j1 j2 j3 => q.2.2 j j1 j2 (by omega) j3⟩
        · rcases hhigh with q | q
          · exact Or.inl q
          · exact Or.inr ⟨q.2.1, fun j j1 j2 j3 => q.2.2 j j1 j2 (by omega) j3⟩
      have hTo : zT tm a1 b1 t := Or.inr ⟨t1, t2, t3, fun j j1 j2 j3 => t4' j j1 j2 (by omega) j3⟩
      obtain ⟨hl, hr⟩ := hL.2 a1 b1 t hIo hTo ht
      have hcL : ¬ (t = ab ∧ k < ab) := fun c => by
        obtain ⟨g1, g2, g3⟩ := habL t c.1 c.2 ht
        rcases hlow with y | y
        · omega
        · have y1 := y.2.2 t t1 t2 htk t3
          have y2 := k4 (a1 - 1) (by omega) (by omega) y.2.1
          omega
      have hcR : ¬ (t = ab ∧ ab ≤ k) := fun c => by
        obtain ⟨g1, g2, g3⟩ := habR t c.1 c.2 ht
        rcases hhigh with y | y
        · omega
        · have y1 := y.2.2 t t1 t2 htk t3
          have y2 := k4 b1 (by omega) (by omega) y.2.1
          omega
      rw [hLeq hcL, hReq hcR]
      exact ⟨zT_same (fun j j1 j2 => en j (by omega)) hl, zT_same (fun j j1 j2 => en j (by omega)) hr⟩

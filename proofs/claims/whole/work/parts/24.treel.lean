/-! TREE: links under a put -/
theorem zT_same {tm tm' : Nat → Nat} {a b t : Nat} (e : ∀ j, a ≤ j → j < b → tm' j = tm j) (h : zT tm a b t) : zT tm' a b t := by
  rcases h with h | h
  · exact Or.inl ⟨h.1, fun k k1 k2 => by rw [e k k1 k2]; exact h.2 k k1 k2⟩
  · refine Or.inr ⟨h.1, h.2.1, by rw [e t h.1 h.2.1]; exact h.2.2.1, fun k k1 k2 k3 => ?_⟩
    rw [e k k1 k2] at k3 ⊢
    rw [e t h.1 h.2.1]
    exact h.2.2.2 k k1 k2 k3
def zhL (l : Nat → Nat) (ab k x : Nat) : Nat → Nat := fun j => if j = ab ∧ k < ab then x else l j
def zhR (r : Nat → Nat) (ab k x : Nat) : Nat → Nat := fun j => if j = ab ∧ ab ≤ k then x else r j
theorem zLK_put {tm l r : Nat → Nat} {root k v a b ab : Nat} (hL : zLK tm l r root) (hk : k < 64) (h0 : tm k = 0) (hv : ∀ j, j < 64 → tm j < v) (hI : zIv tm a b) (hA : zAb tm a b ab) (ha : a ≤ k) (hb : k < b) (hN : zT tm a b 64) :
    zLK (fun j => if j = k then v else tm j) (zhL (fun j => if j = k then 64 else l j) ab k k) (zhR (fun j => if j = k then 64 else r j) ab k k) (if ab = 64 then k else root) := by
  have hb64 := hI.2.1
  have hno := zT_no hb64 hN
  have ek : (fun j => if j = k then v else tm j) k = v := if_pos rfl
  have en : ∀ j, j ≠ k → (fun j => if j = k then v else tm j) j = tm j := fun j q => if_neg q
  generalize hg : (fun j => if j = k then v else tm j) = tm' at ek en
  have hv0 : 0 < v := by have := hv k hk; omega
  have habk : ab ≠ k := by
    rcases hA with q | q | q <;> omega
  refine ⟨?_, ?_⟩
  · by_cases q : ab = 64
    · rw [if_pos q]
      have hab : a = 0 ∧ b = 64 := by
        rcases hA with w | w | w
        · exact ⟨w.1, w.2.1⟩
        · omega
        · omega
      refine Or.inr ⟨by omega, hk, by rw [ek]; exact hv0, fun j j1 j2 j3 => ?_⟩
      by_cases e : j = k
      · rw [e]; exact Nat.le_refl _
      · rw [en j e] at j3; have := hno j (by omega) (by omega); omega
    · rw [if_neg q]
      have hroot := hL.1
      have hr64 : root < 64 := by
        rcases hroot with w | w
        · exfalso
          rcases hA with y | y | y
          · omega
          · rcases hI.2.2.2 with z | z
            · omega
            · have := w.2 b (by omega) (by omega); omega
          · rcases hI.2.2.1 with z | z
            · omega
            · have := w.2 (a - 1) (by omega) (by omega); omega
        · omega
      obtain ⟨w1, w2, w3, w4⟩ := zT_lt (Nat.le_refl 64) hroot hr64
      have hrk : root ≠ k := fun e => by rw [e] at w3; omega
      refine Or.inr ⟨w1, w2, by rw [en root hrk]; exact w3, fun j j1 j2 j3 => ?_⟩
      rw [en root hrk]
      by_cases e : j = k
      · rw [e, ek]; have := hv root hr64; omega
      · rw [en j e] at j3 ⊢; exact w4 j j1 j2 j3
  · intro a1 b1 t hI1 hT1 ht
    have hb1 := hI1.2.1
    obtain ⟨t1, t2, t3, t4⟩ := zT_lt hb1 hT1 ht
    by_cases hkt : t = k
    · subst hkt
      have hall : ∀ j, a1 ≤ j → j < b1 → j ≠ t → tm' j = 0 := fun j j1 j2 j3 => by
        rcases Nat.eq_zero_or_pos (tm' j) with q | q
        · exact q
        · have := t4 j j1 j2 q
          rw [ek, en j j3] at this
          have := hv j (by omega); omega
      have e1 : zhL (fun j => if j = t then 64 else l j) ab t t t = 64 := by
        unfold zhL; rw [if_neg (fun q => habk q.1.symm)]; exact if_pos rfl
      have e2 : zhR (fun j => if j = t then 64 else r j) ab t t t = 64 := by
        unfold zhR; rw [if_neg (fun q => habk q.1.symm)]; exact if_pos rfl
      rw [e1, e2]
      exact ⟨Or.inl ⟨rfl, fun j j1 j2 => hall j j1 (by omega) (by omega)⟩, Or.inl ⟨rfl, fun j j1 j2 => hall j (by omega) j2 (by omega)⟩⟩
    · have ett := en t hkt
      rw [ett] at t3
      have t4' : ∀ j, a1 ≤ j → j < b1 → 0 < tm j → tm t ≤ tm j := fun j j1 j2 j3 => by
        have hjk : j ≠ k := fun e => by rw [e] at j3; omega
        have := t4 j j1 j2 (by rw [en j hjk]; exact j3)
        rw [ett, en j hjk] at this
        exact this
      have hTo : zT tm a1 b1 t := Or.inr ⟨t1, t2, t3, t4'⟩
      have hlow : a1 = 0 ∨ (0 < tm (a1 - 1) ∧ ∀ j, a1 ≤ j → j < b1 → 0 < tm j → tm (a1 - 1) < tm j) := by
        rcases hI1.2.2.1 with q | q
        · exact Or.inl q
        · have hne : a1 - 1 ≠ k := fun e => by
            have := q.2 t t1 t2 (by rw [ett]; exact t3)
            rw [e, ek, ett] at this
            have := hv t ht; omega
          rw [en _ hne] at q
          refine Or.inr ⟨q.1, fun j j1 j2 j3 => ?_⟩
          have hjk : j ≠ k := fun e => by rw [e] at j3; omega
          have := q.2 j j1 j2 (by rw [en j hjk]; exact j3)
          rw [en j hjk] at this
          exact this
      have hhigh : b1 = 64 ∨ (0 < tm b1 ∧ ∀ j, a1 ≤ j → j < b1 → 0 < tm j → tm b1 < tm j) := by
        rcases hI1.2.2.2 with q | q
        · exact Or.inl q
        · have hne : b1 ≠ k := fun e => by
            have := q.2 t t1 t2 (by rw [ett]; exact t3)
            rw [e, ek, ett] at this
            have := hv t ht; omega
          rw [en _ hne] at q
          refine Or.inr ⟨q.1, fun j j1 j2 j3 => ?_⟩
          have hjk : j ≠ k := fun e => by rw [e] at j3; omega
          have := q.2 j j1 j2 (by rw [en j hjk]; exact j3)
          rw [en j hjk] at this
          exact this
      have hIo : zIv tm a1 b1 := ⟨hI1.1, hb1, hlow, hhigh⟩
      obtain ⟨hl, hr⟩ := hL.2 a1 b1 t hIo hTo ht
      constructor
      · by_cases c : t = ab ∧ k < ab
        · have e1 : zhL (fun j => if j = k then 64 else l j) ab k k t = k := by unfold zhL; rw [if_pos c]
          rw [e1]
          obtain ⟨c1, c2⟩ := c
          have hbt : b = t ∧ (a = 0 ∨ tm (a - 1) < tm b) := by
            rcases hA with q | q | q
            · omega
            · exact ⟨by omega, q.2.2⟩
            · omega
          have g1 : a ≤ a1 := by
            rcases Nat.lt_or_ge a1 a with q | q
            · have h5 : 0 < tm (a - 1) := by
                rcases hI.2.2.1 with z | z
                · omega
                · exact z.1
              have h6 := t4' (a - 1) (by omega) (by omega) h5
              rcases hbt.2 with z | z
              · omega
              · rw [hbt.1] at z; omega
            · exact q
          have g2 : a1 ≤ k := by
            rcases Nat.lt_or_ge k a1 with q | q
            · rcases hlow with z | z
              · omega
              · have := hno (a1 - 1) (by omega) (by omega); omega
            · exact q
          refine Or.inr ⟨g2, by omega, by rw [ek]; exact hv0, fun j j1 j2 j3 => ?_⟩
          by_cases e : j = k
          · rw [e]; exact Nat.le_refl _
          · rw [en j e] at j3; have := hno j (by omega) (by omega); omega
        · have e1 : zhL (fun j => if j = k then 64 else l j) ab k k t = l t := by unfold zhL; rw [if_neg c]; exact if_neg hkt
          rw [e1]
          by_cases d : a1 ≤ k ∧ k < t
          · by_cases e2 : l t = 64
            · exfalso
              rw [e2] at hl
              have hn2 := zT_no (by omega) hl
              have hbt : b = t := by
                rcases Nat.lt_trichotomy b t with q | q | q
                · rcases hI.2.2.2 with z | z
                  · omega
                  · have := hn2 b (by omega) q; omega
                · exact q
                · have := hno t (by omega) q; omega
              rcases hA with q | q | q
              · omega
              · exact c ⟨by omega, by omega⟩
              · rcases q.2.2 with z | z
                · omega
                · have p1 : 0 < tm (a - 1) := by
                    rcases hI.2.2.1 with y | y
                    · omega
                    · exact y.1
                  have p2 : a ≤ a1 := by
                    rcases Nat.lt_or_ge a1 a with y | y
                    · have := hn2 (a - 1) (by omega) (by omega); omega
                    · exact y
                  rcases hlow with y | y
                  · omega
                  · have p3 : a = a1 := by
                      rcases Nat.lt_or_ge a a1 with x | x
                      · have := hno (a1 - 1) (by omega) (by omega); omega
                      · omega
                    have := y.2 t t1 t2 t3
                    rw [← p3] at this
                    rw [hbt] at z
                    omega
            · have hlt : l t < 64 := by have := zT_le (by omega) hl; omega
              obtain ⟨w1, w2, w3, w4⟩ := zT_lt (by omega) hl hlt
              have hlk : l t ≠ k := fun e => by rw [e] at w3; omega
              refine Or.inr ⟨w1, w2, by rw [en _ hlk]; exact w3, fun j j1 j2 j3 => ?_⟩
              rw [en _ hlk]
              by_cases e : j = k
              · rw [e, ek]; have := hv (l t) hlt; omega
              · rw [en j e] at j3 ⊢; exact w4 j j1 j2 j3
          · exact zT_same (fun j j1 j2 => en j (fun e => d (by omega))) hl
      · by_cases c : t = ab ∧ ab ≤ k
        · have e1 : zhR (fun j => if j = k then 64 else r j) ab k k t = k := by unfold zhR; rw [if_pos c]
          rw [e1]
          obtain ⟨c1, c2⟩ := c
          have hat : a = t + 1 ∧ (b = 64 ∨ tm b < tm (a - 1)) := by
            rcases hA with q | q | q
            · omega
            · omega
            · exact ⟨by omega, q.2.2⟩
          have g1 : b1 ≤ b := by
            rcases Nat.lt_or_ge b b1 with q | q
            · have h5 : 0 < tm b := by
                rcases hI.2.2.2 with z | z
                · omega
                · exact z.1
              have h6 := t4' b (by omega) q h5
              rcases hat.2 with z | z
              · omega
              · rw [hat.1, show t + 1 - 1 = t by omega] at z; omega
            · exact q
          have g2 : k < b1 := by
            rcases Nat.lt_or_ge k b1 with q | q
            · exact q
            · rcases hhigh with z | z
              · omega
              · have := hno b1 (by omega) (by omega); omega
          refine Or.inr ⟨by omega, g2, by rw [ek]; exact hv0, fun j j1 j2 j3 => ?_⟩
          by_cases e : j = k
          · rw [e]; exact Nat.le_refl _
          · rw [en j e] at j3; have := hno j (by omega) (by omega); omega
        · have e1 : zhR (fun j => if j = k then 64 else r j) ab k k t = r t := by unfold zhR; rw [if_neg c]; exact if_neg hkt
          rw [e1]
          by_cases d : t + 1 ≤ k ∧ k < b1
          · by_cases e2 : r t = 64
            · exfalso
              rw [e2] at hr
              have hn2 := zT_no hb1 hr
              have hat : a = t + 1 := by
                rcases Nat.lt_trichotomy a (t + 1) with q | q | q
                · have := hno t (by omega) (by omega); omega
                · exact q
                · rcases hI.2.2.1 with z | z
                  · omega
                  · have := hn2 (a - 1) (by omega) (by omega); omega
              rcases hA with q | q | q
              · omega
              · rcases q.2.2 with z | z
                · omega
                · have p1 : 0 < tm b := by
                    rcases hI.2.2.2 with y | y
                    · omega
                    · exact y.1
                  have p2 : b1 ≤ b := by
                    rcases Nat.lt_or_ge b b1 with y | y
                    · have := hn2 b (by omega) y; omega
                    · exact y
                  rcases hhigh with y | y
                  · omega
                  · have p3 : b = b1 := by
                      rcases Nat.lt_or_ge b1 b with x | x
                      · have := hno b1 (by omega) x; omega
                      · omega
                    have := y.2 t t1 t2 t3
                    rw [← p3] at this
                    rw [hat, show t + 1 - 1 = t by omega] at z
                    omega
              · exact c ⟨by omega, by omega⟩
            · have hlt : r t < 64 := by have := zT_le hb1 hr; omega
              obtain ⟨w1, w2, w3, w4⟩ := zT_lt hb1 hr hlt
              have hlk : r t ≠ k := fun e => by rw [e] at w3; omega
              refine Or.inr ⟨w1, w2, by rw [en _ hlk]; exact w3, fun j j1 j2 j3 => ?_⟩
              rw [en _ hlk]
              by_cases e : j = k
              · rw [e, ek]; have := hv (r t) hlt; omega
              · rw [en j e] at j3 ⊢; exact w4 j j1 j2 j3
          · exact zT_same (fun j j1 j2 => en j (fun e => d (by omega))) hr

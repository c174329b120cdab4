/-! HASH: the reference's things and stamps beside the class's line -/
def zct (b : Nat → Bool) : Nat → Nat
  | 0 => 0
  | n + 1 => zct b n + (if b n = true then 1 else 0)
theorem zct_congr {a b : Nat → Bool} : ∀ n, (∀ j, j < n → a j = b j) → zct a n = zct b n := by
  intro n
  induction n with
  | zero => intro _; rfl
  | succ n ih =>
    intro e
    rw [show zct a (n + 1) = zct a n + (if a n = true then 1 else 0) from rfl, show zct b (n + 1) = zct b n + (if b n = true then 1 else 0) from rfl, ih (fun j hj => e j (by omega)), e n (by omega)]
theorem zct_rm {b : Nat → Bool} {t : Nat} (hb : b t = true) : ∀ n, t < n → zct (fun j => b j && !decide (j = t)) n + 1 = zct b n := by
  intro n
  induction n with
  | zero => intro h; omega
  | succ n ih =>
    intro h
    rw [show zct b (n + 1) = zct b n + (if b n = true then 1 else 0) from rfl, show zct (fun j => b j && !decide (j = t)) (n + 1) = zct (fun j => b j && !decide (j = t)) n + (if (b n && !decide (n = t)) = true then 1 else 0) from rfl]
    by_cases e : n = t
    · subst e
      have h1 : zct (fun j => b j && !decide (j = n)) n = zct b n := zct_congr n (fun j hj => by
        have : ¬ j = n := by omega
        simp [this])
      rw [h1, hb]
      simp
    · have h2 := ih (by omega)
      simp only [e, decide_false, Bool.not_false, Bool.and_true]
      omega
theorem zct_0 : ∀ n, zct (fun _ => false) n = 0 := by
  intro n
  induction n with
  | zero => rfl
  | succ n ih => rw [show zct (fun _ => false) (n + 1) = zct (fun _ => false) n + 0 from rfl, ih]
/-- counted one by one -/
theorem zct_enum {n : Nat} : ∀ m (b : Nat → Bool) (s : Nat → Nat), (∀ j, j < m → s j < n ∧ b (s j) = true) → (∀ i j, i < j → j < m → s i ≠ s j) → (∀ t, t < n → b t = true → ∃ j, j < m ∧ s j = t) → zct b n = m := by
  intro m
  induction m with
  | zero =>
    intro b s h1 h2 h3
    rw [zct_congr (b := fun _ => false) n (fun j hj => by
      cases hb : b j with
      | false => rfl
      | true => obtain ⟨i, hi, _⟩ := h3 j hj hb; omega)]
    exact zct_0 n
  | succ m ih =>
    intro b s h1 h2 h3
    obtain ⟨a1, a2⟩ := h1 m (by omega)
    rw [← zct_rm a2 n a1]
    have := ih (fun j => b j && !decide (j = s m)) s (fun j hj => ⟨(h1 j (by omega)).1, by
      have e := h2 j m hj (by omega)
      simp [(h1 j (by omega)).2, e]⟩) (fun i j hi hj => h2 i j hi (by omega)) (fun t ht hb => by
      have hb1 : b t = true ∧ ¬ t = s m := by simpa using hb
      obtain ⟨j, hj, e⟩ := h3 t ht hb1.1
      refine ⟨j, ?_, e⟩
      rcases Nat.lt_or_ge j m with q | q
      · exact q
      · exact absurd (by rw [← e, show j = m by omega]) hb1.2)
    rw [this]
/-- the line g of n, laid by the things of Dm: s j is the thing at place j -/
def zHQ (hk hs : Nat → Nat) (Dm : Nat → Prop) (n B : Nat) (g s : Nat → Nat) : Prop := (∀ j, j < n → Dm (s j) ∧ hk (s j) = g j) ∧ (∀ t, Dm t → ∃ j, j < n ∧ s j = t) ∧ ∀ i j, i < j → j < n → g i % B = g j % B → hs (s j) < hs (s i)
theorem zHQ_inj {hk hs : Nat → Nat} {Dm : Nat → Prop} {n B : Nat} {g s : Nat → Nat} (h : zHQ hk hs Dm n B g s) : ∀ i j, i < j → j < n → s i ≠ s j := fun i j hi hj e => by
  have h1 := (h.1 i (by omega)).2
  have h2 := (h.1 j hj).2
  have h3 := h.2.2 i j hi hj (by rw [← h1, ← h2, e])
  rw [e] at h3
  omega
theorem zHQ_ins {hk hs : Nat → Nat} {Dm : Nat → Prop} {n B t k : Nat} {g s : Nat → Nat} (h : zHQ hk hs Dm n B g s) (hc : zchn g B n) (hkt : hk t = k) (hm : ∀ u, Dm u → hs u < hs t) : zHQ hk hs (fun u => Dm u ∨ u = t) (n + 1) B (zins g (zHd g B n (k % B)) k) (zins s (zHd g B n (k % B)) t) := by
  have hp := zHd_le g B n (k % B)
  have hq := zHd_ch (c := k % B) hc
  generalize zHd g B n (k % B) = p at hp hq
  refine ⟨fun j hj => ?_, fun u hu => ?_, fun i j hij hj => ?_⟩
  · unfold zins
    by_cases a : j < p
    · rw [if_pos a, if_pos a]; exact ⟨Or.inl (h.1 j (by omega)).1, (h.1 j (by omega)).2⟩
    · rw [if_neg a, if_neg a]
      by_cases b : j = p
      · rw [if_pos b, if_pos b]; exact ⟨Or.inr rfl, hkt⟩
      · rw [if_neg b, if_neg b]; exact ⟨Or.inl (h.1 (j - 1) (by omega)).1, (h.1 (j - 1) (by omega)).2⟩
  · rcases hu with hu | rfl
    · obtain ⟨j, hj, e⟩ := h.2.1 u hu
      by_cases a : j < p
      · exact ⟨j, by omega, by unfold zins; rw [if_pos a]; exact e⟩
      · exact ⟨j + 1, by omega, by unfold zins; rw [if_neg (by omega), if_neg (by omega)]; exact e⟩
    · exact ⟨p, by omega, by unfold zins; rw [if_neg (by omega), if_pos rfl]⟩
  · unfold zins
    by_cases a : i < p
    · rw [if_pos a, if_pos a]
      by_cases b : j < p
      · rw [if_pos b, if_pos b]; exact h.2.2 i j hij (by omega)
      · rw [if_neg b, if_neg b]
        by_cases c : j = p
        · rw [if_pos c, if_pos c]; intro e; have := hq.1 i a; omega
        · rw [if_neg c, if_neg c]; exact h.2.2 i (j - 1) (by omega) (by omega)
    · rw [if_neg a, if_neg a, if_neg (show ¬ j < p by omega), if_neg (show ¬ j < p by omega)]
      by_cases b : i = p
      · rw [if_pos b, if_pos b, if_neg (show ¬ j = p by omega), if_neg (show ¬ j = p by omega)]
        intro _
        exact hm _ (h.1 (j - 1) (by omega)).1
      · rw [if_neg b, if_neg b, if_neg (show ¬ j = p by omega), if_neg (show ¬ j = p by omega)]
        exact h.2.2 (i - 1) (j - 1) (by omega) (by omega)
theorem zHQ_congr {hk hs hk' hs' : Nat → Nat} {Dm Dm' : Nat → Prop} {n B : Nat} {g s : Nat → Nat} (h : zHQ hk hs Dm n B g s) (e1 : ∀ t, Dm t → hk' t = hk t) (e2 : ∀ t, Dm t → hs' t = hs t) (e3 : ∀ t, Dm' t ↔ Dm t) : zHQ hk' hs' Dm' n B g s := by
  refine ⟨fun j hj => ⟨(e3 _).mpr (h.1 j hj).1, by rw [e1 _ (h.1 j hj).1]; exact (h.1 j hj).2⟩, fun t ht => h.2.1 t ((e3 t).mp ht), fun i j hij hj e => ?_⟩
  rw [e2 _ (h.1 i (by omega)).1, e2 _ (h.1 j hj).1]
  exact h.2.2 i j hij hj e
/-- laid anew: the things in the old order, each with a greater stamp -/
def zss (g s : Nat → Nat) (B : Nat) : Nat → Nat → Nat
  | 0 => fun _ => 0
  | i + 1 => zins (zss g s B i) (zHd (zsp g B i) B i (g i % B)) (s i)
theorem zHQ_sp {hk hs' : Nat → Nat} {n B : Nat} {g s : Nat → Nat} (h1 : ∀ j, j < n → hk (s j) = g j) (h2 : ∀ i j, i < j → j < n → hs' (s i) < hs' (s j)) : ∀ i, i ≤ n → zHQ hk hs' (fun t => ∃ j, j < i ∧ s j = t) i B (zsp g B i) (zss g s B i) := by
  intro i
  induction i with
  | zero => intro _; exact ⟨fun j hj => absurd hj (by omega), fun t ⟨j, hj, _⟩ => absurd hj (by omega), fun i j _ hj => absurd hj (by omega)⟩
  | succ i ih =>
    intro hi
    refine zHQ_congr (Dm := fun u => (∃ j, j < i ∧ s j = u) ∨ u = s i) (zHQ_ins (t := s i) (k := g i) (ih (by omega)) (zchn_sp i) (h1 i (by omega)) (fun u ⟨j, hj, e⟩ => by rw [← e]; exact h2 j i hj (by omega))) (fun _ _ => rfl) (fun _ _ => rfl) (fun t => ⟨fun ⟨j, hj, e⟩ => ?_, fun q => ?_⟩)
    · by_cases c : j = i
      · exact Or.inr (by rw [← e, c])
      · exact Or.inl ⟨j, by omega, e⟩
    · rcases q with ⟨j, hj, e⟩ | e
      · exact ⟨j, by omega, e⟩
      · exact ⟨i, by omega, e.symm⟩
/-- things of all places below n -/
def zHR (hk hs : Nat → Nat) (n B : Nat) (g s : Nat → Nat) : Prop := zHQ hk hs (fun t => t < n) n B g s
/-- one goes: the place q of the line, its thing -/
def zsd (s : Nat → Nat) (q : Nat) : Nat → Nat := fun j => if zdel s q j < s q then zdel s q j else zdel s q j - 1
theorem zHR_del {hk hs : Nat → Nat} {n B q : Nat} {g s : Nat → Nat} (h : zHR hk hs n B g s) (hq : q < n) : zHR (zdel hk (s q)) (zdel hs (s q)) (n - 1) B (zdel g q) (zsd s q) := by
  have hinj := zHQ_inj h
  have hne : ∀ j, j < n - 1 → zdel s q j ≠ s q := fun j hj => by
    unfold zdel
    by_cases a : j < q
    · rw [if_pos a]; exact hinj j q a hq
    · rw [if_neg a]; exact fun e => hinj q (j + 1) (by omega) (by omega) e.symm
  have hlt : ∀ j, j < n - 1 → zdel s q j < n := fun j hj => by
    unfold zdel
    by_cases a : j < q
    · rw [if_pos a]; exact (h.1 j (by omega)).1
    · rw [if_neg a]; exact (h.1 (j + 1) (by omega)).1
  have hsq : s q < n := (h.1 q hq).1
  have hval : ∀ (f : Nat → Nat) j, j < n - 1 → zdel f (s q) (zsd s q j) = f (zdel s q j) := fun f j hj => by
    have a1 := hne j hj
    unfold zsd
    by_cases a : zdel s q j < s q
    · rw [if_pos a]; generalize zdel s q j = v at a; unfold zdel; rw [if_pos a]
    · rw [if_neg a]; generalize zdel s q j = v at a a1; unfold zdel; rw [if_neg (by omega)]; congr 1; omega
  refine ⟨fun j hj => ⟨?_, ?_⟩, fun t ht => ?_, fun i j hij hj e => ?_⟩
  · have a1 := hne j hj
    have a2 := hlt j hj
    unfold zsd
    by_cases a : zdel s q j < s q
    · rw [if_pos a]; omega
    · rw [if_neg a]; omega
  · rw [hval hk j hj]
    unfold zdel
    by_cases a : j < q
    · rw [if_pos a, if_pos a]; exact (h.1 j (by omega)).2
    · rw [if_neg a, if_neg a]; exact (h.1 (j + 1) (by omega)).2
  · have ht' : t < n - 1 := ht
    obtain ⟨j, hj, e⟩ := h.2.1 (if t < s q then t else t + 1) (show (if t < s q then t else t + 1) < n by
      by_cases a : t < s q
      · rw [if_pos a]; omega
      · rw [if_neg a]; omega)
    have hjq : j ≠ q := fun c => by
      rw [c] at e
      by_cases a : t < s q
      · rw [if_pos a] at e; omega
      · rw [if_neg a] at e; omega
    refine ⟨if j < q then j else j - 1, ?_, ?_⟩
    · by_cases a : j < q
      · rw [if_pos a]; omega
      · rw [if_neg a]; omega
    · have hd : zdel s q (if j < q then j else j - 1) = s j := by
        by_cases a : j < q
        · rw [if_pos a]; unfold zdel; rw [if_pos a]
        · rw [if_neg a]; unfold zdel; rw [if_neg (by omega)]; congr 1; omega
      unfold zsd
      rw [hd, e]
      by_cases a : t < s q
      · rw [if_pos a, if_pos a]
      · rw [if_neg a, if_neg (by omega)]; omega
  · rw [hval hs i (by omega), hval hs j hj]
    unfold zdel at e ⊢
    by_cases a : i < q
    · rw [if_pos a] at e ⊢
      by_cases b : j < q
      · rw [if_pos b] at e ⊢; exact h.2.2 i j hij (by omega) e
      · rw [if_neg b] at e ⊢; exact h.2.2 i (j + 1) (by omega) (by omega) e
    · rw [if_neg a, if_neg (show ¬ j < q by omega)] at e ⊢
      exact h.2.2 (i + 1) (j + 1) (by omega) (by omega) e
/-- a chain's length -/
theorem zHR_len {hk hs : Nat → Nat} {n B c : Nat} {g s : Nat → Nat} (h : zHR hk hs n B g s) (hc : zchn g B n) : zct (fun t => decide (hk t % B = c)) n = zEn g B n c - zHd g B n c := by
  have h1 := zEn_le g B n c
  have h2 := zEn_ch (c := c) hc
  have h3 := zHd_ch (c := c) hc
  refine zct_enum _ _ (fun j => s (zHd g B n c + j)) (fun j hj => ?_) (fun i j hi hj => zHQ_inj h _ _ (by omega) (by omega)) (fun t ht hb => ?_)
  · have a := h.1 (zHd g B n c + j) (by omega)
    refine ⟨a.1, ?_⟩
    rw [a.2, h2.1 _ (by omega) (by omega)]
    exact decide_eq_true rfl
  · have hb' : hk t % B = c := of_decide_eq_true hb
    obtain ⟨j, hj, e⟩ := h.2.1 t ht
    have a := (h.1 j hj).2
    rw [e] at a
    rw [a] at hb'
    have l1 : ¬ j < zHd g B n c := fun q => by have := h3.1 j q; omega
    have l2 : ¬ zEn g B n c ≤ j := fun q => by have := h2.2 j q hj; omega
    exact ⟨j - zHd g B n c, by omega, by rw [← e]; congr 1; omega⟩
/-- how many of its chain stand ahead of the thing at place p -/
theorem zHR_ahead {hk hs : Nat → Nat} {n B p : Nat} {g s : Nat → Nat} (h : zHR hk hs n B g s) (hc : zchn g B n) (hp : p < n) : zct (fun t => decide (hk t % B = g p % B) && decide (hs (s p) < hs t)) n = p - zHd g B n (g p % B) := by
  have h1 := zEn_le g B n (g p % B)
  have h2 := zEn_ch (c := g p % B) hc
  have h3 := zHd_ch (c := g p % B) hc
  have hpa : ¬ p < zHd g B n (g p % B) := fun q => by have := h3.1 p q; omega
  have hpb : ¬ zEn g B n (g p % B) ≤ p := fun q => by have := h2.2 p q hp; omega
  refine zct_enum _ _ (fun j => s (zHd g B n (g p % B) + j)) (fun j hj => ?_) (fun i j hi hj => zHQ_inj h _ _ (by omega) (by omega)) (fun t ht hb => ?_)
  · have a := h.1 (zHd g B n (g p % B) + j) (by omega)
    have b := h2.1 (zHd g B n (g p % B) + j) (by omega) (by omega)
    refine ⟨a.1, ?_⟩
    have e1 : hk (s (zHd g B n (g p % B) + j)) % B = g p % B := by rw [a.2]; exact b
    have e2 := h.2.2 (zHd g B n (g p % B) + j) p (by omega) hp b
    simp [e1, e2]
  · have hb' : hk t % B = g p % B ∧ hs (s p) < hs t := by simpa using hb
    obtain ⟨j, hj, e⟩ := h.2.1 t ht
    have a := (h.1 j hj).2
    rw [e] at a
    have b1 : g j % B = g p % B := by rw [← a]; exact hb'.1
    have l1 : ¬ j < zHd g B n (g p % B) := fun q => by have := h3.1 j q; omega
    have l2 : ¬ p ≤ j := fun q => by
      rcases Nat.lt_or_ge p j with q2 | q2
      · have := h.2.2 p j q2 hj b1.symm; rw [e] at this; omega
      · have : p = j := by omega
        rw [this, e] at hb'; omega
    exact ⟨j - zHd g B n (g p % B), by omega, by rw [← e]; congr 1; omega⟩

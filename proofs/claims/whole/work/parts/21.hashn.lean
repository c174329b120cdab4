/-! HASH: the reference's rehash and call -/
theorem zHd_B {g : Nat → Nat} {B n : Nat} (hB : 0 < B) : zHd g B n B = n := by
  have h1 := zHd_le g B n B
  rcases Nat.lt_or_ge (zHd g B n B) n with q | q
  · have h2 := zhd_at (fun j => g j % B) B n 0 (by unfold zHd at q; omega)
    have h3 : g (zhd (fun j => g j % B) B n 0) % B < B := Nat.mod_lt _ hB
    omega
  · omega
theorem zHd_0 {g : Nat → Nat} {B n : Nat} : zHd g B n 0 = 0 := by
  unfold zHd
  cases n with
  | zero => rfl
  | succ n => unfold zhd; rw [if_pos (Nat.zero_le _)]
theorem zHM_fr {S S' : zSt} {n B st : Nat} {hk hs : Nat → Nat} (h : zHM S n B st hk hs) (f : zfr S S' [] [29]) : zHM S' n B st hk hs := by
  obtain ⟨a, b, c, d, e, r⟩ := h
  refine ⟨(f.1 18 (by decide)).trans a, (f.1 21 (by decide)).trans b, (f.1 22 (by decide)).trans c, ?_, ?_, r⟩
  · rw [f.2 19 (by decide)]; exact d
  · rw [f.2 20 (by decide)]; exact e
theorem pM_rehash_21 {n B st c : Nat} {hk hs g s : Nat → Nat} (K : Int32 → Int32 → zSt → Option zSt) (hR : zHR hk hs n B g s) (hc : zchn g B n) (hcB : c < B) : ∀ r i m S, r < m → zHM S n B st hk hs → i + r = zEn g B n c - zHd g B n c → zRp (S.2 29) (zHd g B n c + i) s → ∃ S', fM_X11_rehash_21 K m (nI (zHd g B n c + i)) (nI c) (nI (zEn g B n c - zHd g B n c)) (nI i) S = K (nI (zEn g B n c)) (nI (c + 1)) S' ∧ zRp (S'.2 29) (zEn g B n c) s ∧ zfr S S' [] [29] := by
  have h1 := zEn_le g B n c
  have h2 := zEn_ch (c := c) hc
  intro r
  induction r with
  | zero =>
    intro i m S hm h hi hr
    have hn := h.2.2.2.2.2.2.1
    obtain ⟨m, rfl⟩ : ∃ m', m = m' + 1 := ⟨m - 1, by omega⟩
    have hb := zPw_b h.2.2.2.2.2.1
    have e : zHd g B n c + i = zEn g B n c := by omega
    refine ⟨S, ?_, by rw [← e]; exact hr, zfr_rf⟩
    rw [e]
    simp (disch := omega) only [fM_X11_rehash_21, ↓zN_eq, zL0, zL1, zL2, zL3, zL4, zL5, zL6, zL7, zL8, zL10, zL16, zL31, zL42, zL63, zL64, zL100, zL200, zL255, zL256, zL1000, zL12345, zL536870912, zI_le, zI_lt, zI_eq, zI_add, zI_sub, zI_mul, zI_neN, zI_Nne, zI_leN, zI_ltN, zI_Nle, zI_Nlt, zI_pred, zI_clamp, zI_div, zI_rem, zin_t, zgd_t, znz_t, if_pos, if_neg, if_true, if_false, Option.bind_some]
  | succ r ih =>
    intro i m S hm h hi hr
    have hn := h.2.2.2.2.2.2.1
    have hz := h.1
    have hb := zPw_b h.2.2.2.2.2.1
    obtain ⟨m, rfl⟩ : ∃ m', m = m' + 1 := ⟨m - 1, by omega⟩
    have hP : zHd g B n c + i < n := by omega
    have hch := h2.1 (zHd g B n c + i) (by omega) (by omega)
    have ht := pM_thingAt h hR hc hP
    rw [hch, show zHd g B n c + i - zHd g B n c = i by omega] at ht
    have hr2 : zRp ((zsR S 29 (zHd g B n c + i) (nI (s (zHd g B n c + i)))).2 29) (zHd g B n c + (i + 1)) s := by
      intro j hj
      show upd (S.2 29) _ _ j = _
      by_cases q : j = zHd g B n c + i
      · rw [q, pk_us]
      · rw [pk_un q]; exact hr j (by omega)
    obtain ⟨S', e1, a1, b1⟩ := ih (i + 1) m (zsR S 29 (zHd g B n c + i) (nI (s (zHd g B n c + i)))) (by omega) (zHM_fr h (zfr_sR (by decide))) (by omega) hr2
    refine ⟨S', ?_, a1, zfr_tr (zfr_sR (by decide)) b1⟩
    rw [← e1]
    simp (disch := omega) only [fM_X11_rehash_21, hz, ht, ↓zN_eq, zL0, zL1, zL2, zL3, zL4, zL5, zL6, zL7, zL8, zL10, zL16, zL31, zL42, zL63, zL64, zL100, zL200, zL255, zL256, zL1000, zL12345, zL536870912, zI_le, zI_lt, zI_eq, zI_add, zI_sub, zI_mul, zI_neN, zI_Nne, zI_leN, zI_ltN, zI_Nle, zI_Nlt, zI_pred, zI_clamp, zI_div, zI_rem, zin_t, zgd_t, znz_t, if_pos, if_neg, if_true, if_false, Option.bind_some]
    rw [show zHd g B n c + i + 1 = zHd g B n c + (i + 1) by omega]
theorem pM_rehash_71 {n : Nat} {s : Nat → Nat} (hn : n ≤ 200) (hs1 : ∀ j, j < n → s j < n) : ∀ r i m S st, r < m → i + r = n → S.1 22 = nI st → zRp (S.2 29) n s → ∃ S', fM_X11_rehash_71 m (nI n) (nI i) S = some S' ∧ S'.1 22 = nI (st + r) ∧ (∀ (hs : Nat → Nat), zRp (S.2 20) n hs → ∃ hs', zRp (S'.2 20) n hs' ∧ (∀ a b, i ≤ a → a < b → b < n → (∀ u v, u < v → v < n → s u ≠ s v) → hs' (s a) < hs' (s b)) ∧ (∀ a, i ≤ a → a < n → (∀ u v, u < v → v < n → s u ≠ s v) → st < hs' (s a) ∧ hs' (s a) ≤ st + r) ∧ ∀ t, t < n → (∀ a, i ≤ a → a < n → s a ≠ t) → hs' t = hs t) ∧ zfr S S' [22] [20] := by
  intro r
  induction r with
  | zero =>
    intro i m S st hm hi hst hr
    obtain ⟨m, rfl⟩ : ∃ m', m = m' + 1 := ⟨m - 1, by omega⟩
    refine ⟨S, ?_, hst, fun hs h => ⟨hs, h, fun a b h1 h2 h3 => absurd h3 (by omega), fun a h1 h2 => absurd h2 (by omega), fun _ _ _ => rfl⟩, zfr_rf⟩
    simp (disch := omega) only [fM_X11_rehash_71, ↓zN_eq, zL0, zL1, zL2, zL3, zL4, zL5, zL6, zL7, zL8, zL10, zL16, zL31, zL42, zL63, zL64, zL100, zL200, zL255, zL256, zL1000, zL12345, zL536870912, zI_le, zI_lt, zI_eq, zI_add, zI_sub, zI_mul, zI_neN, zI_Nne, zI_leN, zI_ltN, zI_Nle, zI_Nlt, zI_pred, zI_clamp, zI_div, zI_rem, zin_t, zgd_t, znz_t, if_pos, if_neg, if_true, if_false, Option.bind_some]
  | succ r ih =>
    intro i m S st hm hi hst hr
    obtain ⟨m, rfl⟩ : ∃ m', m = m' + 1 := ⟨m - 1, by omega⟩
    have hsi := hs1 i (by omega)
    have hr' : ∀ j, j < n → S.2 29 j = nI (s j) := hr
    obtain ⟨S', e1, a1, b1, c1⟩ := ih (i + 1) m (zsR (zsI S 22 (nI (st + 1))) 20 (s i) (nI (st + 1))) (st + 1) (by omega) (by omega) rfl hr
    refine ⟨S', ?_, by rw [a1]; congr 1; omega, fun hs h => ?_, zfr_tr (zfr_tr (S' := zsI S 22 (nI (st + 1))) (zfr_sI (by decide)) (zfr_sR (by decide))) c1⟩
    · rw [← e1]
      simp (disch := omega) only [fM_X11_rehash_71, hst, hr', ↓zN_eq, zL0, zL1, zL2, zL3, zL4, zL5, zL6, zL7, zL8, zL10, zL16, zL31, zL42, zL63, zL64, zL100, zL200, zL255, zL256, zL1000, zL12345, zL536870912, zI_le, zI_lt, zI_eq, zI_add, zI_sub, zI_mul, zI_neN, zI_Nne, zI_leN, zI_ltN, zI_Nle, zI_Nlt, zI_pred, zI_clamp, zI_div, zI_rem, zin_t, zgd_t, znz_t, if_pos, if_neg, if_true, if_false, Option.bind_some]
    · obtain ⟨hs', d1, d2, d3, d4⟩ := b1 (fun k => if k = s i then st + 1 else hs k) (zRp_up h)
      refine ⟨hs', d1, fun a b h1 h2 h3 hinj => ?_, fun a h1 h2 hinj => ?_, fun t ht hne => ?_⟩
      · by_cases q : a = i
        · have e2 : hs' (s a) = st + 1 := by
            rw [d4 (s a) (hs1 a (by omega)) (fun u hu hu2 => by rw [q]; exact fun w => hinj i u (by omega) hu2 w.symm), q]
            exact if_pos rfl
          have := (d3 b (by omega) h3 hinj).1
          omega
        · exact d2 a b (by omega) h2 h3 hinj
      · by_cases q : a = i
        · have e2 : hs' (s a) = st + 1 := by
            rw [d4 (s a) (hs1 a (by omega)) (fun u hu hu2 => by rw [q]; exact fun w => hinj i u (by omega) hu2 w.symm), q]
            exact if_pos rfl
          omega
        · have := d3 a (by omega) h2 hinj; omega
      · rw [d4 t ht (fun a h1 h2 => hne a (by omega) h2)]
        exact if_neg (fun w => hne i (Nat.le_refl i) (by omega) w.symm)
theorem pM_rehash_4 {n B st : Nat} {hk hs g s : Nat → Nat} (hR : zHR hk hs n B g s) (hc : zchn g B n) (hs2 : st + 300 < 100000) : ∀ r c m S, r < m → zHM S n B st hk hs → c + r = B → zRp (S.2 29) (zHd g B n c) s → ∃ S' hs', fM_X11_rehash_4 m (nI (zHd g B n c)) (nI c) S = some S' ∧ S'.1 21 = nI (B * 2) ∧ S'.1 22 = nI (st + n) ∧ zRp (S'.2 20) n hs' ∧ (∀ a b, a < b → b < n → hs' (s a) < hs' (s b)) ∧ (∀ t, t < n → hs' t ≤ st + n) ∧ zfr S S' [21, 22] [20, 29] := by
  have hs1 : ∀ j, j < n → s j < n := fun j hj => (hR.1 j hj).1
  intro r
  induction r with
  | zero =>
    intro c m S hm h hi hr
    have hn := h.2.2.2.2.2.2.1
    have hb := zPw_b h.2.2.2.2.2.1
    obtain ⟨m, rfl⟩ : ∃ m', m = m' + 1 := ⟨m - 1, by omega⟩
    have e : c = B := by omega
    subst e
    rw [zHd_B (by omega)] at hr ⊢
    obtain ⟨S', e1, a1, b1, c1⟩ := pM_rehash_71 hn hs1 n 0 1000 (zsI S 21 (nI (c * 2))) st (by omega) (by omega) h.2.2.1 hr
    obtain ⟨hs', d1, d2, d3, d4⟩ := b1 hs h.2.2.2.2.1
    have hinj := zHQ_inj hR
    refine ⟨S', hs', ?_, (c1.1 21 (by decide)).trans rfl, a1, d1, fun a b h1 h2 => d2 a b (by omega) h1 h2 hinj, fun t ht => ?_, zfr_tr (S' := zsI S 21 (nI (c * 2))) (zfr_sI (by decide)) (zfr_mono c1 (by decide) (by decide))⟩
    · rw [← e1]
      have hB := h.2.1
      simp (disch := omega) only [fM_X11_rehash_4, hB, ↓zN_eq, zL0, zL1, zL2, zL3, zL4, zL5, zL6, zL7, zL8, zL10, zL16, zL31, zL42, zL63, zL64, zL100, zL200, zL255, zL256, zL1000, zL12345, zL536870912, zI_le, zI_lt, zI_eq, zI_add, zI_sub, zI_mul, zI_neN, zI_Nne, zI_leN, zI_ltN, zI_Nle, zI_Nlt, zI_pred, zI_clamp, zI_div, zI_rem, zin_t, zgd_t, znz_t, if_pos, if_neg, if_true, if_false, Option.bind_some]
    · obtain ⟨j, hj, e⟩ := hR.2.1 t ht
      have := (d3 j (by omega) hj hinj).2
      rw [e] at this
      exact this
  | succ r ih =>
    intro c m S hm h hi hr
    have hn := h.2.2.2.2.2.2.1
    have hB := h.2.1
    have hb := zPw_b h.2.2.2.2.2.1
    obtain ⟨m, rfl⟩ : ∃ m', m = m' + 1 := ⟨m - 1, by omega⟩
    have hlen := pM_length h (show c < 1000 by omega)
    rw [zHR_len hR hc] at hlen
    have hle := zEn_le g B n c
    obtain ⟨S1, e1, a1, b1⟩ := pM_rehash_21 (st := st) (fM_X11_rehash_4 m) hR hc (show c < B by omega) (zEn g B n c - zHd g B n c) 0 1000 S (by omega) h (by omega) hr
    rw [Nat.add_zero] at e1
    rw [zEn_Hd hc] at e1 a1
    obtain ⟨S2, hs', e2, a2, b2, c2, d2, f2, g2⟩ := ih (c + 1) m S1 (by omega) (zHM_fr h b1) (by omega) a1
    refine ⟨S2, hs', ?_, a2, b2, c2, d2, f2, zfr_tr (zfr_mono b1 (by decide) (by decide)) g2⟩
    rw [← e2, ← e1]
    have hlen2 := hlen
    rw [zEn_Hd hc] at hlen2
    simp (disch := omega) only [fM_X11_rehash_4, hB, hlen2, ↓zN_eq, zL0, zL1, zL2, zL3, zL4, zL5, zL6, zL7, zL8, zL10, zL16, zL31, zL42, zL63, zL64, zL100, zL200, zL255, zL256, zL1000, zL12345, zL536870912, zI_le, zI_lt, zI_eq, zI_add, zI_sub, zI_mul, zI_neN, zI_Nne, zI_leN, zI_ltN, zI_Nle, zI_Nlt, zI_pred, zI_clamp, zI_div, zI_rem, zin_t, zgd_t, znz_t, if_pos, if_neg, if_true, if_false, Option.bind_some]
theorem pM_rehash {S : zSt} {n B st : Nat} {hk hs g s : Nat → Nat} (h : zHM S n B st hk hs) (hR : zHR hk hs n B g s) (hc : zchn g B n) (hn2 : n = 2 * B) (hs2 : st + 300 < 100000) : ∃ S' hs', fM_X11_rehash S = some S' ∧ zHM S' n (B * 2) (st + n) hk hs' ∧ zHR hk hs' n (B * 2) (zsp g (B * 2) n) (zss g s (B * 2) n) ∧ zfr S S' [21, 22] [20, 29] := by
  obtain ⟨S', hs', e, a, b, c, d, f, k⟩ := pM_rehash_4 hR hc hs2 B 0 1000 S (by have := zPw_b h.2.2.2.2.2.1; omega) h (by omega) (by rw [zHd_0]; intro j hj; omega)
  have hPw := h.2.2.2.2.2.1
  have hn := h.2.2.2.2.2.2.1
  refine ⟨S', hs', ?_, ⟨(k.1 18 (by decide)).trans h.1, a, b, by rw [k.2 19 (by decide)]; exact h.2.2.2.1, c, by unfold zPw at hPw ⊢; omega, hn, h.2.2.2.2.2.2.2.1, by omega, f⟩, ?_, k⟩
  · rw [zHd_0] at e
    unfold fM_X11_rehash
    rw [zL0]
    exact e
  · exact zHQ_congr (zHQ_sp (B := B * 2) (fun j hj => (hR.1 j hj).2) d n (Nat.le_refl n)) (fun _ _ => rfl) (fun _ _ => rfl) (fun t => ⟨fun ht => hR.2.1 t ht, fun ⟨j, hj, q⟩ => by rw [← q]; exact (hR.1 j hj).1⟩)
/-- all that holds of the reference's things and the line -/
def zHAll (S : zSt) (n B st : Nat) (g : Nat → Nat) : Prop := ∃ hk hs s, zHM S n B st hk hs ∧ zHR hk hs n B g s
theorem pM_put {S : zSt} {n B st ky x : Nat} {hk hs g s : Nat → Nat} (h : zHM S n B st hk hs) (hR : zHR hk hs n B g s) (hc : zchn g B n) (hn : n < 200) (hst : st + 1 < 100000) (hky : ky < 64) : ∃ S' hk' hs', fM_X11_onHash_109 (nI ky) (nI x) S = some (nI x, S') ∧ S'.1 21 = nI B ∧ S'.1 22 = nI (st + 1) ∧ zRp (S'.2 19) (n + 1) hk' ∧ zRp (S'.2 20) (n + 1) hs' ∧ zK64 hk' (n + 1) ∧ (∀ t, t < n + 1 → hs' t ≤ st + 1) ∧ zHR hk' hs' (n + 1) B (zins g (zHd g B n (ky % B)) ky) (zins s (zHd g B n (ky % B)) n) ∧ zfr S S' [22] [19, 20] := by
  obtain ⟨hz, hB, hst0, hr1, hr2, hPw, hn0, hg, hsb, hmx⟩ := h
  refine ⟨zsR (zsR (zsI S 22 (nI (st + 1))) 19 n (nI ky)) 20 n (nI (st + 1)), fun k => if k = n then ky else hk k, fun k => if k = n then st + 1 else hs k, ?_, hB, rfl, ?_, ?_, ?_, ?_, ?_, ?_⟩
  · simp (disch := omega) only [fM_X11_onHash_109, hz, hst0, ↓zN_eq, zL0, zL1, zL2, zL3, zL4, zL5, zL6, zL7, zL8, zL10, zL16, zL31, zL42, zL63, zL64, zL100, zL200, zL255, zL256, zL1000, zL12345, zL536870912, zI_le, zI_lt, zI_eq, zI_add, zI_sub, zI_mul, zI_neN, zI_Nne, zI_leN, zI_ltN, zI_Nle, zI_Nlt, zI_pred, zI_clamp, zI_div, zI_rem, zin_t, zgd_t, znz_t, if_pos, if_neg, if_true, if_false, Option.bind_some]
  · intro j hj
    show upd (S.2 19) n (nI ky) j = nI (if j = n then ky else hk j)
    by_cases q : j = n
    · rw [if_pos q, q, pk_us]
    · rw [if_neg q, pk_un q]; exact hr1 j (by omega)
  · intro j hj
    show upd (S.2 20) n (nI (st + 1)) j = nI (if j = n then st + 1 else hs j)
    by_cases q : j = n
    · rw [if_pos q, q, pk_us]
    · rw [if_neg q, pk_un q]; exact hr2 j (by omega)
  · intro j hj
    show (if j = n then ky else hk j) < 64
    by_cases q : j = n
    · rw [if_pos q]; exact hky
    · rw [if_neg q]; exact hg j (by omega)
  · intro t ht
    show (if t = n then st + 1 else hs t) ≤ st + 1
    by_cases q : t = n
    · rw [if_pos q]; exact Nat.le_refl _
    · rw [if_neg q]; have := hmx t (by omega); omega
  · have h1 : zHQ (fun k => if k = n then ky else hk k) (fun k => if k = n then st + 1 else hs k) (fun t => t < n) n B g s := zHQ_congr hR (fun t ht => if_neg (by have : t < n := ht; omega)) (fun t ht => if_neg (by have : t < n := ht; omega)) (fun _ => Iff.rfl)
    refine zHQ_congr (zHQ_ins (t := n) (k := ky) h1 hc (if_pos rfl) (fun u hu => ?_)) (fun _ _ => rfl) (fun _ _ => rfl) (fun t => ⟨fun q => ?_, fun q => ?_⟩)
    · show (if u = n then st + 1 else hs u) < (if n = n then st + 1 else hs n)
      have hu' : u < n := hu
      rw [if_neg (by omega), if_pos rfl]; have := hmx u hu'; omega
    · show t < n ∨ t = n
      have : t < n + 1 := q
      omega
    · show t < n + 1
      rcases q with q | q
      · have : t < n := q; omega
      · omega
  · exact zfr_tr (zfr_tr (S' := zsI S 22 (nI (st + 1))) (zfr_sI (by decide)) (zfr_sR (by decide))) (zfr_sR (by decide))

/-! TREE: a put -/
def ztmP (tm : Nat → Nat) (k v : Nat) : Nat → Nat := fun j => if j = k then v else tm j
theorem zRl_up {f : Nat → Int32} {tm l : Nat → Nat} {k v w x : Nat} (h : zRl f tm l) : zRl (upd f k (zec x)) (ztmP tm k v) (fun j => if j = k then x else l j) := by
  intro j j1 j2
  show _ = zec (if j = k then x else l j)
  by_cases q : j = k
  · rw [if_pos q, q, pk_us]
  · rw [if_neg q, pk_un q]
    refine h j j1 ?_
    unfold ztmP at j2
    rw [if_neg q] at j2
    exact j2
theorem znd_put {tm : Nat → Nat} {k v : Nat} (hk : k < 64) (h0 : tm k = 0) (hv : 0 < v) : znd (ztmP tm k v) = znd tm + 1 := by
  unfold znd
  rw [← zct_rm (b := zpr (ztmP tm k v)) (t := k) (by unfold ztmP; simp [hv]) 64 hk]
  congr 1
  refine zct_congr 64 (fun j _ => ?_)
  unfold ztmP zpr
  by_cases q : j = k
  · subst q; simp [h0]
  · simp [q]
theorem znd_del {tm : Nat → Nat} {k : Nat} (hk : k < 64) (h0 : 0 < tm k) : znd (ztmP tm k 0) + 1 = znd tm := by
  unfold znd
  rw [← zct_rm (b := zpr tm) (t := k) (decide_eq_true h0) 64 hk]
  congr 1
  refine zct_congr 64 (fun j _ => ?_)
  unfold ztmP zpr
  by_cases q : j = k
  · subst q; simp
  · simp [q]
theorem zway_ok {tm : Nat → Nat} {k : Nat} (hj : zJ tm) (hk : k < 64) : ∃ w a b ab, zwy tm k 65 0 64 64 = (w, a, b, ab) ∧ zIv tm a b ∧ zAb tm a b ab ∧ a ≤ k ∧ k < b ∧ w ≤ 64 ∧ ab ≤ 64 ∧ ((tm k = 0 ∧ zT tm a b 64) ∨ (0 < tm k ∧ zT tm a b k)) := by
  have h := zwy_ok hj 65 0 64 64 (by omega) (zIv_all tm) (Or.inl ⟨rfl, rfl, rfl⟩) (Nat.zero_le k) hk
  refine ⟨(zwy tm k 65 0 64 64).1, (zwy tm k 65 0 64 64).2.1, (zwy tm k 65 0 64 64).2.2.1, (zwy tm k 65 0 64 64).2.2.2, rfl, h.1, h.2.1, h.2.2.1, h.2.2.2.1, by have := h.2.2.2.2.1; omega, ?_, h.2.2.2.2.2⟩
  have h1 := h.1.2.1
  have h2 := h.1.1
  rcases h.2.1 with q | q | q <;> omega
/-- all of the class's tree: times, links, counts, nodes -/
def zTA (S : zSt) (tm cn : Nat → Nat) : Prop := ∃ l r root, zTX S tm l r root ∧ zRp (S.2 38) 64 cn ∧ S.1 32 = nI (znd tm)
theorem znd_le (tm : Nat → Nat) : znd tm ≤ 64 := zct_le _ 64
theorem pX_putNode {S : zSt} {tm cn : Nat → Nat} {k v : Nat} (h : zTA S tm cn) (hj : zJ tm) (hc : zC2 cn) (hi : ∀ j, j < 64 → (0 < tm j ↔ 0 < cn j)) (hv : ∀ j, j < 64 → tm j < v) (hk : k < 64) : ∃ S', fX_X9_putNode (nI k) S = some (nI (if tm k = 0 then (zwy tm k 65 0 64 64).1 + 1 else (zwy tm k 65 0 64 64).1), S') ∧ zTA S' (if tm k = 0 then ztmP tm k v else tm) (fun j => if j = k then cn k + 1 else cn j) ∧ zfr S S' [31, 32, 33] [38, 40, 41] := by
  obtain ⟨l, r, root, hX, hn, hd⟩ := h
  obtain ⟨S1, e1, a1, b1⟩ := pX_tseek hX hj hk
  obtain ⟨w, a, b, ab, ew, hI, hA, ha, hb, hw, hab, hend⟩ := zway_ok hj hk
  rw [ew] at e1 a1 ⊢
  dsimp only at e1 a1 ⊢
  obtain ⟨x1, x2, x3, x4⟩ := hX
  have hck := hc k hk
  have hn1 : zRp (S1.2 38) 64 cn := by rw [b1.2 38 (by decide)]; exact hn
  have hv1 : S1.2 38 k = nI (cn k) := hn1 k hk
  have hnew : zRp (upd (S1.2 38) k (nI (cn k + 1))) 64 (fun j => if j = k then cn k + 1 else cn j) := zRp_up hn1
  have hup : ∀ (x : Int32), upd (S1.2 38) k x k = x := fun x => pk_us
  by_cases q : tm k = 0
  · rw [if_pos q, if_pos q]
    have hc0 : cn k = 0 := by
      rcases Nat.eq_zero_or_pos (cn k) with z | z
      · exact z
      · have := (hi k hk).mpr z; omega
    have hv0 : 0 < v := by have := hv k hk; omega
    have hN : zT tm a b 64 := by
      rcases hend with z | z
      · exact z.2
      · omega
    have hL' := zLK_put x4 hk q hv hI hA ha hb hN
    have y40 : zRl ((zsR (zsR (zsR S1 38 k (nI (cn k + 1))) 40 k zN) 41 k zN).2 40) (ztmP tm k v) (fun j => if j = k then 64 else l j) := by
      show zRl (upd (S1.2 40) k zN) _ _
      rw [← zec_64]
      exact zRl_up (w := 0) (by rw [b1.2 40 (by decide)]; exact x2)
    have y41 : zRl ((zsR (zsR (zsR S1 38 k (nI (cn k + 1))) 40 k zN) 41 k zN).2 41) (ztmP tm k v) (fun j => if j = k then 64 else r j) := by
      show zRl (upd (S1.2 41) k zN) _ _
      rw [← zec_64]
      exact zRl_up (w := 0) (by rw [b1.2 41 (by decide)]; exact x3)
    have y31 : (zsR (zsR (zsR S1 38 k (nI (cn k + 1))) 40 k zN) 41 k zN).1 31 = zec root := (b1.1 31 (by decide)).trans x1
    obtain ⟨S2, e2, a2, b2, c2, d2⟩ := pX_hang (x := k) hk hab (by omega) (show (zsR (zsR (zsR S1 38 k (nI (cn k + 1))) 40 k zN) 41 k zN).1 33 = zec ab from a1) y31 y40 y41
    rw [zec_lt hk] at e2
    have h32 : S2.1 32 = nI (znd tm) := (d2.1 32 (by decide)).trans ((b1.1 32 (by decide)).trans hd)
    refine ⟨zsI S2 32 (nI (znd tm + 1)), ?_, ⟨_, _, _, ⟨a2, b2, c2, hL'⟩, ?_, ?_⟩, ?_⟩
    · have hle := znd_le tm
      have hrd : (zsR S1 38 k (nI (cn k + 1))).2 38 k = nI (cn k + 1) := pk_us
      unfold fX_X9_putNode
      rw [e1]
      simp (disch := omega) only [hv1, hrd, e2, h32, ↓zN_eq, zL0, zL1, zL2, zL3, zL4, zL5, zL6, zL7, zL8, zL10, zL16, zL31, zL42, zL63, zL64, zL100, zL200, zL255, zL256, zL1000, zL12345, zL536870912, zI_le, zI_lt, zI_eq, zI_add, zI_sub, zI_mul, zI_neN, zI_Nne, zI_leN, zI_ltN, zI_Nle, zI_Nlt, zI_pred, zI_clamp, zI_div, zI_rem, zin_t, zgd_t, znz_t, if_pos, if_neg, if_true, if_false, Option.bind_some]
    · show zRp (S2.2 38) 64 _
      rw [d2.2 38 (by decide)]
      exact hnew
    · show nI (znd tm + 1) = _
      rw [znd_put hk q hv0]
    · exact zfr_tr (zfr_mono b1 (by decide) (by decide)) (zfr_tr (zfr_tr (zfr_tr (zfr_sR (by decide)) (zfr_sR (by decide))) (zfr_sR (by decide))) (zfr_tr (zfr_mono d2 (by decide) (by decide)) (zfr_sI (by decide))))
  · rw [if_neg q, if_neg q]
    have hc0 : 0 < cn k := (hi k hk).mp (by omega)
    refine ⟨zsR S1 38 k (nI (cn k + 1)), ?_, ⟨l, r, root, ⟨(b1.1 31 (by decide)).trans x1, by show zRl (S1.2 40) _ _; rw [b1.2 40 (by decide)]; exact x2, by show zRl (S1.2 41) _ _; rw [b1.2 41 (by decide)]; exact x3, x4⟩, hnew, (b1.1 32 (by decide)).trans hd⟩, zfr_tr (zfr_mono b1 (by decide) (by decide)) (zfr_sR (by decide))⟩
    have hrd : (zsR S1 38 k (nI (cn k + 1))).2 38 k = nI (cn k + 1) := pk_us
    unfold fX_X9_putNode
    rw [e1]
    simp (disch := omega) only [hv1, hrd, ↓zN_eq, zL0, zL1, zL2, zL3, zL4, zL5, zL6, zL7, zL8, zL10, zL16, zL31, zL42, zL63, zL64, zL100, zL200, zL255, zL256, zL1000, zL12345, zL536870912, zI_le, zI_lt, zI_eq, zI_add, zI_sub, zI_mul, zI_neN, zI_Nne, zI_leN, zI_ltN, zI_Nle, zI_Nlt, zI_pred, zI_clamp, zI_div, zI_rem, zin_t, zgd_t, znz_t, if_pos, if_neg, if_true, if_false, Option.bind_some]

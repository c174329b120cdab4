/-! the class: a shelf takes a call -/
def zac (j kd ky : Nat) (A : zAt) : Nat := match j with
  | 0 => zrwC kd ky (zaN A) (zaC A) (zaG A)
  | 1 => zsoC kd ky (zaN A) (zaC A) (zaS A)
  | 2 => zhaC kd ky (zaN A) (zaB A) (zaH A)
  | 3 => ztrC kd ky (zct2 A) (zaT A)
  | 4 => zhpC kd ky (zaN A) (zaC A) (zaX A)
  | _ => zbtC kd ky (zct2 A)
def zar (j : Nat) (A : zAt) : Nat := match j with
  | 0 => zaC A
  | 1 => zaC A
  | 2 => zaB A + 2 * zaN A
  | 3 => 4 * znd (zaT A)
  | 4 => zaC A
  | _ => 64
def zXR (j : Nat) (S : zSt) (A : zAt) : Prop := match j with
  | 0 => S.1 20 = nI (zaN A) ∧ S.1 19 = nI (zaC A) ∧ zRp (S.2 33) (zaN A) (zaG A) ∧ S.1 18 = nI 4
  | 1 => S.1 23 = nI (zaN A) ∧ S.1 22 = nI (zaC A) ∧ zRp (S.2 34) (zaN A) (zaS A) ∧ S.1 21 = nI 4
  | 2 => S.1 27 = nI (zaN A) ∧ S.1 26 = nI (zaB A) ∧ zRp (S.2 35) (zaN A) (zaH A) ∧ S.1 25 = nI 8
  | 3 => zTA S (zaT A) (zct2 A)
  | 4 => S.1 30 = nI (zaN A) ∧ S.1 29 = nI (zaC A) ∧ zRp (S.2 36) (zaN A) (zaX A) ∧ S.1 28 = nI 4
  | _ => zRp (S.2 39) 64 (zct2 A)
def zcI (j : Nat) : List Nat := match j with
  | 0 => [18, 19, 20]
  | 1 => [21, 22, 23]
  | 2 => [25, 26, 27]
  | 3 => [31, 32]
  | 4 => [28, 29, 30]
  | _ => []
def zcR (j : Nat) : List Nat := match j with
  | 0 => [33]
  | 1 => [34]
  | 2 => [35]
  | 3 => [38, 40, 41]
  | 4 => [36]
  | _ => [39]
/-- what a step of a shelf writes -/
def zwI (j : Nat) : List Nat := match j with
  | 0 => [20, 19]
  | 1 => [23, 22, 24]
  | 2 => [27, 26]
  | 3 => [31, 32, 33]
  | 4 => [30, 29]
  | _ => []
def zwR (j : Nat) : List Nat := match j with
  | 0 => [33]
  | 1 => [34]
  | 2 => [35, 37]
  | 3 => [38, 40, 41]
  | 4 => [36]
  | _ => [39]
theorem z6c {j : Nat} (h : j < 6) : j = 0 ∨ j = 1 ∨ j = 2 ∨ j = 3 ∨ j = 4 ∨ j = 5 := by omega
theorem zXR_cg {j : Nat} {S S' : zSt} {A : zAt} (hj : j < 6) (h : zXR j S A) (hi : ∀ k, k ∈ zcI j → S'.1 k = S.1 k) (hr : ∀ k, k ∈ zcR j → S'.2 k = S.2 k) : zXR j S' A := by
  rcases z6c hj with rfl | rfl | rfl | rfl | rfl | rfl
  · obtain ⟨a, b, c, d⟩ := h
    exact ⟨(hi 20 (by decide)).trans a, (hi 19 (by decide)).trans b, by rw [hr 33 (by decide)]; exact c, (hi 18 (by decide)).trans d⟩
  · obtain ⟨a, b, c, d⟩ := h
    exact ⟨(hi 23 (by decide)).trans a, (hi 22 (by decide)).trans b, by rw [hr 34 (by decide)]; exact c, (hi 21 (by decide)).trans d⟩
  · obtain ⟨a, b, c, d⟩ := h
    exact ⟨(hi 27 (by decide)).trans a, (hi 26 (by decide)).trans b, by rw [hr 35 (by decide)]; exact c, (hi 25 (by decide)).trans d⟩
  · obtain ⟨l, r, root, ⟨a1, a2, a3, a4⟩, b, c⟩ := h
    exact ⟨l, r, root, ⟨(hi 31 (by decide)).trans a1, by rw [hr 40 (by decide)]; exact a2, by rw [hr 41 (by decide)]; exact a3, a4⟩, by rw [hr 38 (by decide)]; exact b, (hi 32 (by decide)).trans c⟩
  · obtain ⟨a, b, c, d⟩ := h
    exact ⟨(hi 30 (by decide)).trans a, (hi 29 (by decide)).trans b, by rw [hr 36 (by decide)]; exact c, (hi 28 (by decide)).trans d⟩
  · show zRp (S'.2 39) 64 _
    rw [hr 39 (by decide)]; exact h
def zst (j : Nat) : Int32 → Int32 → zSt → Option (Int32 × zSt) := match j with
  | 0 => fX_X6_step
  | 1 => fX_X8_step
  | 2 => fX_X2_step
  | 3 => fX_X9_step
  | 4 => fX_X3_step
  | _ => fX_X0_step
theorem zC2_ct {A : zAt} {i : Nat} (h : zaOK A i) : zC2 (zct2 A) := fun j _ => Nat.le_trans (zcn_le (zaG A) j (zaN A)) h.1.2.1
theorem pX_st {j : Nat} {S : zSt} {A : zAt} {i kd ky : Nat} (hj : j < 6) (h : zXR j S A) (hA : zaOK A i) (hi : i < 200) (hd : kd < 8) (hk : ky < 64) : ∃ S1, zst j (nI kd) (nI ky) S = some (nI (zac j kd ky A), S1) ∧ zXR j S1 (zas kd ky A) ∧ zfr S S1 (zwI j) (zwR j) := by
  have hA' := hA
  obtain ⟨⟨a1, a2, a3, a4, a7, a5, a6⟩, ⟨b1, b2, b3, b4⟩, ⟨c1, c2⟩, ⟨d1, d2, d3⟩, e1, e2, e3⟩ := hA'
  rcases z6c hj with rfl | rfl | rfl | rfl | rfl | rfl
  · obtain ⟨x1, x2, x3, x4⟩ := h
    obtain ⟨S1, f1, f2, f3, f4, f5⟩ := pX_Row_step x1 x2 a2 (by omega) x3 b1 hd hk (fun _ => by omega)
    exact ⟨S1, f1, ⟨f2, f3, f4, (f5.1 18 (by decide)).trans x4⟩, f5⟩
  · obtain ⟨x1, x2, x3, x4⟩ := h
    obtain ⟨S1, f1, f2, f3, f4, f5⟩ := pX_Sorted_step x1 x2 a2 (by omega) x3 b2 hd hk (fun _ => by omega)
    rw [znx_iff (zaF_S hA ky)] at f2 f4
    exact ⟨S1, f1, ⟨f2, f3, f4, (f5.1 21 (by decide)).trans x4⟩, zfr_mono f5 (by decide) (by decide)⟩
  · obtain ⟨x1, x2, x3, x4⟩ := h
    obtain ⟨S1, f1, f2, f3, f4, f5⟩ := pX_Hash_step x1 x2 a5 a2 x3 b3 c2 hd hk (fun _ => by omega)
    rw [znx_iff (zaF_H hA ky)] at f2 f4
    exact ⟨S1, f1, ⟨f2, f3, f4, (f5.1 25 (by decide)).trans x4⟩, f5⟩
  · obtain ⟨S1, f1, f2, f3⟩ := pX_Tree_step h e1 (zC2_ct hA) e3 e2 hd hk
    exact ⟨S1, f1, zTA_congr f2 (fun j _ => (zct2_as kd ky A j).symm), f3⟩
  · obtain ⟨x1, x2, x3, x4⟩ := h
    obtain ⟨S1, f1, f2, f3, f4, f5⟩ := pX_Heap_step x1 x2 a2 (by omega) x3 b4 hd hk (fun _ => by omega)
    rw [znx_iff (zaF_X hA ky)] at f2 f4
    exact ⟨S1, f1, ⟨f2, f3, f4, (f5.1 28 (by decide)).trans x4⟩, f5⟩
  · obtain ⟨S1, f1, f2, f3⟩ := pX_Bits_step h (zC2_ct hA) hd hk
    exact ⟨S1, f1, zRp_congr f2 (fun j _ => (zct2_as kd ky A j).symm), f3⟩
theorem pX_rm {j : Nat} {S : zSt} {A : zAt} {i : Nat} (hj : j < 6) (h : zXR j S A) (hA : zaOK A i) : fX_d_room j S = some (nI (zar j A)) := by
  have a5 := zPw_b hA.1.2.2.2.2.2.1
  have a2 := hA.1.2.1
  rcases z6c hj with rfl | rfl | rfl | rfl | rfl | rfl
  · rw [fX_d_room_0]; unfold fX_X4_room_Row; rw [h.2.1]; rfl
  · rw [fX_d_room_1]; unfold fX_X4_room_Sorted; rw [h.2.1]; rfl
  · obtain ⟨x1, x2, x3, x4⟩ := h
    rw [fX_d_room_2]; unfold fX_X2_room; rw [x1, x2, zL2, zI_mul, zI_add]; rfl
  · obtain ⟨l, r, root, x1, x2, x3⟩ := h
    rw [fX_d_room_3]; unfold fX_X9_room; rw [x3, zL4, zI_mul]; rfl
  · rw [fX_d_room_4]; unfold fX_X4_room_Heap; rw [h.2.1]; rfl
  · rw [fX_d_room_5]; rfl
def ztk2 (j : Nat) (x1 x2 : Int32) (S : zSt) : Option zSt := if 200 ≤ (S.1 (12 + j)) then (some S) else ((zst j x1 x2 S).bind (fun u2 => zgd (zin (S.1 (12 + j)) 200) ((fX_d_room j (zsR u2.2 (10 + j) (S.1 (12 + j)).toNatClampNeg u2.1)).bind (fun u5 => zgd (zin (u2.2.1 (12 + j)) 200) (some (zsI (zsR (zsR u2.2 (10 + j) (S.1 (12 + j)).toNatClampNeg u2.1) (16 + j) (u2.2.1 (12 + j)).toNatClampNeg u5) (12 + j) ((u2.2.1 (12 + j)) + 1)))))))
theorem ztk2_eq {j : Nat} (hj : j < 6) (x1 x2 : Int32) (S : zSt) : fX_d_take j x1 x2 S = ztk2 j x1 x2 S := by
  rcases z6c hj with rfl | rfl | rfl | rfl | rfl | rfl
  · rw [fX_d_take_0]; unfold ztk2; simp only [fX_d_room_0]; rfl
  · rw [fX_d_take_1]; unfold ztk2; simp only [fX_d_room_1]; rfl
  · rw [fX_d_take_2]; unfold ztk2; simp only [fX_d_room_2]; rfl
  · rw [fX_d_take_3]; unfold ztk2; simp only [fX_d_room_3]; rfl
  · rw [fX_d_take_4]; unfold ztk2; simp only [fX_d_room_4]; rfl
  · rw [fX_d_take_5]; unfold ztk2; simp only [fX_d_room_5]; rfl
/-- the ints and rows of a shelf -/
def zoI (j : Nat) : List Nat := (12 + j) :: zwI j
def zoR (j : Nat) : List Nat := (10 + j) :: (16 + j) :: zwR j
/-- shelf j holds the first i calls of the trace -/
def zSh (j : Nat) (S : zSt) (kd ky : Nat → Nat) (i : Nat) : Prop := zXR j S (zA kd ky i) ∧ S.1 (12 + j) = nI i ∧ (∀ t, t < i → S.2 (10 + j) t = nI (zac j (kd t) (ky t) (zA kd ky t))) ∧ ∀ t, t < i → S.2 (16 + j) t = nI (zar j (zA kd ky (t + 1)))
theorem zwI_n {j : Nat} (hj : j < 6) : 12 + j ∉ zwI j ∧ 10 + j ∉ zwR j ∧ 16 + j ∉ zwR j ∧ (∀ k, k ∈ zcI j → k ≠ 12 + j) ∧ (∀ k, k ∈ zcR j → k ≠ 10 + j ∧ k ≠ 16 + j) := by
  rcases z6c hj with rfl | rfl | rfl | rfl | rfl | rfl <;> decide
theorem pX_take {j : Nat} {S : zSt} {kd ky : Nat → Nat} {i : Nat} (hj : j < 6) (h : zSh j S kd ky i) (hA : zaOK (zA kd ky i) i) (hi : i < 200) (hd : kd i < 8) (hk : ky i < 64) : ∃ S', fX_d_take j (nI (kd i)) (nI (ky i)) S = some S' ∧ zSh j S' kd ky (i + 1) ∧ zfr S S' (zoI j) (zoR j) := by
  obtain ⟨h1, h2, h3, h4⟩ := h
  obtain ⟨n1, n2, n3, n4, n5⟩ := zwI_n hj
  obtain ⟨S1, f1, f2, f3⟩ := pX_st hj h1 hA hi hd hk
  have hA2 : zaOK (zas (kd i) (ky i) (zA kd ky i)) (i + 1) := zas_ok hA hi hk
  have t1 : S1.1 (12 + j) = nI i := (f3.1 _ n1).trans h2
  have hX2 : zXR j (zsR S1 (10 + j) i (nI (zac j (kd i) (ky i) (zA kd ky i)))) (zas (kd i) (ky i) (zA kd ky i)) := zXR_cg hj f2 (fun k _ => rfl) (fun k hk => by rw [zsR_2, if_neg (n5 k hk).1])
  have hrm := pX_rm hj hX2 hA2
  refine ⟨zsI (zsR (zsR S1 (10 + j) i (nI (zac j (kd i) (ky i) (zA kd ky i)))) (16 + j) i (nI (zar j (zas (kd i) (ky i) (zA kd ky i))))) (12 + j) (nI (i + 1)), ?_, ⟨?_, ?_, fun t ht => ?_, fun t ht => ?_⟩, ?_⟩
  · rw [ztk2_eq hj]
    simp (disch := omega) only [ztk2, h2, f1, t1, hrm, ↓zN_eq, zL0, zL1, zL2, zL3, zL4, zL5, zL6, zL7, zL8, zL10, zL16, zL31, zL42, zL63, zL64, zL100, zL200, zL255, zL256, zL1000, zL12345, zL536870912, zI_le, zI_lt, zI_eq, zI_add, zI_sub, zI_mul, zI_neN, zI_Nne, zI_leN, zI_ltN, zI_Nle, zI_Nlt, zI_pred, zI_clamp, zI_div, zI_rem, zin_t, zgd_t, znz_t, if_pos, if_neg, if_true, if_false, Option.bind_some]
  · exact zXR_cg hj hX2 (fun k hk => by rw [zsI_1, if_neg (n4 k hk)]; rfl) (fun k hk => by rw [zsI_2, zsR_2, if_neg (n5 k hk).2])
  · rw [zsI_1, if_pos rfl]
  · rw [zsI_2, zsR_2, if_neg (by omega), zsR_2, if_pos rfl]
    by_cases q : t = i
    · rw [q, pk_us]
    · rw [pk_un q, f3.2 _ n2]; exact h3 t (by omega)
  · rw [zsI_2, zsR_2, if_pos rfl]
    by_cases q : t = i
    · rw [q, pk_us]; rfl
    · rw [pk_un q, zsR_2, if_neg (by omega), f3.2 _ n3]; exact h4 t (by omega)
  · refine zfr_tr (zfr_mono f3 (fun k hk => List.mem_cons_of_mem _ hk) (fun k hk => List.mem_cons_of_mem _ (List.mem_cons_of_mem _ hk))) (zfr_tr (zfr_tr (zfr_sR ?_) (zfr_sR ?_)) (zfr_sI ?_))
    · exact List.mem_cons_self
    · exact List.mem_cons_of_mem _ List.mem_cons_self
    · exact List.mem_cons_self

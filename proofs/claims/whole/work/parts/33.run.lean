/-! the trace's run: what is kept after each call -/
theorem zbtN_0 {ky : Nat} {cn : Nat → Nat} (k : Nat) : zbtN 0 ky cn k = if k = ky then cn k + 1 else cn k := (Eq.refl _).symm.symm
theorem zbtN_2 {ky : Nat} {cn : Nat → Nat} (k : Nat) : zbtN 2 ky cn k = if k = ky then cn k - 1 else cn k := (Eq.refl _).symm.symm
theorem zbtN_n {kd ky : Nat} {cn : Nat → Nat} (h0 : kd ≠ 0) (h2 : kd ≠ 2) : zbtN kd ky cn = cn := by unfold zbtN; rw [if_neg h0, if_neg h2]
theorem znx_0 {b : Prop} [Decidable b] {n : Nat} : znx 0 b n = n + 1 := (Eq.refl _).symm.symm
theorem znx_2t {b : Prop} [Decidable b] {n : Nat} (h : b) : znx 2 b n = n - 1 := by unfold znx; rw [if_neg (by decide), if_pos rfl, if_pos h]
theorem znx_2f {b : Prop} [Decidable b] {n : Nat} (h : ¬ b) : znx 2 b n = n := by unfold znx; rw [if_neg (by decide), if_pos rfl, if_neg h]
theorem znx_n {b : Prop} [Decidable b] {kd n : Nat} (h0 : kd ≠ 0) (h2 : kd ≠ 2) : znx kd b n = n := by unfold znx; rw [if_neg h0, if_neg h2]
theorem znx_iff {a b : Prop} [Decidable a] [Decidable b] {kd n : Nat} (h : a ↔ b) : znx kd a n = znx kd b n := by
  unfold znx
  by_cases h0 : kd = 0
  · rw [if_pos h0, if_pos h0]
  · rw [if_neg h0, if_neg h0]
    by_cases h2 : kd = 2
    · rw [if_pos h2, if_pos h2]
      by_cases q : a
      · rw [if_pos q, if_pos (h.mp q)]
      · rw [if_neg q, if_neg (fun w => q (h.mpr w))]
    · rw [if_neg h2, if_neg h2]
theorem zcn_in1 {g : Nat → Nat} {n p ky : Nat} (hp : p ≤ n) (k : Nat) : zcn (zins g p ky) k (n + 1) = if k = ky then zcn g k n + 1 else zcn g k n := by
  rw [zcn_ins g ky k n p hp]
  by_cases q : k = ky
  · rw [if_pos q, if_pos q.symm]
  · rw [if_neg q, if_neg (fun e => q e.symm)]; rfl
theorem zcn_de1 {g : Nat → Nat} {n p ky : Nat} (hp : p < n) (e : g p = ky) (k : Nat) : zcn (zdel g p) k (n - 1) = if k = ky then zcn g k n - 1 else zcn g k n := by
  have h := zcn_del g k hp
  by_cases q : k = ky
  · rw [if_pos (e.trans q.symm)] at h; rw [if_pos q]; omega
  · rw [if_neg (fun w => q (w.symm.trans e))] at h; rw [if_neg q]; omega
theorem zcn_no {g : Nat → Nat} {n ky : Nat} (h : ¬ 0 < zcn g ky n) (k : Nat) : zcn g k n = if k = ky then zcn g k n - 1 else zcn g k n := by
  by_cases q : k = ky
  · rw [if_pos q, q]; omega
  · rw [if_neg q]
theorem z3c {P : Nat → Prop} {kd : Nat} (h0 : P 0) (h2 : P 2) (hn : kd ≠ 0 → kd ≠ 2 → P kd) : P kd := by
  by_cases q : kd = 0
  · rw [q]; exact h0
  · by_cases w : kd = 2
    · rw [w]; exact h2
    · exact hn q w
theorem zcn_rwG {kd ky n : Nat} {g : Nat → Nat} (k : Nat) : zcn (zrwG kd ky n g) k (znx kd (zpl g ky n 0 < n) n) = zbtN kd ky (fun j => zcn g j n) k := by
  refine z3c (P := fun kd => zcn (zrwG kd ky n g) k (znx kd (zpl g ky n 0 < n) n) = zbtN kd ky (fun j => zcn g j n) k) ?_ ?_ ?_
  · rw [zbtN_0, znx_0]; exact zcn_in1 (Nat.le_refl n) k
  · rw [zbtN_2]
    have hG : zrwG 2 ky n g = if zpl g ky n 0 < n then zdel g (zpl g ky n 0) else g := by unfold zrwG; rw [if_neg (by decide), if_pos rfl]
    rw [hG]
    by_cases q : zpl g ky n 0 < n
    · rw [znx_2t q, if_pos q]; exact zcn_de1 q (zpl_at g ky n 0 (by omega)) k
    · rw [znx_2f q, if_neg q]; exact zcn_no (fun w => q ((zpl_cn g ky n).mpr w)) k
  · intro h0 h2
    rw [zbtN_n h0 h2, znx_n h0 h2]
    have hG : zrwG kd ky n g = g := by unfold zrwG; rw [if_neg h0, if_neg h2]
    rw [hG]
theorem zcn_soG {kd ky n : Nat} {g : Nat → Nat} (hs : zasc g n) (k : Nat) : zcn (zsoG kd ky n g) k (znx kd (zhe g ky n < n ∧ g (zhe g ky n) = ky) n) = zbtN kd ky (fun j => zcn g j n) k := by
  refine z3c (P := fun kd => zcn (zsoG kd ky n g) k (znx kd (zhe g ky n < n ∧ g (zhe g ky n) = ky) n) = zbtN kd ky (fun j => zcn g j n) k) ?_ ?_ ?_
  · rw [zbtN_0, znx_0]; exact zcn_in1 (zhe_le g ky n).1 k
  · rw [zbtN_2]
    have hG : zsoG 2 ky n g = if zhe g ky n < n ∧ g (zhe g ky n) = ky then zdel g (zhe g ky n) else g := by unfold zsoG; rw [if_neg (by decide), if_pos rfl]
    rw [hG]
    by_cases q : zhe g ky n < n ∧ g (zhe g ky n) = ky
    · rw [znx_2t q, if_pos q]; exact zcn_de1 q.1 q.2 k
    · rw [znx_2f q, if_neg q]; exact zcn_no (fun w => q ((zhe_found hs).mpr w)) k
  · intro h0 h2
    rw [zbtN_n h0 h2, znx_n h0 h2]
    have hG : zsoG kd ky n g = g := by unfold zsoG; rw [if_neg h0, if_neg h2]
    rw [hG]
theorem zcn_ha1 {n B k : Nat} {g : Nat → Nat} : zcn (zha1 n B g) k n = zcn g k n := by
  unfold zha1
  by_cases h : n = 2 * B
  · rw [if_pos h]; exact zcn_sp n
  · rw [if_neg h]
theorem zcn_haG {kd ky n B : Nat} {g : Nat → Nat} (k : Nat) : zcn (zhaG kd ky n B g) k (znx kd (zpl g ky n 0 < n) n) = zbtN kd ky (fun j => zcn g j n) k := by
  refine z3c (P := fun kd => zcn (zhaG kd ky n B g) k (znx kd (zpl g ky n 0 < n) n) = zbtN kd ky (fun j => zcn g j n) k) ?_ ?_ ?_
  · rw [zbtN_0, znx_0]
    have h := zcn_in1 (g := zha1 n B g) (ky := ky) (zHd_le (zha1 n B g) (zhaB 0 n B) n (ky % zhaB 0 n B)) k
    rw [zcn_ha1] at h
    exact h
  · rw [zbtN_2]
    have hG : zhaG 2 ky n B g = if zpl g ky n 0 < n then zdel g (zpl g ky n 0) else g := by unfold zhaG; rw [if_neg (by decide), if_pos rfl]
    rw [hG]
    by_cases q : zpl g ky n 0 < n
    · rw [znx_2t q, if_pos q]; exact zcn_de1 q (zpl_at g ky n 0 (by omega)) k
    · rw [znx_2f q, if_neg q]; exact zcn_no (fun w => q ((zpl_cn g ky n).mpr w)) k
  · intro h0 h2
    rw [zbtN_n h0 h2, znx_n h0 h2]
    have hG : zhaG kd ky n B g = g := by unfold zhaG; rw [if_neg h0, if_neg h2]
    rw [hG]
/-! the heap only moves its keys -/
theorem zcn_up {g : Nat → Nat} {p v k : Nat} : ∀ n, p < n → zcn (fun j => if j = p then v else g j) k n + (if g p = k then 1 else 0) = zcn g k n + (if v = k then 1 else 0) := by
  intro n
  induction n with
  | zero => intro h; omega
  | succ n ih =>
    intro h
    show zcn (fun j => if j = p then v else g j) k n + (if (if n = p then v else g n) = k then 1 else 0) + _ = zcn g k n + (if g n = k then 1 else 0) + _
    by_cases q : n = p
    · rw [if_pos q]
      have e : zcn (fun j => if j = p then v else g j) k n = zcn g k n := zcn_congr n (fun j hj => if_neg (by omega))
      rw [e, q]; omega
    · rw [if_neg q]
      have := ih (by omega)
      omega
theorem zcn_sw {g : Nat → Nat} {n p q k : Nat} (hp : p < n) (hq : q < n) : zcn (zsw g p q) k n = zcn g k n := by
  have h1 := zcn_up (g := g) (p := p) (v := g q) (k := k) n hp
  have h2 := zcn_up (g := fun j => if j = p then g q else g j) (p := q) (v := g p) (k := k) n hq
  have e : (if q = p then g q else g q) = g q := by
    by_cases w : q = p
    · rw [if_pos w]
    · rw [if_neg w]
  rw [e] at h2
  have e2 : zcn (zsw g p q) k n = zcn (fun j => if j = q then g p else if j = p then g q else g j) k n := rfl
  rw [e2]
  omega
theorem zcn_rs {n k : Nat} : ∀ f g p, p < n → zcn (zrs f g p).1 k n = zcn g k n := by
  intro f
  induction f with
  | zero => intro g p hp; rfl
  | succ f ih =>
    intro g p hp
    unfold zrs
    by_cases h1 : p = 0
    · rw [if_pos h1]
    · rw [if_neg h1]
      by_cases h2 : g ((p - 1) / 2) ≤ g p
      · rw [if_pos h2]
      · rw [if_neg h2]
        show zcn (zrs f (zsw g p ((p - 1) / 2)) ((p - 1) / 2)).1 k n = _
        rw [ih _ _ (by omega), zcn_sw hp (by omega)]
theorem zcn_sk {m k : Nat} : ∀ f g p, p < m → zcn (zsk m f g p).1 k m = zcn g k m := by
  intro f
  induction f with
  | zero => intro g p hp; rfl
  | succ f ih =>
    intro g p hp
    unfold zsk
    by_cases h1 : m ≤ 2 * p + 1
    · rw [if_pos h1]
    · rw [if_neg h1]
      have h3 := zch_in (g := g) (show 2 * p + 1 < m by omega)
      by_cases h2 : g p ≤ g (zch g m p)
      · rw [if_pos h2]
      · rw [if_neg h2]
        show zcn (zsk m f (zsw g p (zch g m p)) (zch g m p)).1 k m = _
        rw [ih _ _ h3.2, zcn_sw hp h3.2]
theorem zcn_hk {g : Nat → Nat} {n q k : Nat} (hq : q < n - 1) : zcn (zhk g n q).1 k (n - 1) + (if g q = k then 1 else 0) = zcn g k n := by
  have h1 := zcn_up (g := g) (p := q) (v := g (n - 1)) (k := k) (n - 1) hq
  have h2 : zcn g k n = zcn g k (n - 1) + (if g (n - 1) = k then 1 else 0) := by
    obtain ⟨m, rfl⟩ : ∃ m, n = m + 1 := ⟨n - 1, by omega⟩
    rfl
  have h3 : zcn (zhk g n q).1 k (n - 1) = zcn (zhq g n q) k (n - 1) := by
    unfold zhk
    by_cases w : (zhr g n q).2 = 0
    · rw [if_pos w, zcn_sk _ _ _ hq]; exact zcn_rs _ _ _ hq
    · rw [if_neg w]; exact zcn_rs _ _ _ hq
  have h4 : zcn (zhq g n q) k (n - 1) = zcn (fun j => if j = q then g (n - 1) else g j) k (n - 1) := rfl
  omega
theorem zcn_hpG {kd ky n : Nat} {g : Nat → Nat} (k : Nat) : zcn (zhpG kd ky n g) k (znx kd (zpl g ky n 0 < n) n) = zbtN kd ky (fun j => zcn g j n) k := by
  refine z3c (P := fun kd => zcn (zhpG kd ky n g) k (znx kd (zpl g ky n 0 < n) n) = zbtN kd ky (fun j => zcn g j n) k) ?_ ?_ ?_
  · rw [zbtN_0, znx_0]
    have h := zcn_in1 (g := g) (ky := ky) (Nat.le_refl n) k
    rw [← zcn_rs n (zins g n ky) n (by omega)] at h
    exact h
  · rw [zbtN_2]
    have hG : zhpG 2 ky n g = if zpl g ky n 0 < n then (if zpl g ky n 0 = n - 1 then g else (zhk g n (zpl g ky n 0)).1) else g := by unfold zhpG; rw [if_neg (by decide), if_pos rfl]
    rw [hG]
    by_cases q : zpl g ky n 0 < n
    · rw [znx_2t q, if_pos q]
      have e := zpl_at g ky n 0 (by omega)
      have key : zcn (if zpl g ky n 0 = n - 1 then g else (zhk g n (zpl g ky n 0)).1) k (n - 1) + (if g (zpl g ky n 0) = k then 1 else 0) = zcn g k n := by
        by_cases w : zpl g ky n 0 = n - 1
        · rw [if_pos w, w]
          obtain ⟨m, rfl⟩ : ∃ m, n = m + 1 := ⟨n - 1, by omega⟩
          rfl
        · rw [if_neg w]; exact zcn_hk (by omega)
      rw [e] at key
      by_cases y : k = ky
      · rw [if_pos (show ky = k from y.symm)] at key; rw [if_pos y]; omega
      · rw [if_neg (show ¬ ky = k from fun e => y e.symm)] at key; rw [if_neg y]; omega
    · rw [znx_2f q, if_neg q]; exact zcn_no (fun w => q ((zpl_cn g ky n).mpr w)) k
  · intro h0 h2
    rw [zbtN_n h0 h2, znx_n h0 h2]
    have hG : zhpG kd ky n g = g := by unfold zhpG; rw [if_neg h0, if_neg h2]
    rw [hG]
theorem zK64_rwG {kd ky n : Nat} {g : Nat → Nat} (hg : zK64 g n) (hk : ky < 64) : zK64 (zrwG kd ky n g) (znx kd (zpl g ky n 0 < n) n) := by
  refine z3c (P := fun kd => zK64 (zrwG kd ky n g) (znx kd (zpl g ky n 0 < n) n)) ?_ ?_ ?_
  · rw [znx_0]; exact zK64_ins hg (Nat.le_refl n) hk
  · have hG : zrwG 2 ky n g = if zpl g ky n 0 < n then zdel g (zpl g ky n 0) else g := by unfold zrwG; rw [if_neg (by decide), if_pos rfl]
    rw [hG]
    by_cases q : zpl g ky n 0 < n
    · rw [znx_2t q, if_pos q]; exact zK64_del hg
    · rw [znx_2f q, if_neg q]; exact hg
  · intro h0 h2
    rw [znx_n h0 h2]
    have hG : zrwG kd ky n g = g := by unfold zrwG; rw [if_neg h0, if_neg h2]
    rw [hG]; exact hg
theorem zK64_soG {kd ky n : Nat} {g : Nat → Nat} (hg : zK64 g n) (hk : ky < 64) : zK64 (zsoG kd ky n g) (znx kd (zhe g ky n < n ∧ g (zhe g ky n) = ky) n) := by
  refine z3c (P := fun kd => zK64 (zsoG kd ky n g) (znx kd (zhe g ky n < n ∧ g (zhe g ky n) = ky) n)) ?_ ?_ ?_
  · rw [znx_0]; exact zK64_ins hg (zhe_le g ky n).1 hk
  · have hG : zsoG 2 ky n g = if zhe g ky n < n ∧ g (zhe g ky n) = ky then zdel g (zhe g ky n) else g := by unfold zsoG; rw [if_neg (by decide), if_pos rfl]
    rw [hG]
    by_cases q : zhe g ky n < n ∧ g (zhe g ky n) = ky
    · rw [znx_2t q, if_pos q]; exact zK64_del hg
    · rw [znx_2f q, if_neg q]; exact hg
  · intro h0 h2
    rw [znx_n h0 h2]
    have hG : zsoG kd ky n g = g := by unfold zsoG; rw [if_neg h0, if_neg h2]
    rw [hG]; exact hg
theorem zK64_le {g : Nat → Nat} {n m : Nat} (h : zK64 g n) (hm : m ≤ n) : zK64 g m := fun j hj => h j (by omega)
theorem zK64_hpG {kd ky n : Nat} {g : Nat → Nat} (hg : zK64 g n) (hk : ky < 64) : zK64 (zhpG kd ky n g) (znx kd (zpl g ky n 0 < n) n) := by
  refine z3c (P := fun kd => zK64 (zhpG kd ky n g) (znx kd (zpl g ky n 0 < n) n)) ?_ ?_ ?_
  · rw [znx_0]; exact zK64_rs _ _ _ (by omega) (zK64_ins hg (Nat.le_refl n) hk)
  · have hG : zhpG 2 ky n g = if zpl g ky n 0 < n then (if zpl g ky n 0 = n - 1 then g else (zhk g n (zpl g ky n 0)).1) else g := by unfold zhpG; rw [if_neg (by decide), if_pos rfl]
    rw [hG]
    by_cases q : zpl g ky n 0 < n
    · rw [znx_2t q, if_pos q]
      by_cases w : zpl g ky n 0 = n - 1
      · rw [if_pos w]; exact zK64_le hg (by omega)
      · rw [if_neg w]
        refine zK64_le (n := n) ?_ (by omega)
        have h1 := zK64_hq hg q
        unfold zhk
        by_cases y : (zhr g n (zpl g ky n 0)).2 = 0
        · rw [if_pos y]; exact zK64_sk (by omega) _ _ _ (by omega) (zK64_rs _ _ _ q h1)
        · rw [if_neg y]; exact zK64_rs _ _ _ q h1
    · rw [znx_2f q, if_neg q]; exact hg
  · intro h0 h2
    rw [znx_n h0 h2]
    have hG : zhpG kd ky n g = g := by unfold zhpG; rw [if_neg h0, if_neg h2]
    rw [hG]; exact hg
theorem zasc_ins {g : Nat → Nat} {n k : Nat} (hs : zasc g n) : zasc (zins g (zhe g k n) k) (n + 1) := by
  obtain ⟨h1, h2, h3⟩ := zhe_ord k hs
  intro i j hij hj
  unfold zins
  by_cases a : j < zhe g k n
  · rw [if_pos a, if_pos (by omega)]; exact hs i j hij (by omega)
  · rw [if_neg a]
    by_cases b : j = zhe g k n
    · rw [if_pos b]
      by_cases c : i < zhe g k n
      · rw [if_pos c]; have := h1 i c; omega
      · rw [if_neg c, if_pos (by omega)]; exact Nat.le_refl _
    · rw [if_neg b]
      have hj2 := h2 (j - 1) (by omega) (by omega)
      by_cases c : i < zhe g k n
      · rw [if_pos c]; have := h1 i c; omega
      · rw [if_neg c]
        by_cases d : i = zhe g k n
        · rw [if_pos d]; exact hj2
        · rw [if_neg d]; exact hs (i - 1) (j - 1) (by omega) (by omega)
theorem zasc_del {g : Nat → Nat} {n p : Nat} (hs : zasc g n) : zasc (zdel g p) (n - 1) := by
  intro i j hij hj
  unfold zdel
  by_cases a : j < p
  · rw [if_pos a, if_pos (by omega)]; exact hs i j hij (by omega)
  · rw [if_neg a]
    by_cases c : i < p
    · rw [if_pos c]; exact hs i (j + 1) (by omega) (by omega)
    · rw [if_neg c]; exact hs (i + 1) (j + 1) (by omega) (by omega)
theorem zasc_soG {kd ky n : Nat} {g : Nat → Nat} (hg : zasc g n) : zasc (zsoG kd ky n g) (znx kd (zhe g ky n < n ∧ g (zhe g ky n) = ky) n) := by
  refine z3c (P := fun kd => zasc (zsoG kd ky n g) (znx kd (zhe g ky n < n ∧ g (zhe g ky n) = ky) n)) ?_ ?_ ?_
  · rw [znx_0]; exact zasc_ins hg
  · have hG : zsoG 2 ky n g = if zhe g ky n < n ∧ g (zhe g ky n) = ky then zdel g (zhe g ky n) else g := by unfold zsoG; rw [if_neg (by decide), if_pos rfl]
    rw [hG]
    by_cases q : zhe g ky n < n ∧ g (zhe g ky n) = ky
    · rw [znx_2t q, if_pos q]; exact zasc_del hg
    · rw [znx_2f q, if_neg q]; exact hg
  · intro h0 h2
    rw [znx_n h0 h2]
    have hG : zsoG kd ky n g = g := by unfold zsoG; rw [if_neg h0, if_neg h2]
    rw [hG]; exact hg
/-! all that is kept: n, width, chains, clock; row, sorted, hash, heap, times -/
abbrev zAt := Nat × Nat × Nat × Nat × (Nat → Nat) × (Nat → Nat) × (Nat → Nat) × (Nat → Nat) × (Nat → Nat)
def zaN (A : zAt) : Nat := A.1
def zaC (A : zAt) : Nat := A.2.1
def zaB (A : zAt) : Nat := A.2.2.1
def zaK (A : zAt) : Nat := A.2.2.2.1
def zaG (A : zAt) : Nat → Nat := A.2.2.2.2.1
def zaS (A : zAt) : Nat → Nat := A.2.2.2.2.2.1
def zaH (A : zAt) : Nat → Nat := A.2.2.2.2.2.2.1
def zaX (A : zAt) : Nat → Nat := A.2.2.2.2.2.2.2.1
def zaT (A : zAt) : Nat → Nat := A.2.2.2.2.2.2.2.2
def zct2 (A : zAt) : Nat → Nat := fun j => zcn (zaG A) j (zaN A)
def zas (kd ky : Nat) (A : zAt) : zAt := (znx kd (zpl (zaG A) ky (zaN A) 0 < zaN A) (zaN A), zcap kd (zaN A) (zaC A), zhaB kd (zaN A) (zaB A), ztrK kd ky (zaK A) (zaT A), zrwG kd ky (zaN A) (zaG A), zsoG kd ky (zaN A) (zaS A), zhaG kd ky (zaN A) (zaB A) (zaH A), zhpG kd ky (zaN A) (zaX A), ztrT kd ky (zaK A) (zct2 A) (zaT A))
def za0 : zAt := (0, 4, 8, 0, fun _ => 0, fun _ => 0, fun _ => 0, fun _ => 0, fun _ => 0)
def zA (kd ky : Nat → Nat) : Nat → zAt
  | 0 => za0
  | i + 1 => zas (kd i) (ky i) (zA kd ky i)
theorem zct2_as (kd ky : Nat) (A : zAt) (k : Nat) : zct2 (zas kd ky A) k = zbtN kd ky (zct2 A) k := zcn_rwG k
def zaOK (A : zAt) (i : Nat) : Prop := (zaN A ≤ i ∧ zaN A ≤ 200 ∧ zaN A ≤ zaC A ∧ zaC A < 400 ∧ 0 < zaC A ∧ zPw (zaB A) ∧ zaK A ≤ i) ∧ (zK64 (zaG A) (zaN A) ∧ zK64 (zaS A) (zaN A) ∧ zK64 (zaH A) (zaN A) ∧ zK64 (zaX A) (zaN A)) ∧ (zasc (zaS A) (zaN A) ∧ zchn (zaH A) (zaB A) (zaN A)) ∧ ((∀ k, zcn (zaS A) k (zaN A) = zct2 A k) ∧ (∀ k, zcn (zaH A) k (zaN A) = zct2 A k) ∧ (∀ k, zcn (zaX A) k (zaN A) = zct2 A k)) ∧ zJ (zaT A) ∧ zM3 (zaT A) (zaK A) ∧ ∀ j, j < 64 → (0 < zaT A j ↔ 0 < zct2 A j)
theorem zaF_S {A : zAt} {i : Nat} (h : zaOK A i) (ky : Nat) : (zhe (zaS A) ky (zaN A) < zaN A ∧ zaS A (zhe (zaS A) ky (zaN A)) = ky) ↔ zpl (zaG A) ky (zaN A) 0 < zaN A := by
  rw [zhe_found h.2.2.1.1, h.2.2.2.1.1, zpl_cn]; exact Iff.rfl
theorem zaF_H {A : zAt} {i : Nat} (h : zaOK A i) (ky : Nat) : zpl (zaH A) ky (zaN A) 0 < zaN A ↔ zpl (zaG A) ky (zaN A) 0 < zaN A := by
  rw [zpl_cn, h.2.2.2.1.2.1, zpl_cn]; exact Iff.rfl
theorem zaF_X {A : zAt} {i : Nat} (h : zaOK A i) (ky : Nat) : zpl (zaX A) ky (zaN A) 0 < zaN A ↔ zpl (zaG A) ky (zaN A) 0 < zaN A := by
  rw [zpl_cn, h.2.2.2.1.2.2, zpl_cn]; exact Iff.rfl
theorem zcap_ok {kd n c : Nat} {b : Prop} [Decidable b] (h1 : n ≤ c) (h2 : c < 400) (h3 : n < 200) (hc : 0 < c) : znx kd b n ≤ zcap kd n c ∧ zcap kd n c < 400 ∧ 0 < zcap kd n c ∧ znx kd b n ≤ n + 1 := by
  unfold znx zcap
  by_cases h0 : kd = 0
  · rw [if_pos h0, if_pos h0]
    by_cases q : n = c
    · rw [if_pos q]; omega
    · rw [if_neg q]; omega
  · rw [if_neg h0, if_neg h0]
    by_cases w : kd = 2
    · rw [if_pos w]
      by_cases y : b
      · rw [if_pos y]; omega
      · rw [if_neg y]; omega
    · rw [if_neg w]; omega
theorem zas_ok {A : zAt} {i kd ky : Nat} (h : zaOK A i) (hi : i < 200) (hk : ky < 64) : zaOK (zas kd ky A) (i + 1) := by
  have h' := h
  obtain ⟨⟨a1, a2, a3, a4, a7, a5, a6⟩, ⟨b1, b2, b3, b4⟩, ⟨c1, c2⟩, ⟨d1, d2, d3⟩, e1, e2, e3⟩ := h'
  have eN : zaN (zas kd ky A) = znx kd (zpl (zaG A) ky (zaN A) 0 < zaN A) (zaN A) := rfl
  have eS : znx kd (zhe (zaS A) ky (zaN A) < zaN A ∧ zaS A (zhe (zaS A) ky (zaN A)) = ky) (zaN A) = zaN (zas kd ky A) := znx_iff (zaF_S h ky)
  have eH : znx kd (zpl (zaH A) ky (zaN A) 0 < zaN A) (zaN A) = zaN (zas kd ky A) := znx_iff (zaF_H h ky)
  have eX : znx kd (zpl (zaX A) ky (zaN A) 0 < zaN A) (zaN A) = zaN (zas kd ky A) := znx_iff (zaF_X h ky)
  have hcn : ∀ {f : Nat → Nat} (k : Nat), (∀ k, f k = zct2 A k) → zbtN kd ky f k = zct2 (zas kd ky A) k := fun {f} k hf => by
    rw [zct2_as, show f = zct2 A from funext hf]
  have hT := ztrT_ok (kd := kd) (cn := zct2 A) e1 e2 (by omega) e3 hk
  have hcap : zaN (zas kd ky A) ≤ zaC (zas kd ky A) ∧ zaC (zas kd ky A) < 400 ∧ 0 < zaC (zas kd ky A) ∧ zaN (zas kd ky A) ≤ zaN A + 1 := by
    rw [eN]
    have e4 : zaC (zas kd ky A) = zcap kd (zaN A) (zaC A) := rfl
    rw [e4]
    have := zcap_ok (kd := kd) (b := zpl (zaG A) ky (zaN A) 0 < zaN A) a3 a4 (by omega) a7
    omega
  have hK : zaK (zas kd ky A) ≤ i + 1 := by
    show ztrK kd ky (zaK A) (zaT A) ≤ _
    unfold ztrK
    by_cases h0 : kd = 0
    · rw [if_pos h0]
      by_cases q : zaT A ky = 0
      · rw [if_pos q]; omega
      · rw [if_neg q]; omega
    · rw [if_neg h0]; omega
  refine ⟨⟨by omega, by omega, hcap.1, hcap.2.1, hcap.2.2.1, zhaB_pw a5 (by omega), hK⟩, ⟨zK64_rwG b1 hk, ?_, ?_, ?_⟩, ⟨?_, ?_⟩, ⟨fun k => ?_, fun k => ?_, fun k => ?_⟩, hT.1, hT.2.1, fun j hj => ?_⟩
  · rw [← eS]; exact zK64_soG b2 hk
  · rw [← eH]; exact zhaG_64 b3 hk
  · rw [← eX]; exact zK64_hpG b4 hk
  · rw [← eS]; exact zasc_soG c1
  · rw [← eH]; exact zhaG_ch c2
  · rw [← eS, ← hcn k d1]; exact zcn_soG c1 k
  · rw [← eH, ← hcn k d2]; exact zcn_haG k
  · rw [← eX, ← hcn k d3]; exact zcn_hpG k
  · rw [zct2_as]; exact hT.2.2 j hj

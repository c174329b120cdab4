/-! rows of keys: f holds g on n places -/
def zRp (f : Nat → Int32) (n : Nat) (g : Nat → Nat) : Prop := ∀ j, j < n → f j = nI (g j)
def zK64 (g : Nat → Nat) (n : Nat) : Prop := ∀ j, j < n → g j < 64
/-- the first place of k among r from i on; i + r if there is none -/
def zpl (g : Nat → Nat) (k : Nat) : Nat → Nat → Nat
  | 0, i => i
  | r + 1, i => if g i = k then i else zpl g k r (i + 1)
/-- how many k among the first n -/
def zcn (g : Nat → Nat) (k : Nat) : Nat → Nat
  | 0 => 0
  | n + 1 => zcn g k n + (if g n = k then 1 else 0)
def zins (g : Nat → Nat) (p v : Nat) : Nat → Nat := fun j => if j < p then g j else if j = p then v else g (j - 1)
def zdel (g : Nat → Nat) (p : Nat) : Nat → Nat := fun j => if j < p then g j else g (j + 1)
theorem zpl_le (g : Nat → Nat) (k : Nat) : ∀ r i, i ≤ zpl g k r i ∧ zpl g k r i ≤ i + r := by
  intro r
  induction r with
  | zero => intro i; exact ⟨Nat.le_refl _, Nat.le_refl _⟩
  | succ r ih =>
    intro i
    unfold zpl
    by_cases h : g i = k
    · rw [if_pos h]; omega
    · rw [if_neg h]; have := ih (i + 1); omega
theorem zpl_at (g : Nat → Nat) (k : Nat) : ∀ r i, zpl g k r i < i + r → g (zpl g k r i) = k := by
  intro r
  induction r with
  | zero => intro i h; exact absurd h (by unfold zpl; omega)
  | succ r ih =>
    intro i
    unfold zpl
    by_cases h : g i = k
    · rw [if_pos h]; intro _; exact h
    · rw [if_neg h]; intro h2; exact ih (i + 1) (by omega)
theorem zpl_ne (g : Nat → Nat) (k : Nat) : ∀ r i j, i ≤ j → j < zpl g k r i → g j ≠ k := by
  intro r
  induction r with
  | zero => intro i j h1 h2; exact absurd h2 (by unfold zpl; omega)
  | succ r ih =>
    intro i j h1
    unfold zpl
    by_cases h : g i = k
    · rw [if_pos h]; intro h2; omega
    · rw [if_neg h]
      intro h2
      by_cases e : j = i
      · rw [e]; exact h
      · exact ih (i + 1) j (by omega) h2
theorem zcn_pos (g : Nat → Nat) (k : Nat) : ∀ n, 0 < zcn g k n ↔ ∃ j, j < n ∧ g j = k := by
  intro n
  induction n with
  | zero => exact ⟨fun h => absurd h (by unfold zcn; omega), fun ⟨j, h, _⟩ => absurd h (by omega)⟩
  | succ n ih =>
    unfold zcn
    constructor
    · intro h
      by_cases e : g n = k
      · exact ⟨n, by omega, e⟩
      · rw [if_neg e] at h
        obtain ⟨j, h1, h2⟩ := ih.mp (by omega)
        exact ⟨j, by omega, h2⟩
    · intro ⟨j, h1, h2⟩
      by_cases e : j = n
      · rw [← e, h2, if_pos rfl]; omega
      · have := ih.mpr ⟨j, by omega, h2⟩; omega
theorem zpl_cn (g : Nat → Nat) (k n : Nat) : zpl g k n 0 < n ↔ 0 < zcn g k n := by
  rw [zcn_pos]
  constructor
  · intro h; exact ⟨_, h, zpl_at g k n 0 (by omega)⟩
  · intro ⟨j, h1, h2⟩
    rcases Nat.lt_or_ge (zpl g k n 0) n with h | h
    · exact h
    · exact absurd h2 (zpl_ne g k n 0 j (by omega) (by omega))
theorem pX_placeOf_Row_2 {S : zSt} {n k : Nat} {g : Nat → Nat} (hz : S.1 20 = nI n) (hn : n ≤ 200) (hr : zRp (S.2 33) n g) (hg : zK64 g n) (hk : k < 64) : ∀ r i m, r < m → i + r = n → fX_X4_placeOf_Row_2 m (nI k) (nI i) S = some (if zpl g k r i < n then nI (zpl g k r i) else zN) := by
  intro r
  induction r with
  | zero =>
    intro i m hm hi
    obtain ⟨m, rfl⟩ : ∃ m', m = m' + 1 := ⟨m - 1, by omega⟩
    rw [show zpl g k 0 i = i from rfl, if_neg (show ¬ i < n by omega)]
    simp (disch := omega) only [fX_X4_placeOf_Row_2, hz, ↓zN_eq, zL0, zL1, zL2, zL3, zL4, zL5, zL6, zL7, zL8, zL10, zL16, zL31, zL42, zL63, zL64, zL100, zL200, zL255, zL256, zL1000, zL12345, zL536870912, zI_le, zI_lt, zI_eq, zI_add, zI_sub, zI_mul, zI_neN, zI_Nne, zI_leN, zI_ltN, zI_Nle, zI_Nlt, zI_pred, zI_clamp, zI_div, zI_rem, zin_t, zgd_t, znz_t, if_pos, if_neg, if_true, if_false, Option.bind_some]
  | succ r ih =>
    intro i m hm hi
    obtain ⟨m, rfl⟩ : ∃ m', m = m' + 1 := ⟨m - 1, by omega⟩
    have h1 := hg i (by omega)
    have hr' : ∀ j, j < n → S.2 33 j = nI (g j) := hr
    simp (disch := omega) only [fX_X4_placeOf_Row_2, hz, zpl, hr', ↓zN_eq, zL0, zL1, zL2, zL3, zL4, zL5, zL6, zL7, zL8, zL10, zL16, zL31, zL42, zL63, zL64, zL100, zL200, zL255, zL256, zL1000, zL12345, zL536870912, zI_le, zI_lt, zI_eq, zI_add, zI_sub, zI_mul, zI_neN, zI_Nne, zI_leN, zI_ltN, zI_Nle, zI_Nlt, zI_pred, zI_clamp, zI_div, zI_rem, zin_t, zgd_t, znz_t, if_pos, if_neg, if_true, if_false, Option.bind_some]
    by_cases h : g i = k
    · simp (disch := omega) only [↓zN_eq, zL0, zL1, zL2, zL3, zL4, zL5, zL6, zL7, zL8, zL10, zL16, zL31, zL42, zL63, zL64, zL100, zL200, zL255, zL256, zL1000, zL12345, zL536870912, zI_le, zI_lt, zI_eq, zI_add, zI_sub, zI_mul, zI_neN, zI_Nne, zI_leN, zI_ltN, zI_Nle, zI_Nlt, zI_pred, zI_clamp, zI_div, zI_rem, zin_t, zgd_t, znz_t, if_pos, if_neg, if_true, if_false, Option.bind_some]
    · simp (disch := omega) only [↓zN_eq, zL0, zL1, zL2, zL3, zL4, zL5, zL6, zL7, zL8, zL10, zL16, zL31, zL42, zL63, zL64, zL100, zL200, zL255, zL256, zL1000, zL12345, zL536870912, zI_le, zI_lt, zI_eq, zI_add, zI_sub, zI_mul, zI_neN, zI_Nne, zI_leN, zI_ltN, zI_Nle, zI_Nlt, zI_pred, zI_clamp, zI_div, zI_rem, zin_t, zgd_t, znz_t, if_pos, if_neg, if_true, if_false, Option.bind_some]
      exact ih (i + 1) m (by omega) (by omega)
theorem pX_placeOf_Row {S : zSt} {n k : Nat} {g : Nat → Nat} (hz : S.1 20 = nI n) (hn : n ≤ 200) (hr : zRp (S.2 33) n g) (hg : zK64 g n) (hk : k < 64) : fX_X4_placeOf_Row (nI k) S = some (if zpl g k n 0 < n then nI (zpl g k n 0) else zN) := by
  unfold fX_X4_placeOf_Row
  exact pX_placeOf_Row_2 hz hn hr hg hk n 0 1000 (by omega) (by omega)

theorem pX_placeOf_Hash_2 {S : zSt} {n k : Nat} {g : Nat → Nat} (hz : S.1 27 = nI n) (hn : n ≤ 200) (hr : zRp (S.2 35) n g) (hg : zK64 g n) (hk : k < 64) : ∀ r i m, r < m → i + r = n → fX_X4_placeOf_Hash_2 m (nI k) (nI i) S = some (if zpl g k r i < n then nI (zpl g k r i) else zN) := by
  intro r
  induction r with
  | zero =>
    intro i m hm hi
    obtain ⟨m, rfl⟩ : ∃ m', m = m' + 1 := ⟨m - 1, by omega⟩
    rw [show zpl g k 0 i = i from rfl, if_neg (show ¬ i < n by omega)]
    simp (disch := omega) only [fX_X4_placeOf_Hash_2, hz, ↓zN_eq, zL0, zL1, zL2, zL3, zL4, zL5, zL6, zL7, zL8, zL10, zL16, zL31, zL42, zL63, zL64, zL100, zL200, zL255, zL256, zL1000, zL12345, zL536870912, zI_le, zI_lt, zI_eq, zI_add, zI_sub, zI_mul, zI_neN, zI_Nne, zI_leN, zI_ltN, zI_Nle, zI_Nlt, zI_pred, zI_clamp, zI_div, zI_rem, zin_t, zgd_t, znz_t, if_pos, if_neg, if_true, if_false, Option.bind_some]
  | succ r ih =>
    intro i m hm hi
    obtain ⟨m, rfl⟩ : ∃ m', m = m' + 1 := ⟨m - 1, by omega⟩
    have h1 := hg i (by omega)
    have hr' : ∀ j, j < n → S.2 35 j = nI (g j) := hr
    simp (disch := omega) only [fX_X4_placeOf_Hash_2, hz, zpl, hr', ↓zN_eq, zL0, zL1, zL2, zL3, zL4, zL5, zL6, zL7, zL8, zL10, zL16, zL31, zL42, zL63, zL64, zL100, zL200, zL255, zL256, zL1000, zL12345, zL536870912, zI_le, zI_lt, zI_eq, zI_add, zI_sub, zI_mul, zI_neN, zI_Nne, zI_leN, zI_ltN, zI_Nle, zI_Nlt, zI_pred, zI_clamp, zI_div, zI_rem, zin_t, zgd_t, znz_t, if_pos, if_neg, if_true, if_false, Option.bind_some]
    by_cases h : g i = k
    · simp (disch := omega) only [↓zN_eq, zL0, zL1, zL2, zL3, zL4, zL5, zL6, zL7, zL8, zL10, zL16, zL31, zL42, zL63, zL64, zL100, zL200, zL255, zL256, zL1000, zL12345, zL536870912, zI_le, zI_lt, zI_eq, zI_add, zI_sub, zI_mul, zI_neN, zI_Nne, zI_leN, zI_ltN, zI_Nle, zI_Nlt, zI_pred, zI_clamp, zI_div, zI_rem, zin_t, zgd_t, znz_t, if_pos, if_neg, if_true, if_false, Option.bind_some]
    · simp (disch := omega) only [↓zN_eq, zL0, zL1, zL2, zL3, zL4, zL5, zL6, zL7, zL8, zL10, zL16, zL31, zL42, zL63, zL64, zL100, zL200, zL255, zL256, zL1000, zL12345, zL536870912, zI_le, zI_lt, zI_eq, zI_add, zI_sub, zI_mul, zI_neN, zI_Nne, zI_leN, zI_ltN, zI_Nle, zI_Nlt, zI_pred, zI_clamp, zI_div, zI_rem, zin_t, zgd_t, znz_t, if_pos, if_neg, if_true, if_false, Option.bind_some]
      exact ih (i + 1) m (by omega) (by omega)
theorem pX_placeOf_Hash {S : zSt} {n k : Nat} {g : Nat → Nat} (hz : S.1 27 = nI n) (hn : n ≤ 200) (hr : zRp (S.2 35) n g) (hg : zK64 g n) (hk : k < 64) : fX_X4_placeOf_Hash (nI k) S = some (if zpl g k n 0 < n then nI (zpl g k n 0) else zN) := by
  unfold fX_X4_placeOf_Hash
  exact pX_placeOf_Hash_2 hz hn hr hg hk n 0 1000 (by omega) (by omega)

theorem pX_placeOf_Heap_2 {S : zSt} {n k : Nat} {g : Nat → Nat} (hz : S.1 30 = nI n) (hn : n ≤ 200) (hr : zRp (S.2 36) n g) (hg : zK64 g n) (hk : k < 64) : ∀ r i m, r < m → i + r = n → fX_X4_placeOf_Heap_2 m (nI k) (nI i) S = some (if zpl g k r i < n then nI (zpl g k r i) else zN) := by
  intro r
  induction r with
  | zero =>
    intro i m hm hi
    obtain ⟨m, rfl⟩ : ∃ m', m = m' + 1 := ⟨m - 1, by omega⟩
    rw [show zpl g k 0 i = i from rfl, if_neg (show ¬ i < n by omega)]
    simp (disch := omega) only [fX_X4_placeOf_Heap_2, hz, ↓zN_eq, zL0, zL1, zL2, zL3, zL4, zL5, zL6, zL7, zL8, zL10, zL16, zL31, zL42, zL63, zL64, zL100, zL200, zL255, zL256, zL1000, zL12345, zL536870912, zI_le, zI_lt, zI_eq, zI_add, zI_sub, zI_mul, zI_neN, zI_Nne, zI_leN, zI_ltN, zI_Nle, zI_Nlt, zI_pred, zI_clamp, zI_div, zI_rem, zin_t, zgd_t, znz_t, if_pos, if_neg, if_true, if_false, Option.bind_some]
  | succ r ih =>
    intro i m hm hi
    obtain ⟨m, rfl⟩ : ∃ m', m = m' + 1 := ⟨m - 1, by omega⟩
    have h1 := hg i (by omega)
    have hr' : ∀ j, j < n → S.2 36 j = nI (g j) := hr
    simp (disch := omega) only [fX_X4_placeOf_Heap_2, hz, zpl, hr', ↓zN_eq, zL0, zL1, zL2, zL3, zL4, zL5, zL6, zL7, zL8, zL10, zL16, zL31, zL42, zL63, zL64, zL100, zL200, zL255, zL256, zL1000, zL12345, zL536870912, zI_le, zI_lt, zI_eq, zI_add, zI_sub, zI_mul, zI_neN, zI_Nne, zI_leN, zI_ltN, zI_Nle, zI_Nlt, zI_pred, zI_clamp, zI_div, zI_rem, zin_t, zgd_t, znz_t, if_pos, if_neg, if_true, if_false, Option.bind_some]
    by_cases h : g i = k
    · simp (disch := omega) only [↓zN_eq, zL0, zL1, zL2, zL3, zL4, zL5, zL6, zL7, zL8, zL10, zL16, zL31, zL42, zL63, zL64, zL100, zL200, zL255, zL256, zL1000, zL12345, zL536870912, zI_le, zI_lt, zI_eq, zI_add, zI_sub, zI_mul, zI_neN, zI_Nne, zI_leN, zI_ltN, zI_Nle, zI_Nlt, zI_pred, zI_clamp, zI_div, zI_rem, zin_t, zgd_t, znz_t, if_pos, if_neg, if_true, if_false, Option.bind_some]
    · simp (disch := omega) only [↓zN_eq, zL0, zL1, zL2, zL3, zL4, zL5, zL6, zL7, zL8, zL10, zL16, zL31, zL42, zL63, zL64, zL100, zL200, zL255, zL256, zL1000, zL12345, zL536870912, zI_le, zI_lt, zI_eq, zI_add, zI_sub, zI_mul, zI_neN, zI_Nne, zI_leN, zI_ltN, zI_Nle, zI_Nlt, zI_pred, zI_clamp, zI_div, zI_rem, zin_t, zgd_t, znz_t, if_pos, if_neg, if_true, if_false, Option.bind_some]
      exact ih (i + 1) m (by omega) (by omega)
theorem pX_placeOf_Heap {S : zSt} {n k : Nat} {g : Nat → Nat} (hz : S.1 30 = nI n) (hn : n ≤ 200) (hr : zRp (S.2 36) n g) (hg : zK64 g n) (hk : k < 64) : fX_X4_placeOf_Heap (nI k) S = some (if zpl g k n 0 < n then nI (zpl g k n 0) else zN) := by
  unfold fX_X4_placeOf_Heap
  exact pX_placeOf_Heap_2 hz hn hr hg hk n 0 1000 (by omega) (by omega)


/-- what a change of rows leaves -/
def zfr (S S' : zSt) (is rs : List Nat) : Prop := (∀ k, k ∉ is → S'.1 k = S.1 k) ∧ ∀ k, k ∉ rs → S'.2 k = S.2 k
theorem zfr_rf {S : zSt} {is rs : List Nat} : zfr S S is rs := ⟨fun _ _ => rfl, fun _ _ => rfl⟩
theorem zfr_tr {S S' S'' : zSt} {is rs : List Nat} (h1 : zfr S S' is rs) (h2 : zfr S' S'' is rs) : zfr S S'' is rs := ⟨fun k h => (h2.1 k h).trans (h1.1 k h), fun k h => (h2.2 k h).trans (h1.2 k h)⟩
theorem zfr_mono {S S' : zSt} {is rs is' rs' : List Nat} (h : zfr S S' is rs) (hi : ∀ k, k ∈ is → k ∈ is') (hr : ∀ k, k ∈ rs → k ∈ rs') : zfr S S' is' rs' := ⟨fun k h1 => h.1 k (fun h2 => h1 (hi k h2)), fun k h1 => h.2 k (fun h2 => h1 (hr k h2))⟩
theorem zfr_sI {S : zSt} {k : Nat} {v : Int32} {is rs : List Nat} (h : k ∈ is) : zfr S (zsI S k v) is rs := ⟨fun j hj => by show (if j = k then _ else S.1 j) = _; rw [if_neg (fun e => hj (by rw [e]; exact h))], fun _ _ => rfl⟩
theorem zfr_sR {S : zSt} {k i : Nat} {v : Int32} {is rs : List Nat} (h : k ∈ rs) : zfr S (zsR S k i v) is rs := ⟨fun _ _ => rfl, fun j hj => by show (if j = k then _ else S.2 j) = _; rw [if_neg (fun e => hj (by rw [e]; exact h))]⟩
theorem zfr_sA {S : zSt} {k : Nat} {f : Nat → Int32} {is rs : List Nat} (h : k ∈ rs) : zfr S (zsA S k f) is rs := ⟨fun _ _ => rfl, fun j hj => by show (if j = k then _ else S.2 j) = _; rw [if_neg (fun e => hj (by rw [e]; exact h))]⟩
theorem zcg_t {a b c : Nat} (h1 : a + c ≤ 200) (h2 : b + c ≤ 200) : zcg (nI a) (nI b) (nI c) = true := decide_eq_true (by
  rw [zI_clamp (by omega), zI_clamp (by omega), zI_clamp (by omega)]
  exact ⟨nI_pos (by omega), nI_pos (by omega), nI_pos (by omega), h1, h2⟩)
/-- insert into the line of Row -/
theorem pX_insert_Row {S : zSt} {n p k : Nat} {g : Nat → Nat} (hz : S.1 20 = nI n) (hn : n < 200) (hr : zRp (S.2 33) n g) (hp : p ≤ n) : ∃ S', fX_X4_insert_Row (nI p) (nI k) S = some S' ∧ S'.1 20 = nI (n + 1) ∧ zRp (S'.2 33) (n + 1) (zins g p k) ∧ zfr S S' [20] [33] := by
  refine ⟨zsI (zsR (zcp S 33 33 (nI p) (nI (p + 1)) (nI (n - p))) 33 p (nI k)) 20 (nI (n + 1)), ?_, ?_, ?_, ?_, ?_⟩
  · simp (disch := omega) only [fX_X4_insert_Row, hz, zcg_t, ↓zN_eq, zL0, zL1, zL2, zL3, zL4, zL5, zL6, zL7, zL8, zL10, zL16, zL31, zL42, zL63, zL64, zL100, zL200, zL255, zL256, zL1000, zL12345, zL536870912, zI_le, zI_lt, zI_eq, zI_add, zI_sub, zI_mul, zI_neN, zI_Nne, zI_leN, zI_ltN, zI_Nle, zI_Nlt, zI_pred, zI_clamp, zI_div, zI_rem, zin_t, zgd_t, znz_t, if_pos, if_neg, if_true, if_false, Option.bind_some]
  · rfl
  · intro j hj
    show upd (va_cpy (S.2 33) (S.2 33) (nI p).toNatClampNeg (nI (p + 1)).toNatClampNeg (nI (n - p)).toNatClampNeg) p (nI k) j = _
    rw [zI_clamp (by omega), zI_clamp (by omega), zI_clamp (by omega)]
    unfold zins
    by_cases h1 : j = p
    · subst h1; rw [pk_us, if_neg (by omega), if_pos rfl]
    · rw [pk_un h1]
      by_cases h2 : j < p
      · rw [pk_cpy_out (by omega), if_pos h2]; exact hr j (by omega)
      · rw [pk_cpy_in (by omega) (by omega), if_neg h2, if_neg h1, hr _ (by omega)]; congr 2; omega
  · intro j hj; show (if j = 20 then _ else S.1 j) = _; rw [if_neg (fun e => hj (by rw [e]; exact List.mem_cons_self))]
  · intro j hj; show (if j = 33 then _ else (if j = 33 then _ else S.2 j)) = _; rw [if_neg (fun e => hj (by rw [e]; exact List.mem_cons_self)), if_neg (fun e => hj (by rw [e]; exact List.mem_cons_self))]

/-- insert into the line of Sorted -/
theorem pX_insert_Sorted {S : zSt} {n p k : Nat} {g : Nat → Nat} (hz : S.1 23 = nI n) (hn : n < 200) (hr : zRp (S.2 34) n g) (hp : p ≤ n) : ∃ S', fX_X4_insert_Sorted (nI p) (nI k) S = some S' ∧ S'.1 23 = nI (n + 1) ∧ zRp (S'.2 34) (n + 1) (zins g p k) ∧ zfr S S' [23] [34] := by
  refine ⟨zsI (zsR (zcp S 34 34 (nI p) (nI (p + 1)) (nI (n - p))) 34 p (nI k)) 23 (nI (n + 1)), ?_, ?_, ?_, ?_, ?_⟩
  · simp (disch := omega) only [fX_X4_insert_Sorted, hz, zcg_t, ↓zN_eq, zL0, zL1, zL2, zL3, zL4, zL5, zL6, zL7, zL8, zL10, zL16, zL31, zL42, zL63, zL64, zL100, zL200, zL255, zL256, zL1000, zL12345, zL536870912, zI_le, zI_lt, zI_eq, zI_add, zI_sub, zI_mul, zI_neN, zI_Nne, zI_leN, zI_ltN, zI_Nle, zI_Nlt, zI_pred, zI_clamp, zI_div, zI_rem, zin_t, zgd_t, znz_t, if_pos, if_neg, if_true, if_false, Option.bind_some]
  · rfl
  · intro j hj
    show upd (va_cpy (S.2 34) (S.2 34) (nI p).toNatClampNeg (nI (p + 1)).toNatClampNeg (nI (n - p)).toNatClampNeg) p (nI k) j = _
    rw [zI_clamp (by omega), zI_clamp (by omega), zI_clamp (by omega)]
    unfold zins
    by_cases h1 : j = p
    · subst h1; rw [pk_us, if_neg (by omega), if_pos rfl]
    · rw [pk_un h1]
      by_cases h2 : j < p
      · rw [pk_cpy_out (by omega), if_pos h2]; exact hr j (by omega)
      · rw [pk_cpy_in (by omega) (by omega), if_neg h2, if_neg h1, hr _ (by omega)]; congr 2; omega
  · intro j hj; show (if j = 23 then _ else S.1 j) = _; rw [if_neg (fun e => hj (by rw [e]; exact List.mem_cons_self))]
  · intro j hj; show (if j = 34 then _ else (if j = 34 then _ else S.2 j)) = _; rw [if_neg (fun e => hj (by rw [e]; exact List.mem_cons_self)), if_neg (fun e => hj (by rw [e]; exact List.mem_cons_self))]

/-- insert into the line of Hash -/
theorem pX_insert_Hash {S : zSt} {n p k : Nat} {g : Nat → Nat} (hz : S.1 27 = nI n) (hn : n < 200) (hr : zRp (S.2 35) n g) (hp : p ≤ n) : ∃ S', fX_X4_insert_Hash (nI p) (nI k) S = some S' ∧ S'.1 27 = nI (n + 1) ∧ zRp (S'.2 35) (n + 1) (zins g p k) ∧ zfr S S' [27] [35] := by
  refine ⟨zsI (zsR (zcp S 35 35 (nI p) (nI (p + 1)) (nI (n - p))) 35 p (nI k)) 27 (nI (n + 1)), ?_, ?_, ?_, ?_, ?_⟩
  · simp (disch := omega) only [fX_X4_insert_Hash, hz, zcg_t, ↓zN_eq, zL0, zL1, zL2, zL3, zL4, zL5, zL6, zL7, zL8, zL10, zL16, zL31, zL42, zL63, zL64, zL100, zL200, zL255, zL256, zL1000, zL12345, zL536870912, zI_le, zI_lt, zI_eq, zI_add, zI_sub, zI_mul, zI_neN, zI_Nne, zI_leN, zI_ltN, zI_Nle, zI_Nlt, zI_pred, zI_clamp, zI_div, zI_rem, zin_t, zgd_t, znz_t, if_pos, if_neg, if_true, if_false, Option.bind_some]
  · rfl
  · intro j hj
    show upd (va_cpy (S.2 35) (S.2 35) (nI p).toNatClampNeg (nI (p + 1)).toNatClampNeg (nI (n - p)).toNatClampNeg) p (nI k) j = _
    rw [zI_clamp (by omega), zI_clamp (by omega), zI_clamp (by omega)]
    unfold zins
    by_cases h1 : j = p
    · subst h1; rw [pk_us, if_neg (by omega), if_pos rfl]
    · rw [pk_un h1]
      by_cases h2 : j < p
      · rw [pk_cpy_out (by omega), if_pos h2]; exact hr j (by omega)
      · rw [pk_cpy_in (by omega) (by omega), if_neg h2, if_neg h1, hr _ (by omega)]; congr 2; omega
  · intro j hj; show (if j = 27 then _ else S.1 j) = _; rw [if_neg (fun e => hj (by rw [e]; exact List.mem_cons_self))]
  · intro j hj; show (if j = 35 then _ else (if j = 35 then _ else S.2 j)) = _; rw [if_neg (fun e => hj (by rw [e]; exact List.mem_cons_self)), if_neg (fun e => hj (by rw [e]; exact List.mem_cons_self))]

/-- insert into the line of Heap -/
theorem pX_insert_Heap {S : zSt} {n p k : Nat} {g : Nat → Nat} (hz : S.1 30 = nI n) (hn : n < 200) (hr : zRp (S.2 36) n g) (hp : p ≤ n) : ∃ S', fX_X4_insert_Heap (nI p) (nI k) S = some S' ∧ S'.1 30 = nI (n + 1) ∧ zRp (S'.2 36) (n + 1) (zins g p k) ∧ zfr S S' [30] [36] := by
  refine ⟨zsI (zsR (zcp S 36 36 (nI p) (nI (p + 1)) (nI (n - p))) 36 p (nI k)) 30 (nI (n + 1)), ?_, ?_, ?_, ?_, ?_⟩
  · simp (disch := omega) only [fX_X4_insert_Heap, hz, zcg_t, ↓zN_eq, zL0, zL1, zL2, zL3, zL4, zL5, zL6, zL7, zL8, zL10, zL16, zL31, zL42, zL63, zL64, zL100, zL200, zL255, zL256, zL1000, zL12345, zL536870912, zI_le, zI_lt, zI_eq, zI_add, zI_sub, zI_mul, zI_neN, zI_Nne, zI_leN, zI_ltN, zI_Nle, zI_Nlt, zI_pred, zI_clamp, zI_div, zI_rem, zin_t, zgd_t, znz_t, if_pos, if_neg, if_true, if_false, Option.bind_some]
  · rfl
  · intro j hj
    show upd (va_cpy (S.2 36) (S.2 36) (nI p).toNatClampNeg (nI (p + 1)).toNatClampNeg (nI (n - p)).toNatClampNeg) p (nI k) j = _
    rw [zI_clamp (by omega), zI_clamp (by omega), zI_clamp (by omega)]
    unfold zins
    by_cases h1 : j = p
    · subst h1; rw [pk_us, if_neg (by omega), if_pos rfl]
    · rw [pk_un h1]
      by_cases h2 : j < p
      · rw [pk_cpy_out (by omega), if_pos h2]; exact hr j (by omega)
      · rw [pk_cpy_in (by omega) (by omega), if_neg h2, if_neg h1, hr _ (by omega)]; congr 2; omega
  · intro j hj; show (if j = 30 then _ else S.1 j) = _; rw [if_neg (fun e => hj (by rw [e]; exact List.mem_cons_self))]
  · intro j hj; show (if j = 36 then _ else (if j = 36 then _ else S.2 j)) = _; rw [if_neg (fun e => hj (by rw [e]; exact List.mem_cons_self)), if_neg (fun e => hj (by rw [e]; exact List.mem_cons_self))]

theorem pX_remove_Row {S : zSt} {n p : Nat} {g : Nat → Nat} (hz : S.1 20 = nI n) (hn : n ≤ 200) (hr : zRp (S.2 33) n g) (hp : p < n) : ∃ S', fX_X4_remove_Row (nI p) S = some S' ∧ S'.1 20 = nI (n - 1) ∧ zRp (S'.2 33) (n - 1) (zdel g p) ∧ zfr S S' [20] [33] := by
  refine ⟨zsI (zcp S 33 33 (nI (p + 1)) (nI p) (nI (n - p - 1))) 20 (nI (n - 1)), ?_, ?_, ?_, ?_, ?_⟩
  · simp (disch := omega) only [fX_X4_remove_Row, hz, zcg_t, ↓zN_eq, zL0, zL1, zL2, zL3, zL4, zL5, zL6, zL7, zL8, zL10, zL16, zL31, zL42, zL63, zL64, zL100, zL200, zL255, zL256, zL1000, zL12345, zL536870912, zI_le, zI_lt, zI_eq, zI_add, zI_sub, zI_mul, zI_neN, zI_Nne, zI_leN, zI_ltN, zI_Nle, zI_Nlt, zI_pred, zI_clamp, zI_div, zI_rem, zin_t, zgd_t, znz_t, if_pos, if_neg, if_true, if_false, Option.bind_some]
  · rfl
  · intro j hj
    show va_cpy (S.2 33) (S.2 33) (nI (p + 1)).toNatClampNeg (nI p).toNatClampNeg (nI (n - p - 1)).toNatClampNeg j = _
    rw [zI_clamp (by omega), zI_clamp (by omega), zI_clamp (by omega)]
    unfold zdel
    by_cases h2 : j < p
    · rw [pk_cpy_out (by omega), if_pos h2]; exact hr j (by omega)
    · rw [pk_cpy_in (by omega) (by omega), if_neg h2, hr _ (by omega)]; congr 2; omega
  · intro j hj; show (if j = 20 then _ else S.1 j) = _; rw [if_neg (fun e => hj (by rw [e]; exact List.mem_cons_self))]
  · intro j hj; show (if j = 33 then _ else S.2 j) = _; rw [if_neg (fun e => hj (by rw [e]; exact List.mem_cons_self))]

theorem pX_remove_Sorted {S : zSt} {n p : Nat} {g : Nat → Nat} (hz : S.1 23 = nI n) (hn : n ≤ 200) (hr : zRp (S.2 34) n g) (hp : p < n) : ∃ S', fX_X4_remove_Sorted (nI p) S = some S' ∧ S'.1 23 = nI (n - 1) ∧ zRp (S'.2 34) (n - 1) (zdel g p) ∧ zfr S S' [23] [34] := by
  refine ⟨zsI (zcp S 34 34 (nI (p + 1)) (nI p) (nI (n - p - 1))) 23 (nI (n - 1)), ?_, ?_, ?_, ?_, ?_⟩
  · simp (disch := omega) only [fX_X4_remove_Sorted, hz, zcg_t, ↓zN_eq, zL0, zL1, zL2, zL3, zL4, zL5, zL6, zL7, zL8, zL10, zL16, zL31, zL42, zL63, zL64, zL100, zL200, zL255, zL256, zL1000, zL12345, zL536870912, zI_le, zI_lt, zI_eq, zI_add, zI_sub, zI_mul, zI_neN, zI_Nne, zI_leN, zI_ltN, zI_Nle, zI_Nlt, zI_pred, zI_clamp, zI_div, zI_rem, zin_t, zgd_t, znz_t, if_pos, if_neg, if_true, if_false, Option.bind_some]
  · rfl
  · intro j hj
    show va_cpy (S.2 34) (S.2 34) (nI (p + 1)).toNatClampNeg (nI p).toNatClampNeg (nI (n - p - 1)).toNatClampNeg j = _
    rw [zI_clamp (by omega), zI_clamp (by omega), zI_clamp (by omega)]
    unfold zdel
    by_cases h2 : j < p
    · rw [pk_cpy_out (by omega), if_pos h2]; exact hr j (by omega)
    · rw [pk_cpy_in (by omega) (by omega), if_neg h2, hr _ (by omega)]; congr 2; omega
  · intro j hj; show (if j = 23 then _ else S.1 j) = _; rw [if_neg (fun e => hj (by rw [e]; exact List.mem_cons_self))]
  · intro j hj; show (if j = 34 then _ else S.2 j) = _; rw [if_neg (fun e => hj (by rw [e]; exact List.mem_cons_self))]

theorem pX_remove_Hash {S : zSt} {n p : Nat} {g : Nat → Nat} (hz : S.1 27 = nI n) (hn : n ≤ 200) (hr : zRp (S.2 35) n g) (hp : p < n) : ∃ S', fX_X4_remove_Hash (nI p) S = some S' ∧ S'.1 27 = nI (n - 1) ∧ zRp (S'.2 35) (n - 1) (zdel g p) ∧ zfr S S' [27] [35] := by
  refine ⟨zsI (zcp S 35 35 (nI (p + 1)) (nI p) (nI (n - p - 1))) 27 (nI (n - 1)), ?_, ?_, ?_, ?_, ?_⟩
  · simp (disch := omega) only [fX_X4_remove_Hash, hz, zcg_t, ↓zN_eq, zL0, zL1, zL2, zL3, zL4, zL5, zL6, zL7, zL8, zL10, zL16, zL31, zL42, zL63, zL64, zL100, zL200, zL255, zL256, zL1000, zL12345, zL536870912, zI_le, zI_lt, zI_eq, zI_add, zI_sub, zI_mul, zI_neN, zI_Nne, zI_leN, zI_ltN, zI_Nle, zI_Nlt, zI_pred, zI_clamp, zI_div, zI_rem, zin_t, zgd_t, znz_t, if_pos, if_neg, if_true, if_false, Option.bind_some]
  · rfl
  · intro j hj
    show va_cpy (S.2 35) (S.2 35) (nI (p + 1)).toNatClampNeg (nI p).toNatClampNeg (nI (n - p - 1)).toNatClampNeg j = _
    rw [zI_clamp (by omega), zI_clamp (by omega), zI_clamp (by omega)]
    unfold zdel
    by_cases h2 : j < p
    · rw [pk_cpy_out (by omega), if_pos h2]; exact hr j (by omega)
    · rw [pk_cpy_in (by omega) (by omega), if_neg h2, hr _ (by omega)]; congr 2; omega
  · intro j hj; show (if j = 27 then _ else S.1 j) = _; rw [if_neg (fun e => hj (by rw [e]; exact List.mem_cons_self))]
  · intro j hj; show (if j = 35 then _ else S.2 j) = _; rw [if_neg (fun e => hj (by rw [e]; exact List.mem_cons_self))]

theorem pX_grow_Row {S : zSt} {n c : Nat} (hz : S.1 20 = nI n) (hw : S.1 19 = nI c) (hn : n ≤ 200) (hc : c < 1000) : ∃ S', fX_X4_growIfFull_Row S = some (nI (if n = c then n else 0), S') ∧ S'.1 19 = nI (if n = c then c * 2 else c) ∧ zfr S S' [19] [] := by
  by_cases h : n = c
  · refine ⟨zsI S 19 (nI (c * 2)), ?_, ?_, ?_, ?_⟩
    · simp (disch := omega) only [fX_X4_growIfFull_Row, hz, hw, ↓zN_eq, zL0, zL1, zL2, zL3, zL4, zL5, zL6, zL7, zL8, zL10, zL16, zL31, zL42, zL63, zL64, zL100, zL200, zL255, zL256, zL1000, zL12345, zL536870912, zI_le, zI_lt, zI_eq, zI_add, zI_sub, zI_mul, zI_neN, zI_Nne, zI_leN, zI_ltN, zI_Nle, zI_Nlt, zI_pred, zI_clamp, zI_div, zI_rem, zin_t, zgd_t, znz_t, if_pos, if_neg, if_true, if_false, Option.bind_some]
    · rw [if_pos h]; rfl
    · intro j hj; show (if j = 19 then _ else S.1 j) = _; rw [if_neg (fun e => hj (by rw [e]; exact List.mem_cons_self))]
    · intro j _; rfl
  · refine ⟨S, ?_, ?_, zfr_rf⟩
    · simp (disch := omega) only [fX_X4_growIfFull_Row, hz, hw, ↓zN_eq, zL0, zL1, zL2, zL3, zL4, zL5, zL6, zL7, zL8, zL10, zL16, zL31, zL42, zL63, zL64, zL100, zL200, zL255, zL256, zL1000, zL12345, zL536870912, zI_le, zI_lt, zI_eq, zI_add, zI_sub, zI_mul, zI_neN, zI_Nne, zI_leN, zI_ltN, zI_Nle, zI_Nlt, zI_pred, zI_clamp, zI_div, zI_rem, zin_t, zgd_t, znz_t, if_pos, if_neg, if_true, if_false, Option.bind_some]
    · rw [if_neg h, hw]

theorem pX_grow_Sorted {S : zSt} {n c : Nat} (hz : S.1 23 = nI n) (hw : S.1 22 = nI c) (hn : n ≤ 200) (hc : c < 1000) : ∃ S', fX_X4_growIfFull_Sorted S = some (nI (if n = c then n else 0), S') ∧ S'.1 22 = nI (if n = c then c * 2 else c) ∧ zfr S S' [22] [] := by
  by_cases h : n = c
  · refine ⟨zsI S 22 (nI (c * 2)), ?_, ?_, ?_, ?_⟩
    · simp (disch := omega) only [fX_X4_growIfFull_Sorted, hz, hw, ↓zN_eq, zL0, zL1, zL2, zL3, zL4, zL5, zL6, zL7, zL8, zL10, zL16, zL31, zL42, zL63, zL64, zL100, zL200, zL255, zL256, zL1000, zL12345, zL536870912, zI_le, zI_lt, zI_eq, zI_add, zI_sub, zI_mul, zI_neN, zI_Nne, zI_leN, zI_ltN, zI_Nle, zI_Nlt, zI_pred, zI_clamp, zI_div, zI_rem, zin_t, zgd_t, znz_t, if_pos, if_neg, if_true, if_false, Option.bind_some]
    · rw [if_pos h]; rfl
    · intro j hj; show (if j = 22 then _ else S.1 j) = _; rw [if_neg (fun e => hj (by rw [e]; exact List.mem_cons_self))]
    · intro j _; rfl
  · refine ⟨S, ?_, ?_, zfr_rf⟩
    · simp (disch := omega) only [fX_X4_growIfFull_Sorted, hz, hw, ↓zN_eq, zL0, zL1, zL2, zL3, zL4, zL5, zL6, zL7, zL8, zL10, zL16, zL31, zL42, zL63, zL64, zL100, zL200, zL255, zL256, zL1000, zL12345, zL536870912, zI_le, zI_lt, zI_eq, zI_add, zI_sub, zI_mul, zI_neN, zI_Nne, zI_leN, zI_ltN, zI_Nle, zI_Nlt, zI_pred, zI_clamp, zI_div, zI_rem, zin_t, zgd_t, znz_t, if_pos, if_neg, if_true, if_false, Option.bind_some]
    · rw [if_neg h, hw]

theorem pX_grow_Heap {S : zSt} {n c : Nat} (hz : S.1 30 = nI n) (hw : S.1 29 = nI c) (hn : n ≤ 200) (hc : c < 1000) : ∃ S', fX_X4_growIfFull_Heap S = some (nI (if n = c then n else 0), S') ∧ S'.1 29 = nI (if n = c then c * 2 else c) ∧ zfr S S' [29] [] := by
  by_cases h : n = c
  · refine ⟨zsI S 29 (nI (c * 2)), ?_, ?_, ?_, ?_⟩
    · simp (disch := omega) only [fX_X4_growIfFull_Heap, hz, hw, ↓zN_eq, zL0, zL1, zL2, zL3, zL4, zL5, zL6, zL7, zL8, zL10, zL16, zL31, zL42, zL63, zL64, zL100, zL200, zL255, zL256, zL1000, zL12345, zL536870912, zI_le, zI_lt, zI_eq, zI_add, zI_sub, zI_mul, zI_neN, zI_Nne, zI_leN, zI_ltN, zI_Nle, zI_Nlt, zI_pred, zI_clamp, zI_div, zI_rem, zin_t, zgd_t, znz_t, if_pos, if_neg, if_true, if_false, Option.bind_some]
    · rw [if_pos h]; rfl
    · intro j hj; show (if j = 29 then _ else S.1 j) = _; rw [if_neg (fun e => hj (by rw [e]; exact List.mem_cons_self))]
    · intro j _; rfl
  · refine ⟨S, ?_, ?_, zfr_rf⟩
    · simp (disch := omega) only [fX_X4_growIfFull_Heap, hz, hw, ↓zN_eq, zL0, zL1, zL2, zL3, zL4, zL5, zL6, zL7, zL8, zL10, zL16, zL31, zL42, zL63, zL64, zL100, zL200, zL255, zL256, zL1000, zL12345, zL536870912, zI_le, zI_lt, zI_eq, zI_add, zI_sub, zI_mul, zI_neN, zI_Nne, zI_leN, zI_ltN, zI_Nle, zI_Nlt, zI_pred, zI_clamp, zI_div, zI_rem, zin_t, zgd_t, znz_t, if_pos, if_neg, if_true, if_false, Option.bind_some]
    · rw [if_neg h, hw]


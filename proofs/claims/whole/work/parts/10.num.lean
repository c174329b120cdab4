/-! numbers: nI n, -1, and what the guards say of them -/
def zN : Int32 := -1
theorem zN_eq : (-1 : Int32) = zN := (Eq.refl zN).symm.symm
theorem zL0 : (0 : Int32) = nI 0 := (Eq.refl (nI 0)).symm.symm

theorem zL1 : (1 : Int32) = nI 1 := (Eq.refl (nI 1)).symm.symm

theorem zL2 : (2 : Int32) = nI 2 := (Eq.refl (nI 2)).symm.symm

theorem zL3 : (3 : Int32) = nI 3 := (Eq.refl (nI 3)).symm.symm

theorem zL4 : (4 : Int32) = nI 4 := (Eq.refl (nI 4)).symm.symm

theorem zL5 : (5 : Int32) = nI 5 := (Eq.refl (nI 5)).symm.symm

theorem zL6 : (6 : Int32) = nI 6 := (Eq.refl (nI 6)).symm.symm

theorem zL7 : (7 : Int32) = nI 7 := (Eq.refl (nI 7)).symm.symm

theorem zL8 : (8 : Int32) = nI 8 := (Eq.refl (nI 8)).symm.symm

theorem zL10 : (10 : Int32) = nI 10 := (Eq.refl (nI 10)).symm.symm

theorem zL16 : (16 : Int32) = nI 16 := (Eq.refl (nI 16)).symm.symm

theorem zL31 : (31 : Int32) = nI 31 := (Eq.refl (nI 31)).symm.symm

theorem zL42 : (42 : Int32) = nI 42 := (Eq.refl (nI 42)).symm.symm

theorem zL63 : (63 : Int32) = nI 63 := (Eq.refl (nI 63)).symm.symm

theorem zL64 : (64 : Int32) = nI 64 := (Eq.refl (nI 64)).symm.symm

theorem zL100 : (100 : Int32) = nI 100 := (Eq.refl (nI 100)).symm.symm

theorem zL200 : (200 : Int32) = nI 200 := (Eq.refl (nI 200)).symm.symm

theorem zL255 : (255 : Int32) = nI 255 := (Eq.refl (nI 255)).symm.symm

theorem zL256 : (256 : Int32) = nI 256 := (Eq.refl (nI 256)).symm.symm

theorem zL1000 : (1000 : Int32) = nI 1000 := (Eq.refl (nI 1000)).symm.symm

theorem zL12345 : (12345 : Int32) = nI 12345 := (Eq.refl (nI 12345)).symm.symm

theorem zL536870912 : (536870912 : Int32) = nI 536870912 := (Eq.refl (nI 536870912)).symm.symm

theorem zI_le {a b : Nat} (ha : a < 2147483648) (hb : b < 2147483648) : (nI a ≤ nI b) = (a ≤ b) := propext (nI_leI ha hb)
theorem zI_lt {a b : Nat} (ha : a < 2147483648) (hb : b < 2147483648) : (nI a < nI b) = (a < b) := propext (nI_ltI ha hb)
theorem zI_eq {a b : Nat} (ha : a < 2147483648) (hb : b < 2147483648) : (nI a = nI b) = (a = b) := propext (nI_eq ha hb)
theorem zI_add (a b : Nat) : nI a + nI b = nI (a + b) := nI_add a b
theorem zI_sub {a b : Nat} (h : b ≤ a) : nI a - nI b = nI (a - b) := pk_sub h
theorem zI_mul (a b : Nat) : nI a * nI b = nI (a * b) := pk_mul a b
theorem zI_clamp {a : Nat} (ha : a < 2147483648) : (nI a).toNatClampNeg = a := nI_clamp ha
theorem zI_div {a d : Nat} (ha : a < 2147483648) (h0 : 0 < d) (hd : d < 2147483648) : nI a / nI d = nI (a / d) := pk_div ha h0 hd
theorem zI_rem {a d : Nat} (ha : a < 2147483648) (h0 : 0 < d) (hd : d < 2147483648) : zrem (nI a) (nI d) = nI (a % d) := pk_rem ha h0 hd
theorem zN_int : zN.toInt = -1 := rfl
theorem zI_neN {a : Nat} (ha : a < 2147483648) : (nI a = zN) = False := eq_false fun e => by
  have h := congrArg Int32.toInt e
  rw [nI_toInt ha, zN_int] at h
  omega
theorem zI_Nne {a : Nat} (ha : a < 2147483648) : (zN = nI a) = False := eq_false fun e => by
  have h := congrArg Int32.toInt e
  rw [nI_toInt ha, zN_int] at h
  omega
theorem zI_leN {a : Nat} (ha : a < 2147483648) : (nI a ≤ zN) = False := eq_false fun e => by
  have h := Int32.le_iff_toInt_le.mp e
  rw [nI_toInt ha, zN_int] at h
  omega
theorem zI_ltN {a : Nat} (ha : a < 2147483648) : (nI a < zN) = False := eq_false fun e => by
  have h := Int32.lt_iff_toInt_lt.mp e
  rw [nI_toInt ha, zN_int] at h
  omega
theorem zI_Nle {a : Nat} (ha : a < 2147483648) : (zN ≤ nI a) = True := eq_true (Int32.le_iff_toInt_le.mpr (by rw [nI_toInt ha, zN_int]; omega))
theorem zI_Nlt {a : Nat} (ha : a < 2147483648) : (zN < nI a) = True := eq_true (Int32.lt_iff_toInt_lt.mpr (by rw [nI_toInt ha, zN_int]; omega))
theorem zin_t {i N : Nat} (h : i < N) (hN : N < 2147483648) : zin (nI i) N = true := decide_eq_true (vp_in_nI h hN)
theorem zgd_t {α : Type} {x : Option α} : zgd true x = x := by unfold zgd; exact if_pos (Eq.refl true)
theorem znz_t {a : Nat} (h0 : 0 < a) (ha : a < 2147483648) : znz (nI a) = true := decide_eq_true (fun e => by rw [zL0] at e; rw [zI_eq ha (by omega)] at e; omega)
theorem zof {x : Int32} (h : 0 ≤ x.toInt) : ∃ a : Nat, a < 2147483648 ∧ x = nI a := nI_of (fun h2 => by
  have := Int32.lt_iff_toInt_lt.mp h2
  have e : (0 : Int32).toInt = 0 := rfl
  omega)
/-- reading what was written -/
theorem zsI_1 (S : zSt) (k : Nat) (v : Int32) (j : Nat) : (zsI S k v).1 j = if j = k then v else S.1 j := (Eq.refl _).symm.symm
theorem zsI_2 (S : zSt) (k : Nat) (v : Int32) (j : Nat) : (zsI S k v).2 j = S.2 j := (Eq.refl _).symm.symm
theorem zsR_1 (S : zSt) (k i : Nat) (v : Int32) (j : Nat) : (zsR S k i v).1 j = S.1 j := (Eq.refl _).symm.symm
theorem zsR_2 (S : zSt) (k i : Nat) (v : Int32) (j : Nat) : (zsR S k i v).2 j = if j = k then upd (S.2 k) i v else S.2 j := (Eq.refl _).symm.symm
theorem zsA_1 (S : zSt) (k : Nat) (f : Nat → Int32) (j : Nat) : (zsA S k f).1 j = S.1 j := (Eq.refl _).symm.symm
theorem zsA_2 (S : zSt) (k : Nat) (f : Nat → Int32) (j : Nat) : (zsA S k f).2 j = if j = k then f else S.2 j := (Eq.refl _).symm.symm
theorem zI_pred {a : Nat} (h : 0 < a) : nI a + zN = nI (a - 1) := sb_m1 h

/-! Long.bitCount counts the bits -/
def n64 (x : Int64) : Nat := x.toUInt64.toNat
theorem n64_lt (x : Int64) : n64 x < 18446744073709551616 := UInt64.toNat_lt x.toUInt64
theorem mk4 : mk 4 1 32 = 6148914691236517205 := by decide
theorem mk16 : mk 16 3 16 = 3689348814741910323 := by decide
theorem mk256 : mk 256 15 8 = 1085102592571150095 := by decide
theorem u_shr (u s : UInt64) (k : Nat) (hs : s.toNat % 64 = k) : (u >>> s).toNat = u.toNat / 2 ^ k := by
  rw [UInt64.toNat_shiftRight, hs, Nat.shiftRight_eq_div_pow]
theorem bc1_n (i : Int64) : n64 (bc1 i) = f1 32 (n64 i) := by
  unfold n64 bc1 f1
  rw [mk4]
  have e : (i - ((i.toUInt64 >>> ((1 : Int32).toInt64.toUInt64 &&& Int64.toUInt64 63)).toInt64 &&& 6148914691236517205)).toUInt64 = i.toUInt64 - ((i.toUInt64 >>> ((1 : Int32).toInt64.toUInt64 &&& Int64.toUInt64 63)) &&& 6148914691236517205) := rfl
  rw [e]
  have h1 : ((i.toUInt64 >>> ((1 : Int32).toInt64.toUInt64 &&& Int64.toUInt64 63)) &&& 6148914691236517205).toNat = i.toUInt64.toNat / 2 &&& 6148914691236517205 := by
    rw [UInt64.toNat_and, u_shr _ _ 1 (by decide)]; rfl
  have h2 : (i.toUInt64.toNat / 2 &&& 6148914691236517205) ≤ i.toUInt64.toNat / 2 := Nat.and_le_left
  rw [UInt64.toNat_sub_of_le _ _ (by rw [UInt64.le_iff_toNat_le, h1]; omega), h1]
theorem bc2_n (i : Int64) : n64 (bc2 i) = f2 16 (n64 i) ∧ n64 (bc2 i) ≤ 7378697629483820646 := by
  unfold n64 bc2 f2
  rw [mk16]
  have e : ((i &&& 3689348814741910323) + ((i.toUInt64 >>> ((2 : Int32).toInt64.toUInt64 &&& Int64.toUInt64 63)).toInt64 &&& 3689348814741910323)).toUInt64 = (i.toUInt64 &&& 3689348814741910323) + ((i.toUInt64 >>> ((2 : Int32).toInt64.toUInt64 &&& Int64.toUInt64 63)) &&& 3689348814741910323) := rfl
  rw [e]
  have h1 : ((i.toUInt64 >>> ((2 : Int32).toInt64.toUInt64 &&& Int64.toUInt64 63)) &&& 3689348814741910323).toNat = i.toUInt64.toNat / 4 &&& 3689348814741910323 := by
    rw [UInt64.toNat_and, u_shr _ _ 2 (by decide)]; rfl
  have h2 : (i.toUInt64 &&& 3689348814741910323).toNat = i.toUInt64.toNat &&& 3689348814741910323 := by rw [UInt64.toNat_and]; rfl
  have h3 : (i.toUInt64.toNat / 4 &&& 3689348814741910323) ≤ 3689348814741910323 := Nat.and_le_right
  have h4 : (i.toUInt64.toNat &&& 3689348814741910323) ≤ 3689348814741910323 := Nat.and_le_right
  rw [UInt64.toNat_add, h1, h2, Nat.mod_eq_of_lt (by omega)]
  exact ⟨rfl, by omega⟩
theorem bc3_n (i : Int64) (h : n64 i ≤ 7378697629483820646) : n64 (bc3 i) = f3 8 (n64 i) ∧ n64 (bc3 i) ≤ 1085102592571150095 := by
  unfold n64 at h
  unfold n64 bc3 f3
  rw [mk256]
  have e : ((i + (i.toUInt64 >>> ((4 : Int32).toInt64.toUInt64 &&& Int64.toUInt64 63)).toInt64) &&& 1085102592571150095).toUInt64 = (i.toUInt64 + (i.toUInt64 >>> ((4 : Int32).toInt64.toUInt64 &&& Int64.toUInt64 63))) &&& 1085102592571150095 := rfl
  rw [e]
  have h1 : (i.toUInt64 >>> ((4 : Int32).toInt64.toUInt64 &&& Int64.toUInt64 63)).toNat = i.toUInt64.toNat / 16 := by
    rw [u_shr _ _ 4 (by decide)]
  have h3 : ((i.toUInt64.toNat + i.toUInt64.toNat / 16) &&& 1085102592571150095) ≤ 1085102592571150095 := Nat.and_le_right
  rw [UInt64.toNat_and, UInt64.toNat_add, h1, Nat.mod_eq_of_lt (by omega)]
  exact ⟨rfl, h3⟩
theorem bc4_n (i : Int64) (k : Int32) (d : Nat) (hk : (k.toInt64.toUInt64 &&& Int64.toUInt64 63).toNat % 64 = d) (h : n64 i + n64 i / 2 ^ d < 18446744073709551616) : n64 (bc4 k i) = n64 i + n64 i / 2 ^ d := by
  unfold n64 at h
  unfold n64 bc4
  have e : (i + (i.toUInt64 >>> (k.toInt64.toUInt64 &&& Int64.toUInt64 63)).toInt64).toUInt64 = i.toUInt64 + (i.toUInt64 >>> (k.toInt64.toUInt64 &&& Int64.toUInt64 63)) := rfl
  rw [e, UInt64.toNat_add, u_shr _ _ d hk, Nat.mod_eq_of_lt h]
theorem to32_and (x : Int64) : x.toInt32 &&& 127 = nI (n64 x % 128) := by
  apply Int32.toBitVec_inj.mp
  apply BitVec.eq_of_toNat_eq
  have h1 : (x.toInt32 &&& 127).toBitVec = x.toInt32.toBitVec &&& 127#32 := rfl
  have h2 : x.toInt32.toBitVec.toNat = n64 x % 4294967296 := by
    rw [Int64.toBitVec_toInt32, BitVec.signExtend_eq_setWidth_of_le _ (by decide), BitVec.toNat_setWidth]
    rfl
  have h3 : (nI (n64 x % 128)).toBitVec.toNat = n64 x % 128 := by
    show (BitVec.ofNat 32 (n64 x % 128)).toNat = _
    rw [BitVec.toNat_ofNat]
    omega
  rw [h1, BitVec.toNat_and, h2, h3]
  have h4 := Nat.and_two_pow_sub_one_eq_mod (n64 x % 4294967296) 7
  rw [show (2 : Nat) ^ 7 - 1 = 127 from rfl] at h4
  rw [show (127#32).toNat = 127 from rfl, h4]
  omega
theorem bcL_n (x : Int64) : bcL x = nI (pcN 64 (n64 x)) := by
  have a := bc1_n x
  have b := bc2_n (bc1 x)
  have c := bc3_n (bc2 (bc1 x)) b.2
  unfold bcL
  rw [to32_and]
  rw [← cnt_ds (n64_lt x), ← a, ← b.1, ← c.1]
  have hc := c.2
  generalize bc3 (bc2 (bc1 x)) = y at hc ⊢
  have d : n64 (bc4 8 y) = f4 (n64 y) := bc4_n y 8 8 (by decide) (by omega)
  have d1 : f4 (n64 y) ≤ 1089341274573850000 := by unfold f4; omega
  have e : n64 (bc4 16 (bc4 8 y)) = f5 (n64 (bc4 8 y)) := bc4_n _ 16 16 (by decide) (by omega)
  have e1 : f5 (n64 (bc4 8 y)) ≤ 1090000000000000000 := by unfold f5; omega
  have f : n64 (bc4 32 (bc4 16 (bc4 8 y))) = f6 (n64 (bc4 16 (bc4 8 y))) := bc4_n _ 32 32 (by decide) (by omega)
  rw [f, e, d]
/-- the bit p -/
def ib (x : Int64) (p : Nat) : Bool := (n64 x).testBit p
theorem pcN_sm : ∀ k x, nI (pcN k x) = sm (fun p => if x.testBit p then 1 else 0) k := by
  have key : ∀ k (g : Nat → Int32), sm g (k + 1) = g 0 + sm (fun p => g (p + 1)) k := by
    intro k g
    induction k with
    | zero => show sm g 0 + g 0 = g 0 + 0; unfold sm; grind
    | succ k ih =>
      rw [show sm g (k + 1 + 1) = sm g (k + 1) + g (k + 1) from rfl, ih, show sm (fun p => g (p + 1)) (k + 1) = sm (fun p => g (p + 1)) k + g (k + 1) from rfl]
      grind
  intro k
  induction k with
  | zero => intro x; rfl
  | succ k ih =>
    intro x
    rw [pcN_s, key, ← nI_add, ih]
    congr 1
    · rw [Nat.testBit_zero]
      rcases Nat.mod_two_eq_zero_or_one x with h | h <;> rw [h] <;> rfl
    · refine sm_congr k (fun p _ => ?_)
      rw [Nat.testBit_succ]
theorem bcL_sm (x : Int64) : bcL x = sm (fun p => if ib x p then 1 else 0) 64 := by
  rw [bcL_n, pcN_sm]
  rfl
theorem ib_0 (p : Nat) : ib 0 p = false := by
  show (0 : Nat).testBit p = false
  exact Nat.zero_testBit p
theorem ib_or (x y : Int64) (p : Nat) : ib (x ||| y) p = (ib x p || ib y p) := by
  unfold ib n64
  have e : (x ||| y).toUInt64 = x.toUInt64 ||| y.toUInt64 := rfl
  rw [e, UInt64.toNat_or, Nat.testBit_or]
theorem bit_n : ∀ t : Fin 64, n64 (1 <<< ((nI t.val).toInt64 &&& 63)) = 2 ^ t.val := by decide +kernel
theorem ib_bit {t : Nat} (ht : t < 64) (p : Nat) : ib (1 <<< ((nI t).toInt64 &&& 63)) p = decide (t = p) := by
  unfold ib
  rw [bit_n ⟨t, ht⟩, Nat.testBit_two_pow]
theorem shr_amt : ∀ t : Fin 64, (((nI t.val).toInt64 &&& 63).toBitVec.smod 64).toNat = t.val := by decide +kernel
theorem shr_bit (x : Int64) {t : Nat} (ht : t < 64) : lg_cmp (x >>> ((nI t).toInt64 &&& 63) &&& 1) 1 = 0 ↔ ib x t = true := by
  have h1 : (x >>> ((nI t).toInt64 &&& 63) &&& 1) = if ib x t then 1 else 0 := by
    apply Int64.toBitVec_inj.mp
    apply BitVec.eq_of_getLsbD_eq
    intro i hi
    have e1 : (x >>> ((nI t).toInt64 &&& 63) &&& 1).toBitVec = x.toBitVec.sshiftRight t &&& 1#64 := by
      rw [Int64.toBitVec_and, Int64.toBitVec_shiftRight, BitVec.sshiftRight', shr_amt ⟨t, ht⟩]
      rfl
    rw [e1, BitVec.getLsbD_and]
    by_cases h0 : i = 0
    · subst h0
      have e2 : (x.toBitVec.sshiftRight t).getLsbD 0 = ib x t := by
        rw [BitVec.getLsbD_sshiftRight]
        have : t + 0 < 64 := by omega
        simp [ht]
        rfl
      rw [e2]
      cases ib x t <;> rfl
    · have e3 : (1#64).getLsbD i = false := by
        rw [BitVec.getLsbD_one]
        simp [h0]
      rw [e3, Bool.and_false]
      split
      · exact e3.symm
      · show false = (0#64).getLsbD i
        rw [BitVec.getLsbD_zero]
  rw [h1]
  cases ib x t <;> decide
theorem mUb_sm (x : Int64) : ∀ k, k ≤ 64 → mUb x k = sm (fun p => if ib x p then 1 else 0) k := by
  intro k
  induction k with
  | zero => intro _; rfl
  | succ k ih =>
    intro hk
    unfold mUb sm
    rw [ih (by omega)]
    congr 1
    have := shr_bit x (t := k) (by omega)
    by_cases h : ib x k = true
    · rw [if_pos (this.mpr h), if_pos h]
    · rw [if_neg (fun z => h (this.mp z)), if_neg h]

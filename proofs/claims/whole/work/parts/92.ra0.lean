/-! COUNTING BITS -/
theorem and_step (x m c B : Nat) (s : Nat) (hB : B = 2 ^ s) (hc : c < B) : x &&& (c + B * m) = (x % B &&& c) + B * (x / B &&& m) := by
  subst hB
  have h1 : (x &&& (c + 2 ^ s * m)) % 2 ^ s = x % 2 ^ s &&& c := by
    rw [Nat.and_mod_two_pow, Nat.add_mul_mod_self_left, Nat.mod_eq_of_lt hc]
  have h2 : (x &&& (c + 2 ^ s * m)) / 2 ^ s = x / 2 ^ s &&& m := by
    rw [Nat.and_div_two_pow, Nat.add_mul_div_left _ _ (Nat.two_pow_pos s), Nat.div_eq_of_lt hc, Nat.zero_add]
  rw [← h1, ← h2, Nat.mod_add_div]
def pcN : Nat → Nat → Nat
  | 0, _ => 0
  | k + 1, x => x % 2 + pcN k (x / 2)
def dsN (B : Nat) : Nat → Nat → Nat
  | 0, _ => 0
  | k + 1, x => x % B + dsN B k (x / B)
def mk (B c : Nat) : Nat → Nat
  | 0 => 0
  | k + 1 => c + B * mk B c k
def dg (B b : Nat) : Nat → Nat → Prop
  | 0, x => x = 0
  | k + 1, x => x % B ≤ b ∧ dg B b k (x / B)
theorem pcN_s (k x : Nat) : pcN (k + 1) x = x % 2 + pcN k (x / 2) := rfl
theorem dsN_s (B k x : Nat) : dsN B (k + 1) x = x % B + dsN B k (x / B) := rfl
theorem mk_s (B c k : Nat) : mk B c (k + 1) = c + B * mk B c k := rfl
theorem dg_s (B b k x : Nat) : dg B b (k + 1) x = (x % B ≤ b ∧ dg B b k (x / B)) := rfl
theorem pcN_2 (k x : Nat) : pcN (2 * (k + 1)) x = x % 2 + x / 2 % 2 + pcN (2 * k) (x / 4) := by
  rw [show 2 * (k + 1) = 2 * k + 1 + 1 by omega, pcN_s, pcN_s, Nat.div_div_eq_div_mul]
  show x % 2 + (x / 2 % 2 + pcN (2 * k) (x / 4)) = _
  omega
def f1 (k x : Nat) : Nat := x - (x / 2 &&& mk 4 1 k)
theorem f1_s (k x : Nat) : f1 (k + 1) x = (x % 2 + x / 2 % 2) + 4 * f1 k (x / 4) := by
  unfold f1
  rw [mk_s, and_step (x / 2) _ 1 4 2 rfl (by decide)]
  have h1 : x / 2 % 4 &&& 1 = x / 2 % 2 := by
    rw [Nat.and_one_is_mod]; omega
  have h2 : x / 2 / 4 = x / 4 / 2 := by omega
  have h3 : (x / 4 / 2 &&& mk 4 1 k) ≤ x / 4 / 2 := Nat.and_le_left
  rw [h1, h2]
  omega
theorem f1_ds : ∀ k x, x < 4 ^ k → dsN 4 k (f1 k x) = pcN (2 * k) x ∧ dg 4 2 k (f1 k x) := by
  intro k
  induction k with
  | zero =>
    intro x hx
    have : x = 0 := by simpa using hx
    subst this
    exact ⟨rfl, rfl⟩
  | succ k ih =>
    intro x hx
    rw [Nat.pow_succ] at hx
    obtain ⟨i1, i2⟩ := ih (x / 4) (by omega)
    rw [f1_s, pcN_2]
    have h1 : (x % 2 + x / 2 % 2 + 4 * f1 k (x / 4)) % 4 = x % 2 + x / 2 % 2 := by omega
    have h2 : (x % 2 + x / 2 % 2 + 4 * f1 k (x / 4)) / 4 = f1 k (x / 4) := by omega
    rw [dsN_s, dg_s, h1, h2, i1]
    exact ⟨rfl, by omega, i2⟩
def f2 (k x : Nat) : Nat := (x &&& mk 16 3 k) + (x / 4 &&& mk 16 3 k)
theorem f2_s (k x : Nat) : f2 (k + 1) x = (x % 4 + x / 4 % 4) + 16 * f2 k (x / 16) := by
  unfold f2
  rw [mk_s, and_step x _ 3 16 4 rfl (by decide), and_step (x / 4) _ 3 16 4 rfl (by decide)]
  have h1 : x % 16 &&& 3 = x % 4 := by
    have := Nat.and_two_pow_sub_one_eq_mod (x % 16) 2
    rw [show (2 : Nat) ^ 2 - 1 = 3 from rfl] at this
    omega
  have h2 : x / 4 % 16 &&& 3 = x / 4 % 4 := by
    have := Nat.and_two_pow_sub_one_eq_mod (x / 4 % 16) 2
    rw [show (2 : Nat) ^ 2 - 1 = 3 from rfl] at this
    omega
  have h3 : x / 4 / 16 = x / 16 / 4 := by omega
  rw [h1, h2, h3]
  omega
theorem ds_2 (B k x : Nat) : dsN B (2 * (k + 1)) x = x % B + x / B % B + dsN B (2 * k) (x / (B * B)) := by
  rw [show 2 * (k + 1) = 2 * k + 1 + 1 by omega, dsN_s, dsN_s, Nat.div_div_eq_div_mul]
  omega
theorem dg_2 {B b k x : Nat} (h : dg B b (2 * (k + 1)) x) : x % B ≤ b ∧ x / B % B ≤ b ∧ dg B b (2 * k) (x / (B * B)) := by
  rw [show 2 * (k + 1) = 2 * k + 1 + 1 by omega, dg_s] at h
  obtain ⟨h1, h2⟩ := h
  rw [dg_s, Nat.div_div_eq_div_mul] at h2
  exact ⟨h1, h2.1, h2.2⟩
theorem f2_ds : ∀ k x, dg 4 2 (2 * k) x → dsN 16 k (f2 k x) = dsN 4 (2 * k) x ∧ dg 16 4 k (f2 k x) := by
  intro k
  induction k with
  | zero =>
    intro x hx
    have : x = 0 := hx
    subst this
    exact ⟨rfl, rfl⟩
  | succ k ih =>
    intro x hx
    obtain ⟨d1, d2, d3⟩ := dg_2 hx
    obtain ⟨i1, i2⟩ := ih (x / 16) d3
    rw [f2_s, ds_2]
    have h1 : (x % 4 + x / 4 % 4 + 16 * f2 k (x / 16)) % 16 = x % 4 + x / 4 % 4 := by omega
    have h2 : (x % 4 + x / 4 % 4 + 16 * f2 k (x / 16)) / 16 = f2 k (x / 16) := by omega
    rw [dsN_s, dg_s, h1, h2, i1]
    exact ⟨rfl, by omega, i2⟩
def f3 (k x : Nat) : Nat := (x + x / 16) &&& mk 256 15 k
theorem f3_ds : ∀ k x, dg 16 4 (2 * k) x → dsN 256 k (f3 k x) = dsN 16 (2 * k) x ∧ dg 256 8 k (f3 k x) := by
  intro k
  induction k with
  | zero =>
    intro x hx
    have : x = 0 := hx
    subst this
    exact ⟨rfl, rfl⟩
  | succ k ih =>
    intro x hx
    obtain ⟨d1, d2, d3⟩ := dg_2 hx
    obtain ⟨i1, i2⟩ := ih (x / 256) d3
    have d4 : x / 256 % 16 ≤ 4 := by
      cases k with
      | zero =>
        have : x / 256 = 0 := d3
        omega
      | succ k => exact (dg_2 d3).1
    have hs : f3 (k + 1) x = (x % 16 + x / 16 % 16) + 256 * f3 k (x / 256) := by
      unfold f3
      rw [mk_s, and_step _ _ 15 256 8 rfl (by decide)]
      have h1 : (x + x / 16) % 256 &&& 15 = x % 16 + x / 16 % 16 := by
        have := Nat.and_two_pow_sub_one_eq_mod ((x + x / 16) % 256) 4
        rw [show (2 : Nat) ^ 4 - 1 = 15 from rfl] at this
        omega
      have h2 : (x + x / 16) / 256 = x / 256 + x / 256 / 16 := by
        have e : x / 16 / 16 = x / 256 := Nat.div_div_eq_div_mul x 16 16
        have k0 := Nat.mod_add_div x 16
        have k1 := Nat.mod_add_div (x / 16) 16
        have k2 := Nat.mod_add_div (x / 256) 16
        rw [e] at k1
        generalize x / 256 / 16 = y2 at *
        generalize x / 256 = y at *
        generalize x / 16 = z at *
        have : x + z = (x % 16 + z % 16 + 16 * (z % 16 + y % 16)) + 256 * (y + y2) := by omega
        rw [this, Nat.add_mul_div_left _ _ (by decide), Nat.div_eq_of_lt (by omega)]
        omega
      rw [h1, h2]
    rw [hs, ds_2]
    have h1 : (x % 16 + x / 16 % 16 + 256 * f3 k (x / 256)) % 256 = x % 16 + x / 16 % 16 := by omega
    have h2 : (x % 16 + x / 16 % 16 + 256 * f3 k (x / 256)) / 256 = f3 k (x / 256) := by omega
    rw [dsN_s, dg_s, h1, h2, i1]
    exact ⟨rfl, by omega, i2⟩
def f4 (x : Nat) : Nat := x + x / 256
def f5 (x : Nat) : Nat := x + x / 65536
def f6 (x : Nat) : Nat := x + x / 4294967296
theorem f6_ar {x x1 x2 x3 x4 x5 x6 x7 b0 b1 b2 b3 b4 b5 b6 b7 : Nat} (k0 : b0 + 256 * x1 = x) (k1 : b1 + 256 * x2 = x1) (k2 : b2 + 256 * x3 = x2) (k3 : b3 + 256 * x4 = x3) (k4 : b4 + 256 * x5 = x4) (k5 : b5 + 256 * x6 = x5) (k6 : b6 + 256 * x7 = x6) (k7 : b7 = x7) (h0 : b0 ≤ 8) (h1 : b1 ≤ 8) (h2 : b2 ≤ 8) (h3 : b3 ≤ 8) (h4 : b4 ≤ 8) (h5 : b5 ≤ 8) (h6 : b6 ≤ 8) (h7 : b7 ≤ 8) : (x + x1 + (x + x1) / 65536 + (x + x1 + (x + x1) / 65536) / 4294967296) % 128 = b0 + (b1 + (b2 + (b3 + (b4 + (b5 + (b6 + (b7 + 0))))))) := by
  have g1 : (x + x1) / 65536 = x2 + x3 := by
    have : x + x1 = (b0 + b1 + 256 * (b1 + b2)) + 65536 * (x2 + x3) := by subst k7 k6 k5 k4 k3 k2 k1 k0; omega
    rw [this, Nat.add_mul_div_left _ _ (by decide), Nat.div_eq_of_lt (by clear this k0 k1 k2 k3 k4 k5 k6 k7; omega), Nat.zero_add]
  rw [g1]
  have g2 : (x + x1 + (x2 + x3)) / 4294967296 = x4 + x5 + (x6 + x7) := by
    have : x + x1 + (x2 + x3) = (b0 + b1 + b2 + b3 + 256 * (b1 + b2 + b3 + b4) + 65536 * (b2 + b3 + b4 + b5) + 16777216 * (b3 + b4 + b5 + b6)) + 4294967296 * (x4 + x5 + (x6 + x7)) := by clear g1 h0 h1 h2 h3 h4 h5 h6 h7; subst k7 k6 k5 k4 k3 k2 k1 k0; omega
    rw [this, Nat.add_mul_div_left _ _ (by decide), Nat.div_eq_of_lt (by clear this g1 k0 k1 k2 k3 k4 k5 k6 k7; omega), Nat.zero_add]
  rw [g2]
  have g3 : x + x1 + (x2 + x3) + (x4 + x5 + (x6 + x7)) = (b0 + b1 + b2 + b3 + b4 + b5 + b6 + b7) + 128 * (2 * (x1 + x2 + x3 + x4 + x5 + x6 + x7)) := by clear g1 g2 h0 h1 h2 h3 h4 h5 h6 h7; omega
  rw [g3, Nat.add_mul_mod_self_left, Nat.mod_eq_of_lt (by clear g1 g2 g3 k0 k1 k2 k3 k4 k5 k6 k7; omega)]
  clear g1 g2 g3 k0 k1 k2 k3 k4 k5 k6 k7 h0 h1 h2 h3 h4 h5 h6 h7
  omega
theorem f6_ds {x : Nat} (h : dg 256 8 (0 + 1 + 1 + 1 + 1 + 1 + 1 + 1 + 1) x) : f6 (f5 (f4 x)) % 128 = dsN 256 (0 + 1 + 1 + 1 + 1 + 1 + 1 + 1 + 1) x := by
  rw [dg_s, dg_s, dg_s, dg_s, dg_s, dg_s, dg_s, dg_s] at h
  obtain ⟨h0, h1, h2, h3, h4, h5, h6, h7, h8⟩ := h
  rw [dsN_s, dsN_s, dsN_s, dsN_s, dsN_s, dsN_s, dsN_s, dsN_s]
  have k7 := Nat.mod_add_div (x / 256 / 256 / 256 / 256 / 256 / 256 / 256) 256
  have h9 : x / 256 / 256 / 256 / 256 / 256 / 256 / 256 / 256 = 0 := h8
  rw [h9, Nat.mul_zero, Nat.add_zero] at k7
  unfold f6 f5 f4
  exact f6_ar (Nat.mod_add_div x 256) (Nat.mod_add_div _ 256) (Nat.mod_add_div _ 256) (Nat.mod_add_div _ 256) (Nat.mod_add_div _ 256) (Nat.mod_add_div _ 256) (Nat.mod_add_div _ 256) k7 h0 h1 h2 h3 h4 h5 h6 h7
theorem cnt_ds {x : Nat} (h : x < 4 ^ 32) : f6 (f5 (f4 (f3 8 (f2 16 (f1 32 x))))) % 128 = pcN 64 x := by
  obtain ⟨a1, a2⟩ := f1_ds 32 x h
  obtain ⟨b1, b2⟩ := f2_ds 16 _ a2
  obtain ⟨c1, c2⟩ := f3_ds 8 _ b2
  rw [f6_ds c2, c1, b1, a1]

/-! UPDATE -/
section UP
variable {v : Nat → Nat → Nat → Int32} {π : Nat → Nat} {n : Nat} {σ : Nat → Nat} {w : mS}
theorem mUs_f {a b : Int32} {q F f i : Nat} (h : f ≠ 10) : ∀ k, mUs w a b q F k f i = w f i := by
  intro k
  induction k with
  | zero => rfl
  | succ k ih =>
    unfold mUs
    split
    · exact ih
    · rw [up2_f h]; exact ih
theorem tgt_lt {q i : Nat} (hq : q < n) : tgt v π q i < n := by
  unfold tgt
  have hl := srcO_lt (v := v) (π := π) (ch := i) (n := n) (X := some q) (fun p hp => by cases hp; exact hq)
  cases hs : srcO v π i (some q) with
  | none => exact hq
  | some p => exact hl p hs
theorem uss_f {q k f j c : Nat} (h1 : f ≠ 16) (h2 : f ≠ 17) : ∀ i, uss v π q k i f j c = v f j c := by
  intro i
  induction i with
  | zero => rfl
  | succ i ih =>
    unfold uss
    split
    · rw [vPut_f h1 h2]; exact ih
    · exact ih
theorem uss_40 {q k f c : Nat} (h : ∀ p, p < n → π p ≠ 40) (hq : q < n) : ∀ i, uss v π q k i f 40 c = v f 40 c := by
  intro i
  induction i with
  | zero => rfl
  | succ i ih =>
    unfold uss
    split
    · rw [vPut_j (Ne.symm (h _ (tgt_lt hq)))]; exact ih
    · exact ih
theorem uc_rel (hb : bR v π n σ w) (ho : oR v w) {F : Nat} (hF : F = 40) {q : Nat} (hq : q < n) {a b : Int32} (ha : v 10 (π q) 0 = a) (hbn : v 11 (π q) 0 = b) : ∀ i, i ≤ 64 → mUc w a b F i = usc v π q 40 i := by
  intro i
  induction i with
  | zero => intro _; rfl
  | succ i ih =>
    intro hi
    unfold mUc usc
    rw [ih (by omega), hb.src hF hq (by omega) ha hbn, ho.prg i (by omega)]
    by_cases h : ¬ v 17 40 i = -1 ∧ srcO v π i (some q) = none
    · rw [if_pos h, if_pos ⟨h.1, by rw [h.2]; rfl⟩]
    · rw [if_neg h, if_neg (fun z => h ⟨z.1, by simpa using z.2⟩)]
      grind
theorem us_rel (hb : bR v π n σ w) (ho : oR v w) {F : Nat} (hF : F = 40) {q : Nat} (hq : q < n) {a b : Int32} (ha : v 10 (π q) 0 = a) (hbn : v 11 (π q) 0 = b) : ∀ i, i ≤ 64 → bR (uss v π q 40 i) π n σ (mUs w a b (σ q) F i) ∧ (∀ p, p < n → ib (mUl w a b (σ q) F i) (σ p) = ib (usl v π q 40 i) p) ∧ (∀ s, s < 40 → (∀ p, p < n → σ p ≠ s) → ib (mUl w a b (σ q) F i) s = false) ∧ (∀ p, n ≤ p → ib (usl v π q 40 i) p = false) := by
  have h40 : ∀ p, p < n → π p ≠ 40 := fun p hp => by have := hb.plt hp; omega
  intro i
  induction i with
  | zero => intro _; exact ⟨hb, fun p _ => by rw [show mUl w a b (σ q) F 0 = 0 from rfl, show usl v π q 40 0 = 0 from rfl, ib_0, ib_0], fun s _ _ => ib_0 s, fun p _ => ib_0 p⟩
  | succ i ih =>
    intro hi
    obtain ⟨hb1, h1, h2, h3⟩ := ih (by omega)
    have hr := ho.prr i (by omega)
    have ht := tgt_lt (v := uss v π q 40 i) (π := π) (i := i) hq
    have hn := hb.n40
    unfold uss mUs usl mUl
    rw [mUs_f (f := 2) (by decide), uss_40 (f := 17) h40 hq, ho.prg i (by omega), hb1.src hF hq (show i < 64 by omega) (by rw [uss_f (by decide) (by decide)]; exact ha) (by rw [uss_f (by decide) (by decide)]; exact hbn)]
    have hg : (Option.map σ (srcO (uss v π q 40 i) π i (some q))).getD (σ q) = σ (tgt (uss v π q 40 i) π q i) := by
      unfold tgt
      cases srcO (uss v π q 40 i) π i (some q) <;> rfl
    rw [hg]
    generalize tgt (uss v π q 40 i) π q i = T at ht ⊢
    by_cases h : v 17 40 i = -1
    · rw [if_pos h, if_pos h, if_neg (fun z => z h), if_neg (fun z => z h)]
      exact ⟨hb1, h1, h2, h3⟩
    · rw [if_neg h, if_neg h, if_pos h, if_pos h]
      have hsT := hb.slt T ht
      refine ⟨hb1.put ht (by omega) (by grind) ?_, fun p hp => ?_, fun s hs hsf => ?_, fun p hp => ?_⟩
      · rw [s16_id (by grind) (by grind)]; unfold cv; grind
      · rw [ib_or, ib_or, h1 p hp, ib_bit (by omega), ib_bit (by omega)]
        congr 1
        by_cases he : T = p
        · simp [he]
        · simp [he, hb.sne ht hp he]
      · rw [ib_or, h2 s hs hsf, ib_bit (by omega)]
        simp [hsf T ht]
      · rw [ib_or, h3 p hp, ib_bit (by omega)]
        simp
        omega
theorem sm_ext {g : Nat → Int32} (n : Nat) : ∀ d, (∀ p, n ≤ p → p < n + d → g p = 0) → sm g (n + d) = sm g n := by
  intro d
  induction d with
  | zero => intro _; rfl
  | succ d ih =>
    intro h
    rw [show sm g (n + (d + 1)) = sm g (n + d) + g (n + d) from rfl, ih (fun p h1 h2 => h p h1 (by omega)), h (n + d) (by omega) (by omega)]
    grind
theorem ub_rel (hb : bR v π n σ w) (ho : oR v w) {F M : Nat} (hF : F = 40) (hM : M = 64) {q : Nat} (hq : q < n) {a b : Int32} (ha : v 10 (π q) 0 = a) (hbn : v 11 (π q) 0 = b) : bcL (usl v π q 40 M) = mUb (mUl w a b (σ q) F M) F := by
  obtain ⟨-, h1, h2, h3⟩ := us_rel hb ho hF hq ha hbn M (by omega)
  generalize usl v π q 40 M = X at *
  generalize mUl w a b (σ q) F M = Y at *
  have hn := hb.n40
  rw [bcL_sm, mUb_sm Y F (by omega)]
  have e1 : sm (fun p => if ib X p then (1 : Int32) else 0) 64 = sm (fun p => if ib X p then 1 else 0) n := by
    have := sm_ext (g := fun p => if ib X p then (1 : Int32) else 0) n (64 - n) (fun p hp _ => by rw [h3 p hp]; rfl)
    rw [show n + (64 - n) = 64 by omega] at this
    exact this
  have e2 : sm (fun s => if ib Y s then (1 : Int32) else 0) F = sm (fun s => if w 4 s < 0 then 0 else if ib Y s then 1 else 0) F := by
    refine sm_congr F (fun s hs => ?_)
    by_cases hf : w 4 s < 0
    · rw [if_pos hf]
      have : ∀ p, p < n → σ p ≠ s := by
        rintro p hp rfl
        have := hb.lrg p hp
        rw [hb.lst p hp] at hf
        grind
      rw [h2 s (by omega) this]; rfl
    · rw [if_neg hf]
  rw [e1, e2, hb.sum (fun s => if ib Y s then 1 else 0) hF]
  exact sm_congr n (fun p hp => by rw [h1 p hp])
theorem mUb_nm1 (x : Int64) : ¬ bcL x = -1 := by
  rw [bcL_n]
  have : ∀ k y, pcN k y ≤ k := by
    intro k
    induction k with
    | zero => intro y; exact Nat.le_refl _
    | succ k ih => intro y; rw [pcN_s]; have := ih (y / 2); omega
  have := this 64 (n64 x)
  exact nI_nm1 (by omega)
theorem op_update_0 (hb : bR v π n σ w) (ho : oR v w) {F M : Nat} (hF : F = 40) (hM : M = 64) {a b r r' : Int32} {u : xS} {z : mS} {q : Nat} (hf : fndO v π n a b = some q) (hr : ¬ r = -1) (hx : updPost v π n q M r u) (hm : mUpP w a b F M r' z) : z 0 0 = 0 ∧ r = r' ∧ rel u z := by
  obtain ⟨hq, ha, hbn⟩ := hb.fnd_some.mp hf
  unfold mUpP at hm
  have h0 := w0_bR hb 0
  have h0o := w0_oR ho 0
  rw [hb.fnd hF, hf, if_neg (by simp), h0.fnd hF, hf] at hm
  have h1 := w0_bR h0 0
  have h1o := w0_oR h0o 0
  simp only [Option.map_some] at hm
  unfold mUr at hm
  simp only at hm
  rw [h0.mc hF hM, uc_rel h0 h0o hF hq ha hbn M (by omega)] at hm
  unfold updPost at hx
  split at hx
  · rename_i hl
    rw [if_pos hl] at hm
    obtain ⟨rfl, rfl⟩ := hx
    obtain ⟨rfl, rfl⟩ := hm
    have h2 := (us_rel h1 h1o hF hq ha hbn M (by omega)).1
    refine ⟨?_, ub_rel h1 h1o hF hM hq ha hbn, rel_of h2 ?_⟩
    · rw [mUs_f (by decide)]; exact w0_0 _ _
    · refine h1o.ed (fun f j i h => ?_) (fun f i h _ => mUs_f (by omega) M)
      by_cases h9 : f = 16 ∨ f = 17
      · have : j = 40 := by omega
        subst this
        exact uss_40 (fun p hp => by have := hb.plt hp; omega) hq M
      · exact uss_f (by omega) (by omega) M
  · exact absurd hx.2 hr
theorem op_update_1 (hb : bR v π n σ w) (ho : oR v w) {F M : Nat} (hF : F = 40) {a b r' : Int32} {z : mS} (hf : fndO v π n a b = none) (hm : mUpP w a b F M r' z) : z 0 0 = 1 ∧ rel (v, π) z := by
  unfold mUpP at hm
  rw [hb.fnd hF, hf, if_pos (c := Option.map σ none = none) rfl] at hm
  obtain ⟨rfl, rfl⟩ := hm
  exact ⟨w0_0 _ _, rel_of (w0_bR hb 1) (w0_oR ho 1)⟩
theorem op_update_2 (hb : bR v π n σ w) (ho : oR v w) {F M : Nat} (hF : F = 40) (hM : M = 64) {a b r' : Int32} {u : xS} {z : mS} {q : Nat} (hf : fndO v π n a b = some q) (hx : updPost v π n q M (-1) u) (hm : mUpP w a b F M r' z) : z 0 0 = 2 ∧ rel u z := by
  obtain ⟨hq, ha, hbn⟩ := hb.fnd_some.mp hf
  unfold mUpP at hm
  have h0 := w0_bR hb 0
  have h0o := w0_oR ho 0
  rw [hb.fnd hF, hf, if_neg (by simp), h0.fnd hF, hf] at hm
  simp only [Option.map_some] at hm
  unfold mUr at hm
  simp only at hm
  rw [h0.mc hF hM, uc_rel h0 h0o hF hq ha hbn M (by omega)] at hm
  unfold updPost at hx
  split at hx
  · exact absurd hx.2.symm (mUb_nm1 _)
  · rename_i hl
    rw [if_neg hl] at hm
    obtain ⟨rfl, rfl⟩ := hm
    obtain ⟨rfl, -⟩ := hx
    exact ⟨w0_0 _ _, rel_of (w0_bR h0 2) (w0_oR h0o 2)⟩
end UP

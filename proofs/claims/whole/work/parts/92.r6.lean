/-! TELLING, GO, OUT -/
section TL
variable {v : Nat → Nat → Nat → Int32} {π : Nat → Nat} {n : Nat} {σ : Nat → Nat} {w : mS}
/-- the playback that is due first -/
def dueP (f : Nat → Int32) (t : Int32) (lo hi : Nat) : Option Nat → Prop
  | none => ∀ j, lo ≤ j → j < hi → f j = -1 ∨ t < f j
  | some p => (lo ≤ p ∧ p < hi) ∧ ¬ f p = -1 ∧ f p ≤ t ∧ ∀ j, lo ≤ j → j < hi → f j = -1 ∨ f p < f j ∨ (f p = f j ∧ p ≤ j)
theorem dueP_uniq {f : Nat → Int32} {t : Int32} {lo hi : Nat} {o o' : Option Nat} (h : dueP f t lo hi o) (h' : dueP f t lo hi o') : o = o' := by
  cases o with
  | none =>
    cases o' with
    | none => rfl
    | some p' =>
      obtain ⟨a1, a2, a3, a4⟩ := h'
      have := h p' a1.1 a1.2
      grind
  | some p =>
    cases o' with
    | none =>
      obtain ⟨a1, a2, a3, a4⟩ := h
      have := h' p a1.1 a1.2
      grind
    | some p' =>
      obtain ⟨a1, a2, a3, a4⟩ := h
      obtain ⟨b1, b2, b3, b4⟩ := h'
      have e1 := a4 p' b1.1 b1.2
      have e2 := b4 p a1.1 a1.2
      have : p = p' := by grind
      rw [this]
theorem eD_due (t : Int32) : ∀ i, dueP (fun j => v 29 j 0) t 0 i (eD v t i).1 ∧ (∀ p, (eD v t i).1 = some p → (eD v t i).2 = v 29 p 0) ∧ ((eD v t i).1 = none → (eD v t i).2 = t) := by
  intro i
  induction i with
  | zero => exact ⟨fun j _ h => by omega, fun p h => (nomatch h), fun _ => rfl⟩
  | succ i ih =>
    obtain ⟨i1, i2, i3⟩ := ih
    unfold eD
    generalize eD v t i = E at i1 i2 i3 ⊢
    obtain ⟨o, x⟩ := E
    simp only at i1 i2 i3 ⊢
    cases o with
    | none =>
      have i3 := i3 rfl
      subst i3
      split
      · rename_i h1
        refine ⟨fun j h0 hj => ?_, fun p h => (nomatch h), fun _ => rfl⟩
        by_cases he : j = i
        · rw [he]; exact Or.inl h1
        · exact i1 j h0 (by omega)
      · rename_i h1
        split
        · rename_i h2
          rw [if_pos rfl]
          refine ⟨⟨⟨by omega, by omega⟩, h1, h2, fun j h0 hj => ?_⟩, fun p h => by cases h; rfl, fun h => (nomatch h)⟩
          by_cases he : j = i
          · subst he; grind
          · have := i1 j h0 (by omega)
            simp only at this ⊢
            grind
        · rename_i h2
          refine ⟨fun j h0 hj => ?_, fun p h => (nomatch h), fun _ => rfl⟩
          by_cases he : j = i
          · rw [he]; exact Or.inr (by grind)
          · exact i1 j h0 (by omega)
    | some p =>
      have i2 := i2 p rfl
      subst i2
      obtain ⟨a1, a2, a3, a4⟩ := i1
      have keep : (v 29 i 0 = -1 ∨ v 29 p 0 ≤ v 29 i 0) → dueP (fun j => v 29 j 0) t 0 (i + 1) (some p) := by
        intro hk
        refine ⟨⟨by omega, by omega⟩, a2, a3, fun j h0 hj => ?_⟩
        by_cases he : j = i
        · subst he
          have : p ≤ j := by omega
          simp only
          grind
        · exact a4 j h0 (by omega)
      split
      · rename_i h1
        exact ⟨keep (Or.inl h1), fun p' h => by cases h; rfl, fun h => (nomatch h)⟩
      · rename_i h1
        split
        · rename_i h2
          rw [if_neg (by simp)]
          split
          · rename_i h3
            exact ⟨keep (Or.inr h3), fun p' h => by cases h; rfl, fun h => (nomatch h)⟩
          · rename_i h3
            refine ⟨⟨⟨by omega, by omega⟩, h1, by simp only at a3 ⊢; grind, fun j h0 hj => ?_⟩, fun p h => by cases h; rfl, fun h => (nomatch h)⟩
            by_cases he : j = i
            · subst he; grind
            · have := a4 j h0 (by omega)
              simp only at this ⊢
              grind
        · rename_i h2
          exact ⟨keep (Or.inr (by grind)), fun p' h => by cases h; rfl, fun h => (nomatch h)⟩
theorem mDuL_due {t : Int32} {Q : Nat} : ∀ k o, k ≤ Q → dueP (fun j => w 16 j) t k Q o → dueP (fun j => w 16 j) t 0 Q (mDuL w t k o) := by
  intro k
  induction k with
  | zero => intro o _ h; exact h
  | succ k ih =>
    intro o hk h
    unfold mDuL
    refine ih _ (by omega) ?_
    unfold mDuS
    cases o with
    | none =>
      split
      · rename_i h1
        intro j h0 hj
        by_cases he : j = k
        · rw [he]; exact Or.inl h1
        · exact h j (by omega) hj
      · rename_i h1
        split
        · rename_i h2
          intro j h0 hj
          by_cases he : j = k
          · rw [he]; exact Or.inr h2
          · exact h j (by omega) hj
        · rename_i h2
          refine ⟨⟨by omega, by omega⟩, h1, by simp only; grind, fun j h0 hj => ?_⟩
          by_cases he : j = k
          · subst he; grind
          · have := h j (by omega) hj
            simp only at this ⊢
            grind
    | some p =>
      obtain ⟨a1, a2, a3, a4⟩ := h
      have keep : (w 16 k = -1 ∨ w 16 p < w 16 k) → dueP (fun j => w 16 j) t k Q (some p) := by
        intro hk2
        refine ⟨⟨by omega, by omega⟩, a2, a3, fun j h0 hj => ?_⟩
        by_cases he : j = k
        · subst he
          simp only
          grind
        · exact a4 j (by omega) hj
      split
      · rename_i h1
        exact keep (Or.inl h1)
      · rename_i h1
        split
        · rename_i h2
          exact keep (Or.inr (by simp only at a3; grind))
        · rename_i h2
          simp only
          split
          · rename_i h3
            exact keep (Or.inr h3)
          · rename_i h3
            refine ⟨⟨by omega, by omega⟩, h1, by simp only; grind, fun j h0 hj => ?_⟩
            by_cases he : j = k
            · subst he
              have : j ≤ j := Nat.le_refl _
              simp only
              grind
            · have := a4 j (by omega) hj
              have h5 : k ≤ j := by omega
              simp only at this ⊢
              grind
theorem due_rel (ho : oR v w) {Q6 : Nat} (h6 : Q6 = 6) (t : Int32) : mDu w t Q6 = (eD v t Q6).1 := by
  have h1 := (eD_due (v := v) t Q6).1
  have h2 : dueP (fun j => w 16 j) t 0 Q6 (mDu w t Q6) := mDuL_due Q6 none (Nat.le_refl _) (fun j h h' => by omega)
  have h3 : dueP (fun j => v 29 j 0) t 0 Q6 (mDu w t Q6) := by
    have e : ∀ j, j < Q6 → w 16 j = v 29 j 0 := fun j hj => (ho.ply j (by omega)).2.2.2.2
    cases hd : mDu w t Q6 with
    | none =>
      rw [hd] at h2
      intro j h0 hj
      have := h2 j h0 hj
      simp only [e j hj] at this
      exact this
    | some p =>
      rw [hd] at h2
      obtain ⟨a1, a2, a3, a4⟩ := h2
      simp only [e p a1.2] at a2 a3 a4
      refine ⟨a1, a2, a3, fun j h0 hj => ?_⟩
      have := a4 j h0 hj
      simp only [e j hj] at this
      exact this
  exact dueP_uniq h3 h1
/-! how many follow-ons are left, at most -/
theorem pGo_congr {v v' : Nat → Nat → Nat → Int32} {a b : Int32} (h : ∀ p, v' 10 p 0 = v 10 p 0 ∧ v' 11 p 0 = v 11 p 0) : ∀ k p, pGo v' π a b k p = pGo v π a b k p := by
  intro k
  induction k with
  | zero => intro p; rfl
  | succ k ih =>
    intro p
    unfold pGo
    have : bef v' π a b p ↔ bef v π a b p := by unfold bef; rw [(h _).1, (h _).2]
    by_cases hb : bef v π a b p
    · rw [if_pos hb, if_pos (this.mpr hb)]; exact ih _
    · rw [if_neg hb, if_neg (fun z => hb (this.mp z))]
def left (v : Nat → Nat → Nat → Int32) (π : Nat → Nat) (n j : Nat) : Nat := if v 29 j 0 = -1 then 0 else 1 + (n - pFor v π n (v 25 j 0) (v 27 j 0 + 1))
def tS (g : Nat → Nat) : Nat → Nat
  | 0 => 0
  | k + 1 => tS g k + g k
theorem tS_le {g : Nat → Nat} {m : Nat} : ∀ k, (∀ i, i < k → g i ≤ m) → tS g k ≤ m * k := by
  intro k
  induction k with
  | zero => intro _; exact Nat.le_refl _
  | succ k ih =>
    intro h
    have h1 := ih (fun i hi => h i (by omega))
    have h2 := h k (by omega)
    unfold tS
    rw [Nat.mul_add]
    omega
theorem tS_congr {g g' : Nat → Nat} : ∀ k, (∀ i, i < k → g' i = g i) → tS g' k = tS g k := by
  intro k
  induction k with
  | zero => intro _; rfl
  | succ k ih => intro h; unfold tS; rw [ih (fun i hi => h i (by omega)), h k (by omega)]
theorem tS_lt {g g' : Nat → Nat} {j : Nat} (hj : g' j < g j) (h : ∀ i, i ≠ j → g' i = g i) : ∀ k, j < k → tS g' k < tS g k := by
  intro k
  induction k with
  | zero => intro h; omega
  | succ k ih =>
    intro hk
    unfold tS
    by_cases he : j = k
    · subst he
      rw [tS_congr j (fun i hi => h i (by omega))]
      omega
    · have := ih (by omega)
      rw [h k (by omega)]
      omega
theorem left_lt (hb : bR v π n σ w) (ho : oR v w) {j M : Nat} (hj : j < 6) (h29 : ¬ v 29 j 0 = -1) : left (vFol v π n j M) π n j < left v π n j ∧ ∀ i, i ≠ j → left (vFol v π n j M) π n i = left v π n i := by
  have hcur := (ho.pyr j hj).2.1
  have hsf : ∀ q t f, (f < 20 ∨ 24 < f) → ∀ M j' i, stt v π j q t M f j' i = v f j' i := by
    intro q t f hf M j' i
    induction M with
    | zero => rfl
    | succ M ih =>
      unfold stt
      split
      · exact ih
      · rw [vFd_f hf]; exact ih
  have hst : ∀ q t f j' i, (f < 20 ∨ 24 < f) → f ≠ 6 → (f < 27 ∨ 29 < f ∨ j' ≠ j) → vStart v π j q t M f j' i = v f j' i := by
    intro q t f j' i h1 h2 h3
    unfold vStart vStart1
    rcases h3 with h3 | h3 | h3
    · rw [up3_f h2, up3_f (by omega), up3_f (by omega), up3_f (by omega)]; exact hsf q t f h1 M j' i
    · rw [up3_f h2, up3_f (by omega), up3_f (by omega), up3_f (by omega)]; exact hsf q t f h1 M j' i
    · rw [up3_f h2, up3_j h3, up3_j h3, up3_j h3]; exact hsf q t f h1 M j' i
  have hne : ∀ f j' i, f < 20 ∨ 24 < f → f ≠ 6 → (f < 27 ∨ 29 < f ∨ j' ≠ j) → vFol v π n j M f j' i = v f j' i := by
    intro f j' i h1 h2 h3
    unfold vFol
    cases abvO v π n (v 25 j 0) (v 27 j 0) with
    | none =>
      simp only
      rcases h3 with h3 | h3 | h3
      · rw [up3_f (by omega)]
      · rw [up3_f (by omega)]
      · rw [up3_j h3]
    | some q => exact hst _ _ f j' i h1 h2 h3
  have hpf : ∀ a b, pFor (vFol v π n j M) π n a b = pFor v π n a b := fun a b => pGo_congr (fun p => ⟨hne _ _ _ (by decide) (by decide) (Or.inl (by decide)), hne _ _ _ (by decide) (by decide) (Or.inl (by decide))⟩) n 0
  constructor
  · unfold left
    rw [hpf, if_neg h29]
    cases hab : abvO v π n (v 25 j 0) (v 27 j 0) with
    | none =>
      have : vFol v π n j M 29 j 0 = -1 := by unfold vFol; rw [hab]; exact up3_s _ _ _ _ _
      rw [if_pos this]
      omega
    | some q =>
      obtain ⟨h1, h2, h3, h4⟩ := (hb.abv_some hcur.2).mp hab
      have hq : q = pFor v π n (v 25 j 0) (v 27 j 0 + 1) := by
        unfold abvO at hab
        split at hab
        · cases hab; rfl
        · cases hab
      have e25 : vFol v π n j M 25 j 0 = v 25 j 0 := hne 25 j 0 (by decide) (by decide) (Or.inl (by decide))
      have e27 : vFol v π n j M 27 j 0 = v 11 (π q) 0 := by
        unfold vFol
        rw [hab]
        simp only
        unfold vStart vStart1
        rw [up3_f (by decide), up3_f (by decide), up3_f (by decide), up3_s]
        exact hsf q _ 11 (by decide) M (π q) 0
      have h5 : q < pFor v π n (v 25 j 0) (v 11 (π q) 0 + 1) := by
        refine (hb.pf h1).mp ?_
        have := hb.nrg q h1
        unfold bef
        grind
      rw [e25, e27]
      split <;> omega
  · intro i hi
    unfold left
    rw [hpf, hne 29 i 0 (by decide) (by decide) (Or.inr (Or.inr hi)), hne 25 i 0 (by decide) (by decide) (Or.inr (Or.inr hi)), hne 27 i 0 (by decide) (by decide) (Or.inr (Or.inr hi))]
theorem fol_rel (hb : bR v π n σ w) (ho : oR v w) {F M : Nat} (hF : F = 40) (hM : M = 64) {j : Nat} (hj : j < 6) (h29 : ¬ v 29 j 0 = -1) (ht : v 29 j 0 ≤ 1000000000) : bR (vFol v π n j M) π n σ (mFol w j F M) ∧ oR (vFol v π n j M) (mFol w j F M) := by
  have hcur := (ho.pyr j hj).2.1
  have hrg := (ho.pyr j hj).2.2
  have h25 : 0 ≤ v 25 j 0 := hrg.2.resolve_left h29
  obtain ⟨p1, p2, p3, p4, p5⟩ := ho.ply j hj
  have hb1 : bR (up3 v 29 j 0 (-1)) π n σ (up2 w 16 j (-1)) := hb.congr (fun f j i hf => up3_f (by omega)) (fun f i h1 h2 => up2_f (by omega))
  have ho1 : oR (up3 v 29 j 0 (-1)) (up2 w 16 j (-1)) := oR_mk
    (att := ho.att)
    (prg := ho.prg)
    (prr := ho.prr)
    (phl := by rw [up3_f (by decide), hc_congr 64 (fun i _ => up3_f (by decide))]; exact ho.phl)
    (pal := ho.pal)
    (plr := ho.plr)
    (now := ho.now)
    (nwr := ho.nwr)
    (sts := ho.sts)
    (ply := fun j' hj' => by
      have h0 := ho.ply j' hj'
      refine ⟨h0.1, h0.2.1, h0.2.2.1, h0.2.2.2.1, ?_⟩
      by_cases he : j' = j
      · rw [he, up2_s, up3_s]
      · rw [up2_i he, up3_j he]; exact h0.2.2.2.2)
    (pyr := fun j' hj' => by
      have h0 := ho.pyr j' hj'
      by_cases he : j' = j
      · subst he
        rw [up3_f (f' := 25) (by decide), up3_f (f' := 27) (by decide), up3_s]
        exact ⟨h0.1, h0.2.1, ⟨by decide, by decide⟩, Or.inl rfl⟩
      · rw [up3_j he, up3_j he, up3_j he]; exact h0)
    (fad := ho.fad)
    (fdr := ho.fdr)
  unfold vFol mFol
  rw [p1, p3, p5, hb.abv hF h25 hcur.2]
  cases hab : abvO v π n (v 25 j 0) (v 27 j 0) with
  | none => exact ⟨hb1, ho1⟩
  | some q =>
    simp only [Option.map_some]
    obtain ⟨h1, h2, h3, h4⟩ := (hb.abv_some hcur.2).mp hab
    have h := start_rel hb1 ho1 hF hM hj h1 (by rw [up3_f (by decide)]; exact h25) (t := v 29 j 0) (by grind)
    rw [vStart_29] at h
    exact h
theorem tell_rel {F M Q6 : Nat} (hF : F = 40) (hM : M = 64) (h6 : Q6 = 6) {t : Int32} (ht : t ≤ 1000000000) : ∀ k (v : Nat → Nat → Nat → Int32) (w : mS), bR v π n σ w → oR v w → tS (left v π n) Q6 ≤ k → bR (tl π n t M Q6 k v) π n σ (mTl t F M Q6 k w) ∧ oR (tl π n t M Q6 k v) (mTl t F M Q6 k w) ∧ mTok t F M Q6 k w := by
  intro k
  induction k with
  | zero =>
    intro v w hb ho hl
    refine ⟨hb, ho, ?_⟩
    unfold mTok
    rw [due_rel ho h6]
    cases hd : (eD v t Q6).1 with
    | none => rfl
    | some j =>
      have h1 := (eD_due (v := v) t Q6).1
      rw [hd] at h1
      obtain ⟨a1, a2, a3, a4⟩ := h1
      have h2 := (left_lt (M := M) hb ho (j := j) (by omega) a2)
      have h3 := tS_lt h2.1 h2.2 Q6 a1.2
      omega
  | succ k ih =>
    intro v w hb ho hl
    unfold tl mTl mTok
    rw [due_rel ho h6]
    cases hd : (eD v t Q6).1 with
    | none => exact ⟨hb, ho, trivial⟩
    | some j =>
      have h1 := (eD_due (v := v) t Q6).1
      rw [hd] at h1
      obtain ⟨a1, a2, a3, a4⟩ := h1
      have h2 := (left_lt (M := M) hb ho (j := j) (by omega) a2)
      have h3 := tS_lt h2.1 h2.2 Q6 a1.2
      have h4 := fol_rel hb ho hF hM (j := j) (by omega) a2 (by simp only at a3; grind)
      have h5 := ih _ _ h4.1 h4.2 (by omega)
      exact ⟨h5.1, h5.2.1, hb.mv, ho.mo _, h5.2.2⟩
theorem left_all (hb : bR v π n σ w) {Q6 T1 : Nat} (h6 : Q6 = 6) (hT : T1 = 1000) : tS (left v π n) Q6 ≤ T1 := by
  have h := tS_le (g := left v π n) (m := 41) Q6 (fun i _ => by
    unfold left
    have := hb.n40
    split <;> omega)
  omega
theorem now_rel (hb : bR v π n σ w) (ho : oR v w) {F M Q6 T1 : Nat} (hF : F = 40) (hM : M = 64) (h6 : Q6 = 6) (hT : T1 = 1000) {t : Int32} (ht0 : 0 ≤ t) (ht : t ≤ 1000000000) : bR (vTell v π n t M Q6 T1) π n σ (mNow w t F M Q6 T1) ∧ oR (vTell v π n t M Q6 T1) (mNow w t F M Q6 T1) ∧ mTok t F M Q6 T1 w := by
  obtain ⟨h1, h2, h3⟩ := tell_rel (σ := σ) hF hM h6 ht T1 v w hb ho (left_all hb h6 hT)
  unfold vTell mNow
  generalize tl π n t M Q6 T1 v = V at h1 h2 ⊢
  generalize mTl t F M Q6 T1 w = W at h1 h2 ⊢
  refine ⟨h1.congr (fun f j i hf => up3_f (by omega)) (fun f i a b => up2_f (by omega)), ?_, h3⟩
  exact oR_mk
    (att := h2.att)
    (prg := h2.prg)
    (prr := h2.prr)
    (phl := by rw [up3_f (by decide), hc_congr 64 (fun i _ => up3_f (by decide))]; exact h2.phl)
    (pal := h2.pal)
    (plr := h2.plr)
    (now := by rw [up2_s, up3_s])
    (nwr := by rw [up3_s]; exact ⟨ht0, ht⟩)
    (sts := h2.sts)
    (ply := h2.ply)
    (pyr := h2.pyr)
    (fad := h2.fad)
    (fdr := h2.fdr)
/-- GO -/
theorem goQ_rel (hb : bR v π n σ w) (ho : oR v w) {F : Nat} (hF : F = 40) {j : Nat} (hj : j < 6) (x : Int32) : mGoQ w j x F = (goQ v π n j x).map σ := by
  obtain ⟨p1, p2, p3, p4, p5⟩ := ho.ply j hj
  obtain ⟨q1, q2, q3, q4⟩ := ho.pyr j hj
  unfold mGoQ goQ
  rw [p1, p3]
  by_cases h : v 25 j 0 = -1
  · rw [if_pos h]
    have e1 : abvO v π n (v 25 j 0) (v 27 j 0) = none := by
      cases hab : abvO v π n (v 25 j 0) (v 27 j 0) with
      | none => rfl
      | some q =>
        obtain ⟨h1, h2, -⟩ := (hb.abv_some q2.2).mp hab
        have := hb.lrg q h1
        grind
    have e2 : blwO v π n (v 25 j 0) (v 27 j 0) = none := by
      cases hab : blwO v π n (v 25 j 0) (v 27 j 0) with
      | none => rfl
      | some q =>
        obtain ⟨h1, h2, -⟩ := hb.blw_some.mp hab
        have := hb.lrg q h1
        grind
    rw [e1, e2]
    split <;> rfl
  · rw [if_neg h]
    have h25 : 0 ≤ v 25 j 0 := by grind
    split
    · exact hb.abv hF h25 q2.2
    · exact hb.blw hF h25
theorem tick_iff (ho : oR v w) (t : Int32) : xTick v t ↔ mTick w t := by unfold xTick mTick; rw [ho.now]
theorem op_go_1 (hb : bR v π n σ w) (ho : oR v w) {F M Q6 K : Nat} {x1 x2 t r' : Int32} {z : mS} (hx : ¬ (isPb x1 ∧ xTick v t)) (hm : mGoP w x1 x2 t F M Q6 K r' z) : z 0 0 = 1 ∧ rel (v, π) z := by
  unfold mGoP at hm
  rw [if_neg (fun y => hx ⟨y.1, (tick_iff ho t).mpr y.2⟩)] at hm
  obtain ⟨rfl, rfl⟩ := hm
  exact ⟨w0_0 _ _, rel_of (w0_bR hb 1) (w0_oR ho 1)⟩
theorem op_go_2 (hb : bR v π n σ w) (ho : oR v w) {F M Q6 T1 : Nat} (hF : F = 40) (hM : M = 64) (h6 : Q6 = 6) (hT : T1 = 1000) {x1 x2 t r' : Int32} {z : mS} (hx : isPb x1 ∧ xTick v t) (hq : goQ (vTell v π n t M Q6 T1) π n x1.toNatClampNeg x2 = none) (hm : mGoP w x1 x2 t F M Q6 T1 r' z) : z 0 0 = 2 ∧ rel (vTell v π n t M Q6 T1, π) z := by
  unfold mGoP at hm
  rw [if_pos ⟨hx.1, (tick_iff ho t).mp hx.2⟩] at hm
  have ht := hx.2
  have hnw := ho.nwr
  unfold xTick at ht
  obtain ⟨h1, h2, h3⟩ := now_rel (w0_bR hb 0) (w0_oR ho 0) hF hM h6 hT (t := t) (by grind) (by grind)
  rw [goQ_rel h1 h2 hF (pb_lt hx.1), hq] at hm
  obtain ⟨rfl, rfl⟩ := hm
  exact ⟨w0_0 _ _, rel_of (w0_bR h1 2) (w0_oR h2 2)⟩
theorem mStart_f {j q : Nat} {t : Int32} {F M : Nat} {f i : Nat} (h : f < 14 ∨ 23 < f) : mStart w j q t F M f i = w f i := by
  unfold mStart mStart1
  rw [up2_f (by omega), up2_f (by omega), up2_f (by omega), up2_f (by omega), mSt_f (by omega)]
theorem goQ_25 (hb : bR v π n σ w) (ho : oR v w) {j q : Nat} (hj : j < 6) {x : Int32} (hq : goQ v π n j x = some q) : q < n ∧ 0 ≤ v 25 j 0 := by
  obtain ⟨q1, q2, q3, q4⟩ := ho.pyr j hj
  unfold goQ at hq
  split at hq
  · obtain ⟨h1, h2, -⟩ := (hb.abv_some q2.2).mp hq
    have := hb.lrg q h1
    exact ⟨h1, by grind⟩
  · obtain ⟨h1, h2, -⟩ := hb.blw_some.mp hq
    have := hb.lrg q h1
    exact ⟨h1, by grind⟩
theorem op_go_0 (hb : bR v π n σ w) (ho : oR v w) {F M Q6 T1 : Nat} (hF : F = 40) (hM : M = 64) (h6 : Q6 = 6) (hT : T1 = 1000) {x1 x2 t r' : Int32} {z : mS} (hx : isPb x1 ∧ xTick v t) {q : Nat} (hq : goQ (vTell v π n t M Q6 T1) π n x1.toNatClampNeg x2 = some q) (hm : mGoP w x1 x2 t F M Q6 T1 r' z) : z 0 0 = 0 ∧ vStart (vTell v π n t M Q6 T1) π x1.toNatClampNeg q t M 27 x1.toNatClampNeg 0 = r' ∧ rel (vStart (vTell v π n t M Q6 T1) π x1.toNatClampNeg q t M, π) z := by
  unfold mGoP at hm
  rw [if_pos ⟨hx.1, (tick_iff ho t).mp hx.2⟩] at hm
  have ht := hx.2
  have hnw := ho.nwr
  unfold xTick at ht
  obtain ⟨h1, h2, h3⟩ := now_rel (w0_bR hb 0) (w0_oR ho 0) hF hM h6 hT (t := t) (by grind) (by grind)
  have hj := pb_lt hx.1
  rw [goQ_rel h1 h2 hF hj, hq] at hm
  obtain ⟨rfl, rfl⟩ := hm
  have h4 := goQ_25 h1 h2 hj hq
  have h5 := start_rel (w0_bR h1 0) (w0_oR h2 0) hF hM hj h4.1 h4.2 (t := t) (by grind)
  refine ⟨?_, ?_, rel_of h5.1 h5.2⟩
  · rw [mStart_f (by decide)]; exact w0_0 _ _
  · rw [h5.1.num q h4.1]
    unfold vStart vStart1
    rw [up3_f (f' := 27) (by decide), up3_f (f' := 27) (by decide), up3_f (f' := 27) (by decide), up3_s, up3_f (f' := 11) (by decide), up3_f (f' := 11) (by decide), up3_f (f' := 11) (by decide), up3_f (f' := 11) (by decide)]
/-- OUT -/
theorem own_rel (ho : oR v w) {ch : Nat} (hch : ch < 64) : mOwn w ch = vLev v (v 17 40 ch) ch := by
  have h1 := ho.prr ch hch
  have h2 := ho.lev (x := v 17 40 ch) hch h1.1 (by grind)
  have h3 : cv (v 17 40 ch) = v 17 40 ch := by unfold cv; grind
  rw [h3] at h2
  unfold mOwn
  rw [ho.prg ch hch, ← h2]
  by_cases h : v 17 40 ch = -1
  · rw [if_pos h, if_neg (by grind)]
  · rw [if_neg h, if_pos (by grind)]
theorem most_rel (ho : oR v w) {ch : Nat} (hch : ch < 64) : ∀ i, i ≤ 6 → mMx w ch i = gL v ch i := by
  intro i
  induction i with
  | zero => intro _; rfl
  | succ i ih =>
    intro hi
    unfold mMx gL
    rw [ih (by omega), ho.now, ho.at (by omega) hch ho.nwr.1, (ho.ply i (by omega)).2.1]
    by_cases h : gL v ch i < vAt v i ch (v 5 0 0) * v 26 i 0 / 255
    · rw [if_pos h, if_neg (by grind)]
    · rw [if_neg h, if_pos (by grind)]
theorem last_rel (ho : oR v w) {ch : Nat} (hch : ch < 64) : ∀ i, i ≤ 6 → lL v ch i = (match mLs w ch i with | none => (0, 0) | some p => (vAt v p ch (v 5 0 0), v 24 p ch)) := by
  intro i
  induction i with
  | zero => intro _; rfl
  | succ i ih =>
    intro hi
    have e : ∀ p, p < 6 → w 21 (64 * p + ch) = v 24 p ch := fun p hp => (ho.fad p hp ch hch).2.2.2.2
    have hg := (ho.fdr i (by omega) ch hch).2.2.2.2
    unfold lL mLs
    rw [ih (by omega), e i (by omega)]
    by_cases h : v 24 i ch = -1
    · rw [if_pos h, if_pos h]
    · rw [if_neg h, if_neg h]
      cases hm : mLs w ch i with
      | none =>
        simp only
        rw [if_neg (by grind)]
      | some p =>
        have hp := mLs_lt _ _ hm
        simp only
        rw [e p (by omega)]
        by_cases h2 : v 24 i ch < v 24 p ch
        · rw [if_pos h2, if_pos h2]
        · rw [if_neg h2, if_neg h2]
theorem out_rel (ho : oR v w) {ch Q6 : Nat} (hch : ch < 64) (h6 : Q6 = 6) : outA v ch Q6 = mOutA w ch Q6 := by
  unfold outA mOutA
  rw [own_rel ho hch]
  have hr := ho.lev_rg (x := v 17 40 ch) hch
  by_cases h : vLev v (v 17 40 ch) ch = -1
  · rw [if_pos h, if_pos (c := vLev v (v 17 40 ch) ch < 0) (by rw [h]; decide)]
    unfold mMg
    rw [ho.att ch hch, most_rel ho hch Q6 (by omega), last_rel ho hch Q6 (by omega)]
    by_cases h2 : v 0 0 ch = 0
    · rw [if_pos h2, if_pos h2]
    · rw [if_neg h2, if_neg h2]
      cases hm : mLs w ch Q6 with
      | none => rfl
      | some p =>
        have hp := mLs_lt _ _ hm
        unfold mLsA
        simp only
        rw [ho.now, ho.at (by omega) hch ho.nwr.1]
  · rw [if_neg h, if_neg (by grind)]
theorem op_out_1 (hb : bR v π n σ w) (ho : oR v w) {F M Q6 K : Nat} {x1 t r' : Int32} {z : mS} (hx : ¬ (isCh x1 ∧ xTick v t)) (hm : mOutP w x1 t F M Q6 K r' z) : z 0 0 = 1 ∧ rel (v, π) z := by
  unfold mOutP at hm
  rw [if_neg (fun y => hx ⟨y.1, (tick_iff ho t).mpr y.2⟩)] at hm
  obtain ⟨rfl, rfl⟩ := hm
  exact ⟨w0_0 _ _, rel_of (w0_bR hb 1) (w0_oR ho 1)⟩
theorem mTl_0 {F M Q6 : Nat} {t : Int32} : ∀ K (w : mS), mTl t F M Q6 K w 0 0 = w 0 0 := by
  intro K
  induction K with
  | zero => intro w; rfl
  | succ K ih =>
    intro w
    unfold mTl
    cases mDu w t Q6 with
    | none => rfl
    | some p =>
      simp only
      rw [ih]
      unfold mFol
      cases mAbv w (w 12 p) (w 14 p) F with
      | none => rfl
      | some q =>
        simp only
        rw [mStart_f (by decide)]; rfl
theorem op_out_0 (hb : bR v π n σ w) (ho : oR v w) {F M Q6 T1 : Nat} (hF : F = 40) (hM : M = 64) (h6 : Q6 = 6) (hT : T1 = 1000) {x1 t r' : Int32} {z : mS} (hx : isCh x1 ∧ xTick v t) (hm : mOutP w x1 t F M Q6 T1 r' z) : z 0 0 = 0 ∧ outA (vTell v π n t M Q6 T1) x1.toNatClampNeg Q6 = r' ∧ rel (vTell v π n t M Q6 T1, π) z := by
  unfold mOutP at hm
  rw [if_pos ⟨hx.1, (tick_iff ho t).mp hx.2⟩] at hm
  have ht := hx.2
  have hnw := ho.nwr
  unfold xTick at ht
  obtain ⟨h1, h2, h3⟩ := now_rel (w0_bR hb 0) (w0_oR ho 0) hF hM h6 hT (t := t) (by grind) (by grind)
  obtain ⟨rfl, rfl⟩ := hm
  refine ⟨?_, out_rel h2 (ch_lt hx.1) h6, rel_of h1 h2⟩
  unfold mNow
  rw [up2_f (by decide), mTl_0]
  exact w0_0 _ _
/-! what the model's go and out ask -/
theorem go_ask (hb : bR v π n σ w) (ho : oR v w) {F M Q6 : Nat} (hF : F = 40) (hM : M = 64) (h6 : Q6 = 6) {T1 : Nat} (hT : T1 = 1000) (t : Int32) (P : Prop) [Decidable P] (hP : P → mTick w t) : ∃ K, (P → K = T1) ∧ (P → mTok t F M Q6 K (up2 w 0 0 0)) ∧ mV (mNow (up2 w 0 0 0) t F M Q6 K) ∧ mO (mNow (up2 w 0 0 0) t F M Q6 K) t ∧ (∀ ch, ch < 64 → (mNow (up2 w 0 0 0) t F M Q6 K) 2 ch < 272 ∨ (mNow (up2 w 0 0 0) t F M Q6 K) 2 ch = 300) ∧ mO (mNow (up2 w 0 0 0) t F M Q6 K) ((mNow (up2 w 0 0 0) t F M Q6 K) 22 0) := by
  by_cases h : P
  · refine ⟨T1, fun _ => rfl, ?_⟩
    have ht := hP h
    have hnw := ho.nwr
    unfold mTick at ht
    rw [ho.now] at ht
    obtain ⟨h1, h2, h3⟩ := now_rel (w0_bR hb 0) (w0_oR ho 0) hF hM h6 hT (t := t) (by grind) (by grind)
    exact ⟨fun _ => h3, h1.mv, h2.mo _, fun ch hch => by rw [h2.prg ch hch]; exact Or.inl (h2.prr ch hch).2, h2.mo _⟩
  · refine ⟨0, fun z => absurd z h, fun z => absurd z h, ?_⟩
    have e : ∀ f i, f ≠ 22 → f ≠ 0 → mNow (up2 w 0 0 0) t F M Q6 0 f i = w f i := fun f i h1 h2 => by
      unfold mNow mTl
      rw [up2_f h1, up2_f h2]
    have hmo : ∀ x, mO (mNow (up2 w 0 0 0) t F M Q6 0) x := fun x j ch hj hch => by
      rw [e 19 _ (by decide) (by decide)]
      exact ho.mo x j ch hj hch
    refine ⟨fun q ch hq hch => ?_, hmo _, fun ch hch => ?_, hmo _⟩
    · rw [e 10 _ (by decide) (by decide)]; exact hb.mv q ch hq hch
    · rw [e 2 _ (by decide) (by decide), ho.prg ch hch]; exact Or.inl (ho.prr ch hch).2
end TL

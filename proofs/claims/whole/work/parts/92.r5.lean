/-! STARTING AND TELLING -/
theorem fade_rg {fr to p ln : Int32} (h1 : 0 ≤ fr) (h2 : fr ≤ 255) (h3 : 0 ≤ to) (h4 : to ≤ 255) (h5 : 0 ≤ p) (h6 : p < ln) (h7 : ln ≤ 10000) : 0 ≤ fr + (to - fr) * p / ln ∧ fr + (to - fr) * p / ln ≤ 255 := by
  have e0 : (0 : Int32).toInt = 0 := by decide
  have e1 : (255 : Int32).toInt = 255 := by decide
  have e2 : (10000 : Int32).toInt = 10000 := by decide
  rw [Int32.le_iff_toInt_le] at h1 h2 h3 h4 h5 h7
  rw [Int32.lt_iff_toInt_lt] at h6
  rw [e0] at h1 h3 h5
  rw [e1] at h2 h4
  rw [e2] at h7
  have bm : ∀ z : Int, -2147483648 ≤ z → z < 2147483648 → z.bmod (2 ^ 32) = z := fun z a b => by rw [Int.bmod_def]; omega
  have hd : (to - fr).toInt = to.toInt - fr.toInt := by rw [Int32.toInt_sub, bm _ (by omega) (by omega)]
  generalize hD : to.toInt - fr.toInt = d at hd
  generalize hP : p.toInt = P at *
  generalize hL : ln.toInt = L at *
  have hb1 : -2550000 ≤ d * P ∧ d * P ≤ 2550000 := by
    constructor
    · have : (-255) * P ≤ d * P := Int.mul_le_mul_of_nonneg_right (by omega) h5
      omega
    · have : d * P ≤ 255 * P := Int.mul_le_mul_of_nonneg_right (by omega) h5
      omega
  have hm : ((to - fr) * p).toInt = d * P := by rw [Int32.toInt_mul, hd, hP, bm _ (by omega) (by omega)]
  have hq : (0 ≤ d → 0 ≤ (d * P).tdiv L ∧ (d * P).tdiv L ≤ d) ∧ (d ≤ 0 → d ≤ (d * P).tdiv L ∧ (d * P).tdiv L ≤ 0) := by
    have key : ∀ e : Int, 0 ≤ e → 0 ≤ (e * P).tdiv L ∧ (e * P).tdiv L ≤ e := by
      intro e he
      have hn : 0 ≤ e * P := Int.mul_nonneg he h5
      rw [Int.tdiv_eq_ediv_of_nonneg hn]
      refine ⟨Int.ediv_nonneg hn (by omega), ?_⟩
      have : e * P / L ≤ e * L / L := Int.ediv_le_ediv (by omega) (Int.mul_le_mul_of_nonneg_left (by omega) he)
      rwa [Int.mul_ediv_cancel _ (by omega)] at this
    refine ⟨key d, fun hd0 => ?_⟩
    have h := key (-d) (by omega)
    rw [Int.neg_mul, Int.neg_tdiv] at h
    omega
  have hv : ((to - fr) * p / ln).toInt = (d * P).tdiv L := by
    rw [Int32.toInt_div, hm, hL]
    apply bm <;> omega
  have hr : (fr + (to - fr) * p / ln).toInt = fr.toInt + (d * P).tdiv L := by
    rw [Int32.toInt_add, hv]
    apply bm <;> omega
  rw [Int32.le_iff_toInt_le, Int32.le_iff_toInt_le, hr, e0, e1]
  omega
section ST
variable {v : Nat → Nat → Nat → Int32} {π : Nat → Nat} {n : Nat} {σ : Nat → Nat} {w : mS}
theorem oR.at_rg (ho : oR v w) {j ch : Nat} (hj : j < 6) (hch : ch < 64) {x : Int32} (hx : 0 ≤ x) : 0 ≤ vAt v j ch x ∧ vAt v j ch x ≤ 255 := by
  obtain ⟨r1, r2, r3, r4, r5⟩ := ho.fdr j hj ch hch
  unfold vAt vFade
  split
  · rename_i h
    split
    · rename_i h8
      exact fade_rg r1.1 r1.2 r2.1 r2.2 h h8 r4.2
    · exact r2
  · exact r1
theorem oR.lev_rg (ho : oR v w) {x : Int32} {ch : Nat} (hch : ch < 64) : -1 ≤ vLev v x ch ∧ vLev v x ch ≤ 255 := by
  unfold vLev
  split
  · decide
  split
  · decide
  split
  · rename_i h1 h2 h3; grind
  · rename_i h1 h2 h3
    exact ho.plr _ (lev_ix h1 h2 h3 hch).2
theorem vFd_f {j ch o : Nat} {x t : Int32} {f j' i : Nat} (h : f < 20 ∨ 24 < f) : vFd v j ch x o t f j' i = v f j' i := by
  unfold vFd
  rw [up3_f (by omega), up3_f (by omega), up3_f (by omega), up3_f (by omega), up3_f (by omega)]
theorem ix_ne {j j' ch ch' : Nat} (hc : ch < 64) (hc' : ch' < 64) (h : ¬ (j' = j ∧ ch' = ch)) : 64 * j' + ch' ≠ 64 * j + ch := by omega
theorem oR.fade (hb : bR v π n σ w) (ho : oR v w) {j ch q : Nat} (hj : j < 6) (hch : ch < 64) (hq : q < n) {x t : Int32} (hx : 0 ≤ x ∧ x ≤ 255) (ht : 0 ≤ t ∧ t ≤ 1000000000) : oR (vFd v j ch x (π q) t) (mFd w (64 * j + ch) x (σ q) t) := by
  have hat := ho.at hj hch ht.1
  have hrg := ho.at_rg hj hch ht.1
  have htm := hb.tms q hq
  have htr := hb.trg q hq
  unfold isTm at htr
  exact oR_mk
    (att := ho.att)
    (prg := ho.prg)
    (prr := ho.prr)
    (phl := by rw [vFd_f (by decide), hc_congr 64 (fun i _ => vFd_f (by decide))]; exact ho.phl)
    (pal := ho.pal)
    (plr := ho.plr)
    (now := ho.now)
    (nwr := ho.nwr)
    (sts := ho.sts)
    (ply := ho.ply)
    (pyr := ho.pyr)
    (fad := fun j' hj' ch' hch' => by
      by_cases he : j' = j ∧ ch' = ch
      · obtain ⟨rfl, rfl⟩ := he
        unfold vFd mFd
        rw [hat, s16_id (x := vAt v j' ch' t) (by grind) (by grind), s16_id (x := x) (by grind) (by grind), htm.1, htm.2.1, htm.2.2.1]
        simp [up2, up3]
      · have h0 := ho.fad j' hj' ch' hch'
        have hne := ix_ne (j := j) (j' := j') hch hch' he
        have e : ∀ f, vFd v j ch x (π q) t f j' ch' = v f j' ch' := by
          intro f
          by_cases hjj : j' = j
          · have hcc : ch' ≠ ch := fun z => he ⟨hjj, z⟩
            unfold vFd
            rw [up3_i hcc, up3_i hcc, up3_i hcc, up3_i hcc, up3_i hcc]
          · unfold vFd
            rw [up3_j hjj, up3_j hjj, up3_j hjj, up3_j hjj, up3_j hjj]
        rw [mFd_i hne, mFd_i hne, mFd_i hne, mFd_i hne, mFd_i hne, e, e, e, e, e]
        exact h0)
    (fdr := fun j' hj' ch' hch' => by
      have h0 := ho.fdr j' hj' ch' hch'
      by_cases he : j' = j ∧ ch' = ch
      · obtain ⟨rfl, rfl⟩ := he
        unfold vFd
        simp only [up3, if_true]
        simp only [show ((20 : Nat) = 24) = False by simp, show ((20 : Nat) = 23) = False by simp, show ((20 : Nat) = 22) = False by simp, show ((20 : Nat) = 21) = False by simp, show ((21 : Nat) = 24) = False by simp, show ((21 : Nat) = 23) = False by simp, show ((21 : Nat) = 22) = False by simp, show ((22 : Nat) = 24) = False by simp, show ((22 : Nat) = 23) = False by simp, show ((23 : Nat) = 24) = False by simp, if_false]
        refine ⟨hrg, hx, by grind, ?_, by grind⟩
        split <;> grind
      · have e : ∀ f, vFd v j ch x (π q) t f j' ch' = v f j' ch' := by
          intro f
          by_cases hjj : j' = j
          · have hcc : ch' ≠ ch := fun z => he ⟨hjj, z⟩
            unfold vFd
            rw [up3_i hcc, up3_i hcc, up3_i hcc, up3_i hcc, up3_i hcc]
          · unfold vFd
            rw [up3_j hjj, up3_j hjj, up3_j hjj, up3_j hjj, up3_j hjj]
        rw [e, e, e, e, e]
        exact h0)
theorem st_rel (hb : bR v π n σ w) (ho : oR v w) {F : Nat} (hF : F = 40) {j q : Nat} (hj : j < 6) (hq : q < n) {t : Int32} (ht : 0 ≤ t ∧ t ≤ 1000000000) : ∀ i, i ≤ 64 → bR (stt v π j q t i) π n σ (mSt w j (σ q) t F i) ∧ oR (stt v π j q t i) (mSt w j (σ q) t F i) := by
  intro i
  induction i with
  | zero => intro _; exact ⟨hb, ho⟩
  | succ i ih =>
    intro hi
    obtain ⟨hb1, ho1⟩ := ih (by omega)
    unfold stt mSt
    generalize stt v π j q t i = V at hb1 ho1 ⊢
    generalize mSt w j (σ q) t F i = W at hb1 ho1 ⊢
    have hl := look_eq hb1 ho1 hF hq (show i < 64 by omega) (hb1.lst q hq).symm (hb1.num q hq).symm
    have hr := ho1.lev_rg (x := trk V π i (some q)) (show i < 64 by omega)
    rw [hl]
    by_cases h : vLev V (trk V π i (some q)) i = -1
    · rw [if_pos h, if_pos (by rw [h]; decide)]
      exact ⟨hb1, ho1⟩
    · rw [if_neg h, if_neg (by grind)]
      exact ⟨hb1.congr (fun f j i hf => vFd_f (by omega)) (fun f i h1 h2 => mFd_f (by omega)), oR.fade hb1 ho1 hj (by omega) hq (by grind) ht⟩
theorem start_rel (hb : bR v π n σ w) (ho : oR v w) {F M : Nat} (hF : F = 40) (hM : M = 64) {j q : Nat} (hj : j < 6) (hq : q < n) (hlst : 0 ≤ v 25 j 0) {t : Int32} (ht : 0 ≤ t ∧ t ≤ 1000000000) : bR (vStart v π j q t M) π n σ (mStart w j (σ q) t F M) ∧ oR (vStart v π j q t M) (mStart w j (σ q) t F M) := by
  have h1 := st_rel hb ho hF hj hq ht M (by omega)
  have h25 : stt v π j q t M 25 j 0 = v 25 j 0 := by
    clear h1 hM
    induction M with
    | zero => rfl
    | succ M ih =>
      unfold stt
      split
      · exact ih
      · rw [vFd_f (by decide)]; exact ih
  rw [← h25] at hlst
  unfold vStart mStart
  generalize stt v π j q t M = V at h1 hlst ⊢
  generalize mSt w j (σ q) t F M = W at h1 ⊢
  obtain ⟨hb1, ho1⟩ := h1
  have hn := hb1.nrg q hq
  have htm := hb1.tms q hq
  have htr := hb1.trg q hq
  have hnm := hb1.num q hq
  have hfo : (-1 ≤ (if V 15 (π q) 0 = -1 then -1 else t + V 15 (π q) 0)) ∧ (if V 15 (π q) 0 = -1 then -1 else t + V 15 (π q) 0) ≤ 1000010000 := by
    have := htr.2.2.2
    unfold isTm at this
    split <;> grind
  have eV : ∀ f j' i, f ≠ 27 → f ≠ 28 → f ≠ 29 → f ≠ 6 → vStart1 V j (π q) t f j' i = V f j' i := fun f j' i h1 h2 h3 h4 => by unfold vStart1; rw [up3_f h4, up3_f h3, up3_f h2, up3_f h1]
  have eW : ∀ f i, f ≠ 14 → f ≠ 15 → f ≠ 16 → f ≠ 23 → mStart1 W j (σ q) t f i = W f i := fun f i h1 h2 h3 h4 => by unfold mStart1; rw [up2_f h4, up2_f h3, up2_f h2, up2_f h1]
  refine ⟨hb1.congr (fun f j i hf => eV _ _ _ (by omega) (by omega) (by omega) (by omega)) (fun f i h1 h2 => eW _ _ (by omega) (by omega) (by omega) (by omega)), ?_⟩
  exact oR_mk
    (att := ho1.att)
    (prg := ho1.prg)
    (prr := ho1.prr)
    (phl := by rw [eV _ _ _ (by decide) (by decide) (by decide) (by decide), hc_congr 64 (fun i _ => eV _ _ _ (by decide) (by decide) (by decide) (by decide))]; exact ho1.phl)
    (pal := ho1.pal)
    (plr := ho1.plr)
    (now := ho1.now)
    (nwr := ho1.nwr)
    (sts := by
      unfold vStart1 mStart1
      rw [up2_s, up3_s, ho1.sts])
    (ply := fun j' hj' => by
      have h0 := ho1.ply j' hj'
      refine ⟨h0.1, h0.2.1, ?_, ?_, ?_⟩
      · unfold vStart1 mStart1
        rw [up2_f (by decide), up2_f (by decide), up2_f (by decide), up3_f (by decide), up3_f (by decide), up3_f (by decide)]
        by_cases he : j' = j
        · rw [he, up2_s, up3_s, hnm]
        · rw [up2_i he, up3_j he]; exact h0.2.2.1
      · unfold vStart1 mStart1
        rw [up2_f (by decide), up2_f (by decide), up3_f (by decide), up3_f (by decide)]
        by_cases he : j' = j
        · rw [he, up2_s, up3_s]
        · rw [up2_i he, up3_j he, up2_f (by decide), up3_f (by decide)]; exact h0.2.2.2.1
      · unfold vStart1 mStart1
        rw [up2_f (by decide), up3_f (by decide)]
        by_cases he : j' = j
        · rw [he, up2_s, up3_s, htm.2.2.2]
        · rw [up2_i he, up3_j he, up2_f (by decide), up3_f (by decide), up2_f (by decide), up3_f (by decide)]; exact h0.2.2.2.2)
    (pyr := fun j' hj' => by
      have h0 := ho1.pyr j' hj'
      by_cases he : j' = j
      · subst he
        refine ⟨h0.1, ?_, ?_, Or.inr hlst⟩
        · have e : vStart1 V j' (π q) t 27 j' 0 = V 11 (π q) 0 := by simp [vStart1, up3]
          rw [e]; grind
        · have e : vStart1 V j' (π q) t 29 j' 0 = if V 15 (π q) 0 = -1 then -1 else t + V 15 (π q) 0 := by simp [vStart1, up3]
          rw [e]; exact hfo
      · have e : ∀ f, f ≠ 6 → vStart1 V j (π q) t f j' 0 = V f j' 0 := by
          intro f hf
          unfold vStart1
          rw [up3_f hf, up3_j he, up3_j he, up3_j he]
        rw [e 25 (by decide), e 27 (by decide), e 29 (by decide)]
        exact h0)
    (fad := ho1.fad)
    (fdr := ho1.fdr)
/-! what the class reads of its state -/
theorem sGo_congr {v v' : Nat → Nat → Nat → Int32} {a : Int32} {ch : Nat} : ∀ k, (∀ p, p < k → v' 10 (π p) 0 = v 10 (π p) 0 ∧ v' 17 (π p) ch = v 17 (π p) ch) → sGo v' π a ch k = sGo v π a ch k := by
  intro k
  induction k with
  | zero => intro _; rfl
  | succ k ih =>
    intro h
    unfold sGo
    rw [ih (fun p hp => h p (by omega)), (h k (by omega)).1, (h k (by omega)).2]
theorem srcO_congr {v v' : Nat → Nat → Nat → Int32} {ch : Nat} {X : Option Nat} (h : ∀ p q, X = some q → p ≤ q → v' 10 (π p) 0 = v 10 (π p) 0 ∧ v' 17 (π p) ch = v 17 (π p) ch) : srcO v' π ch X = srcO v π ch X := by
  cases X with
  | none => rfl
  | some q =>
    unfold srcO
    simp only
    rw [(h q q rfl (Nat.le_refl _)).1]
    exact sGo_congr _ (fun p hp => h p q rfl (by omega))
theorem trk_congr {v v' : Nat → Nat → Nat → Int32} {ch : Nat} {X : Option Nat} (h : ∀ p q, X = some q → p ≤ q → v' 10 (π p) 0 = v 10 (π p) 0 ∧ v' 17 (π p) ch = v 17 (π p) ch) : trk v' π ch X = trk v π ch X := by
  unfold trk
  rw [srcO_congr h]
  cases X with
  | none => rfl
  | some q =>
    cases hs : srcO v π ch (some q) with
    | none => rfl
    | some p =>
      have := srcO_lt (v := v) (π := π) (ch := ch) (n := q + 1) (X := some q) (fun z hz => by cases hz; omega) p hs
      exact (h p q rfl (by omega)).2
theorem up3_comm {f j i f' j' i' : Nat} {x y : Int32} (h : f ≠ f') : up3 (up3 v f j i x) f' j' i' y = up3 (up3 v f' j' i' y) f j i x := by
  funext a b c
  unfold up3
  grind
theorem vFd_29 {j ch o j0 : Nat} {x t y : Int32} : vFd (up3 v 29 j0 0 y) j ch x o t = up3 (vFd v j ch x o t) 29 j0 0 y := by
  have e : vAt (up3 v 29 j0 0 y) j ch t = vAt v j ch t := rfl
  unfold vFd
  rw [e, up3_comm (f := 29) (f' := 20) (by decide), up3_comm (f := 29) (f' := 21) (by decide), up3_comm (f := 29) (f' := 22) (by decide), up3_comm (f := 29) (f' := 23) (by decide), up3_comm (f := 29) (f' := 24) (by decide)]
  rfl
theorem stt_29 {j q j0 : Nat} {t y : Int32} : ∀ i, stt (up3 v 29 j0 0 y) π j q t i = up3 (stt v π j q t i) 29 j0 0 y := by
  intro i
  induction i with
  | zero => rfl
  | succ i ih =>
    unfold stt
    rw [ih]
    generalize stt v π j q t i = V
    have e : trk (up3 V 29 j0 0 y) π i (some q) = trk V π i (some q) := trk_congr (fun p q _ _ => ⟨rfl, rfl⟩)
    have e2 : ∀ z, vLev (up3 V 29 j0 0 y) z i = vLev V z i := fun z => rfl
    rw [e, e2, vFd_29]
    split <;> rfl
theorem vStart_29 {j q : Nat} {t y : Int32} {M : Nat} : vStart (up3 v 29 j 0 y) π j q t M = vStart v π j q t M := by
  unfold vStart
  rw [stt_29]
  generalize stt v π j q t M = V
  funext a b c
  unfold vStart1 up3
  grind
end ST

/-! EDITS: moves of cues -/
section ED
variable {v : Nat → Nat → Nat → Int32} {π : Nat → Nat} {n : Nat} {σ : Nat → Nat} {w : mS}
theorem bR.moves (hb : bR v π n σ w) {v' : Nat → Nat → Nat → Int32} {w' : mS} (e : ∀ f j i, f ≠ 16 → f ≠ 17 → v' f j i = v f j i) (g : ∀ f i, f ≠ 10 → 4 ≤ f → f ≤ 9 → w' f i = w f i) (h1 : ∀ p, p < n → ∀ ch, ch < 64 → w' 10 (64 * σ p + ch) = cv (v' 17 (π p) ch)) (h2 : ∀ p, p < n → ∀ ch, ch < 64 → -1 ≤ v' 17 (π p) ch ∧ v' 17 (π p) ch ≤ 272) (h3 : ∀ p, p < n → v' 16 (π p) 0 = hc v' (π p) 64) (h4 : mV w') : bR v' π n σ w' := by
  exact bR_mk
    (bk := ⟨by rw [e 4 0 0 (by decide) (by decide)]; exact hb.bk.1, hb.bk.2⟩)
    (pij := hb.pij)
    (slt := hb.slt)
    (sij := hb.sij)
    (fre := fun q hq hn => by rw [g 4 q (by decide) (by decide) (by decide)]; exact hb.fre q hq hn)
    (lst := fun p hp => by rw [g 4 _ (by decide) (by decide) (by decide), e 10 _ _ (by decide) (by decide)]; exact hb.lst p hp)
    (num := fun p hp => by rw [g 5 _ (by decide) (by decide) (by decide), e 11 _ _ (by decide) (by decide)]; exact hb.num p hp)
    (lrg := fun p hp => by rw [e 10 _ _ (by decide) (by decide)]; exact hb.lrg p hp)
    (nrg := fun p hp => by rw [e 11 _ _ (by decide) (by decide)]; exact hb.nrg p hp)
    (srt := fun p p' a b => by rw [e 10 (π p) _ (by decide) (by decide), e 11 (π p) _ (by decide) (by decide), e 10 (π p') _ (by decide) (by decide), e 11 (π p') _ (by decide) (by decide)]; exact hb.srt p p' a b)
    (tms := fun p hp => by rw [g 6 _ (by decide) (by decide) (by decide), g 7 _ (by decide) (by decide) (by decide), g 8 _ (by decide) (by decide) (by decide), g 9 _ (by decide) (by decide) (by decide), e 12 _ _ (by decide) (by decide), e 13 _ _ (by decide) (by decide), e 14 _ _ (by decide) (by decide), e 15 _ _ (by decide) (by decide)]; exact hb.tms p hp)
    (trg := fun p hp => by rw [e 12 _ _ (by decide) (by decide), e 13 _ _ (by decide) (by decide), e 14 _ _ (by decide) (by decide), e 15 _ _ (by decide) (by decide)]; exact hb.trg p hp)
    (mov := h1)
    (mrg := h2)
    (hld := h3)
    (mv := h4)
theorem cv_rg {x : Int32} (h : x ≤ 272) : cv x < 272 ∨ cv x = 300 := by unfold cv; grind
theorem cv_s16 {x : Int32} (h1 : -1 ≤ x) (h2 : x ≤ 272) : s16 (cv x) = cv x := s16_id (by unfold cv; grind) (by unfold cv; grind)
theorem cv_inj {x y : Int32} (h1 : x ≤ 272) (h2 : y ≤ 272) (h : cv x = cv y) : x = y := by unfold cv at h; grind
theorem qslot_ne {q q' c c' : Nat} (hc : c < 64) (hc' : c' < 64) (h : ¬ (q' = q ∧ c' = c)) : 64 * q' + c' ≠ 64 * q + c := by omega
theorem bR.put (hb : bR v π n σ w) {p : Nat} (hp : p < n) {ch : Nat} (hch : ch < 64) {x y : Int32} (hx : 0 ≤ x ∧ x ≤ 272) (hy : y = cv x) : bR (vPut v (π p) ch x) π n σ (up2 w 10 (64 * σ p + ch) y) := by
  refine hb.moves (fun f j i h1 h2 => vPut_f h1 h2) (fun f i h1 _ _ => up2_f h1) (fun p' hp' c hc => ?_) (fun p' hp' c hc => ?_) (fun p' hp' => ?_) (fun q c hq hc => ?_)
  · by_cases he : p' = p
    · subst he
      rw [vPut_17]
      by_cases hcc : c = ch
      · rw [if_pos hcc, hcc, up2_s]; exact hy
      · rw [if_neg hcc, up2_i (by omega)]; exact hb.mov p' hp' c hc
    · rw [vPut_j (hb.pne hp' hp he), up2_i (qslot_ne hch hc (fun z => hb.sne hp' hp he z.1))]; exact hb.mov p' hp' c hc
  · by_cases he : p' = p
    · subst he
      rw [vPut_17]
      by_cases hcc : c = ch
      · rw [if_pos hcc]; grind
      · rw [if_neg hcc]; exact hb.mrg p' hp' c hc
    · rw [vPut_j (hb.pne hp' hp he)]; exact hb.mrg p' hp' c hc
  · by_cases he : p' = p
    · subst he
      exact hc_put (by grind) hch (hb.hld p' hp')
    · rw [vPut_j (hb.pne hp' hp he), hc_congr 64 (fun i _ => vPut_j (hb.pne hp' hp he))]; exact hb.hld p' hp'
  · by_cases he : 64 * q + c = 64 * σ p + ch
    · rw [he, up2_s, hy]; exact cv_rg hx.2
    · rw [up2_i he]; exact hb.mv q c hq hc
theorem bR.drop (hb : bR v π n σ w) {p : Nat} (hp : p < n) {ch : Nat} (hch : ch < 64) {y : Int32} (hy : y = -1) : bR (vDrop v (π p) ch) π n σ (up2 w 10 (64 * σ p + ch) y) := by
  refine hb.moves (fun f j i h1 h2 => vDrop_f h1 h2) (fun f i h1 _ _ => up2_f h1) (fun p' hp' c hc => ?_) (fun p' hp' c hc => ?_) (fun p' hp' => ?_) (fun q c hq hc => ?_)
  · by_cases he : p' = p
    · subst he
      rw [vDrop_17]
      by_cases hcc : c = ch
      · rw [if_pos hcc, hcc, up2_s, hy]; rfl
      · rw [if_neg hcc, up2_i (by omega)]; exact hb.mov p' hp' c hc
    · rw [vDrop_j (hb.pne hp' hp he), up2_i (qslot_ne hch hc (fun z => hb.sne hp' hp he z.1))]; exact hb.mov p' hp' c hc
  · by_cases he : p' = p
    · subst he
      rw [vDrop_17]
      by_cases hcc : c = ch
      · rw [if_pos hcc]; decide
      · rw [if_neg hcc]; exact hb.mrg p' hp' c hc
    · rw [vDrop_j (hb.pne hp' hp he)]; exact hb.mrg p' hp' c hc
  · by_cases he : p' = p
    · subst he
      exact hc_drop hch (hb.hld p' hp')
    · rw [vDrop_j (hb.pne hp' hp he), hc_congr 64 (fun i _ => vDrop_j (hb.pne hp' hp he))]; exact hb.hld p' hp'
  · by_cases he : 64 * q + c = 64 * σ p + ch
    · rw [he, up2_s, hy]; exact Or.inl (by decide)
    · rw [up2_i he]; exact hb.mv q c hq hc
theorem up2_same {f i : Nat} {x : Int32} (h : w f i = x) : up2 w f i x = w := by
  funext a b
  unfold up2
  grind
/-! the model's note -/
theorem mNt_11 {q F : Nat} : ∀ k i, i < k → mNt w q F k 11 i = s16 (mTrk (mNt w q F i) (mNt w q F i 4 q) (mNt w q F i 5 q) i F) := by
  intro k
  induction k with
  | zero => intro i h; omega
  | succ k ih =>
    intro i hi
    rw [show mNt w q F (k + 1) = up2 (mNt w q F k) 11 k (s16 (mTrk (mNt w q F k) (mNt w q F k 4 q) (mNt w q F k 5 q) k F)) from rfl]
    by_cases he : i = k
    · subst he; rw [up2_s]
    · rw [up2_i he]; exact ih i (by omega)
theorem bR.nt (hb : bR v π n σ w) {q F : Nat} (k : Nat) : bR v π n σ (mNt w q F k) := hb.congr (fun _ _ _ _ => rfl) (fun f i h1 h2 => mNt_f (by omega) k)
theorem bR.nn (hb : bR v π n σ w) (k : Nat) : bR v π n σ (mNn w k) := hb.congr (fun _ _ _ _ => rfl) (fun f i h1 h2 => mNn_f (by omega) k)
theorem oR.nt (ho : oR v w) {q F : Nat} (k : Nat) : oR v (mNt w q F k) := ho.congr (fun _ _ _ _ => rfl) (fun f i h1 => mNt_f (by omega) k)
theorem oR.nn (ho : oR v w) (k : Nat) : oR v (mNn w k) := ho.congr (fun _ _ _ _ => rfl) (fun f i h1 => mNn_f (by omega) k)
theorem bR.kept (hb : bR v π n σ w) {F : Nat} (hF : F = 40) {p : Nat} (hp : p < n) {k c : Nat} (hk : c < k) (hc : c < 64) : mNt w (σ p) F k 11 c = cv (trk v π c (some p)) := by
  rw [mNt_11 k c hk]
  have hb1 := hb.nt (q := σ p) (F := F) c
  have hr := hb.trk_rg hc (X := some p) (fun q hq => by cases hq; exact hp)
  rw [hb1.tk0 hF hp hc (hb1.lst p hp).symm (hb1.num p hp).symm, cv_s16 hr.1 hr.2]
/-! what the class's loops leave as it was -/
theorem bks_f {q f j c : Nat} (h1 : f ≠ 16) (h2 : f ≠ 17) : ∀ i, bks v π q i f j c = v f j c := by
  intro i
  induction i with
  | zero => rfl
  | succ i ih =>
    unfold bks
    split
    · exact ih
    · rw [vPut_f h1 h2]; exact ih
theorem bks_c {q j c : Nat} : ∀ i, i ≤ c → bks v π q i 17 j c = v 17 j c := by
  intro i
  induction i with
  | zero => intro _; rfl
  | succ i ih =>
    intro hi
    unfold bks
    split
    · exact ih (by omega)
    · rw [← ih (by omega)]
      by_cases hj : j = π q
      · rw [hj, vPut_17, if_neg (by omega)]
      · rw [vPut_j hj]
theorem bks_j {q f j c : Nat} (h : j ≠ π q) : ∀ i, bks v π q i f j c = v f j c := by
  intro i
  induction i with
  | zero => rfl
  | succ i ih =>
    unfold bks
    split
    · exact ih
    · rw [vPut_j h]; exact ih
theorem ubs_f {q f j c : Nat} {B : Option Nat} (h1 : f ≠ 16) (h2 : f ≠ 17) : ∀ i, ubs v π q B i f j c = v f j c := by
  intro i
  induction i with
  | zero => rfl
  | succ i ih =>
    unfold ubs
    split
    · rw [vDrop_f h1 h2]; exact ih
    · exact ih
theorem ubs_j {q f j c : Nat} {B : Option Nat} (h : j ≠ π q) : ∀ i, ubs v π q B i f j c = v f j c := by
  intro i
  induction i with
  | zero => rfl
  | succ i ih =>
    unfold ubs
    split
    · rw [vDrop_j h]; exact ih
    · exact ih
theorem trk_own {p ch : Nat} (h : trk v π ch (some p) = -1) (hv : ∀ p', p' ≤ p → v 17 (π p') ch = -1 ∨ True) : v 17 (π p) ch = -1 := by
  apply Classical.byContradiction
  intro hc
  have h1 : srcO v π ch (some p) = some p := by
    unfold srcO sGo
    simp only
    rw [if_pos trivial, if_neg hc]
  unfold trk at h
  rw [h1] at h
  exact hc h
/-- BLOCK -/
theorem bc_rel (hb : bR v π n σ w) {F : Nat} (hF : F = 40) {q : Nat} (hq : q < n) {a b : Int32} (ha : v 10 (π q) 0 = a) (hbn : v 11 (π q) 0 = b) : ∀ i, i ≤ 64 → mBc w a b (σ q) F i = bkc v π q i := by
  intro i
  induction i with
  | zero => intro _; rfl
  | succ i ih =>
    intro hi
    unfold mBc bkc
    rw [ih (by omega), hb.src hF hq (by omega) ha hbn, hb.mov q hq i (by omega)]
    have h1 := cv_m1 (v 17 (π q) i)
    by_cases h : v 17 (π q) i = -1 ∧ ¬ srcO v π i (some q) = none
    · rw [if_pos h, if_pos ⟨by simpa using h.2, h1.mpr h.1⟩]
    · rw [if_neg h, if_neg (fun z => h ⟨h1.mp z.2, by simpa using z.1⟩)]
      grind
theorem bks_rel (hb : bR v π n σ w) {F M : Nat} (hF : F = 40) (hM : M = 64) {q : Nat} (hq : q < n) : ∀ i, i ≤ 64 → bR (bks v π q i) π n σ (mBb (mNt w (σ q) F M) (σ q) i) := by
  intro i
  induction i with
  | zero => intro _; exact hb.nt _
  | succ i ih =>
    intro hi
    have hb1 := ih (by omega)
    unfold bks mBb
    have hk : ∀ k, mBb (mNt w (σ q) F M) (σ q) k 11 i = mNt w (σ q) F M 11 i := by
      intro k
      induction k with
      | zero => rfl
      | succ k ih => unfold mBb; rw [up2_f (by decide)]; exact ih
    have ht : trk (bks v π q i) π i (some q) = trk v π i (some q) := trk_congr (fun p q' _ _ => ⟨bks_f (by decide) (by decide) i, bks_c i (Nat.le_refl _)⟩)
    rw [hk, hb.kept hF hq (by omega) (by omega), ht]
    have hr := hb.trk_rg (show i < 64 by omega) (X := some q) (fun q' hq' => by cases hq'; exact hq)
    rw [cv_s16 hr.1 hr.2]
    by_cases h : trk v π i (some q) = -1
    · rw [if_pos h, h]
      rw [up2_same]
      · exact hb1
      · rw [hb1.mov q hq i (by omega), bks_c i (Nat.le_refl _), trk_own h (fun _ _ => Or.inr trivial)]
    · rw [if_neg h]
      exact hb1.put hq (by omega) (by grind) rfl
theorem pFor_congr {v v' : Nat → Nat → Nat → Int32} {a b : Int32} (h : ∀ p, v' 10 p 0 = v 10 p 0 ∧ v' 11 p 0 = v 11 p 0) : pFor v' π n a b = pFor v π n a b := pGo_congr h n 0
theorem blwO_congr {v v' : Nat → Nat → Nat → Int32} {a b : Int32} (h : ∀ p, v' 10 p 0 = v 10 p 0 ∧ v' 11 p 0 = v 11 p 0) : blwO v' π n a b = blwO v π n a b := by
  unfold blwO
  rw [pFor_congr h]
  cases pFor v π n a b with
  | zero => rfl
  | succ p =>
    simp only
    have hi : inB v' π n a p ↔ inB v π n a p := by unfold inB; rw [(h (π p)).1]
    by_cases hz : inB v π n a p
    · rw [if_pos hz, if_pos (hi.mpr hz)]
    · rw [if_neg hz, if_neg (fun y => hz (hi.mp y))]
theorem ubs_rel (hb : bR v π n σ w) {F : Nat} (hF : F = 40) {q : Nat} (hq : q < n) {a b : Int32} (ha : v 10 (π q) 0 = a) (hbn : v 11 (π q) 0 = b) : ∀ i, i ≤ 64 → bR (ubs v π q (blwO v π n a b) i) π n σ (mBu w a b (σ q) F i) := by
  intro i
  induction i with
  | zero => intro _; exact hb
  | succ i ih =>
    intro hi
    have hb1 := ih (by omega)
    have hB : blwO (ubs v π q (blwO v π n a b) i) π n a b = blwO v π n a b := blwO_congr (fun p => ⟨ubs_f (by decide) (by decide) i, ubs_f (by decide) (by decide) i⟩)
    unfold ubs mBu
    have ht := hb1.trkB hF hq (show i < 64 by omega) (a := a) (b := b) (by rw [ubs_f (by decide) (by decide)]; exact ha) (by rw [ubs_f (by decide) (by decide)]; exact hbn)
    rw [hB] at ht
    have hr := hb1.trk_rg (show i < 64 by omega) (X := blwO v π n a b) blwO_lt
    rw [ht, hb1.mov q hq i (by omega)]
    have hm := hb1.mrg q hq i (by omega)
    generalize ubs v π q (blwO v π n a b) i 17 (π q) i = x at hm ⊢
    generalize trk (ubs v π q (blwO v π n a b) i) π i (blwO v π n a b) = t at hr ⊢
    have hu : mUn (cv t) = cv (orU t) := by unfold mUn orU cv; grind
    have ho2 : orU t ≤ 272 ∧ ¬ orU t = -1 := by unfold orU; grind
    rw [hu]
    by_cases h : x = orU t
    · rw [if_pos h, if_pos ⟨fun z => ho2.2 (h ▸ (cv_m1 x).mp z), by rw [h]⟩]
      exact hb1.drop hq (by omega) (by decide)
    · rw [if_neg h, if_neg (fun z => h (cv_inj hm.2 ho2.1 z.2))]
      exact hb1
theorem hc_rg : ∀ (k j : Nat), k ≤ 64 → ∃ m : Nat, m ≤ k ∧ hc v j k = nI m := by
  intro k
  induction k with
  | zero => intro j _; exact ⟨0, Nat.le_refl _, rfl⟩
  | succ k ih =>
    intro j hk
    obtain ⟨m, h1, h2⟩ := ih j (by omega)
    unfold hc
    split
    · exact ⟨m, by omega, h2⟩
    · exact ⟨m + 1, by omega, by rw [h2, nI_1]⟩
theorem hc_nm1 {j : Nat} : ¬ hc v j 64 = -1 := by
  obtain ⟨m, h1, h2⟩ := hc_rg (v := v) 64 j (Nat.le_refl _)
  rw [h2]
  exact nI_nm1 (by omega)
theorem bR.held_nm1 (hb : bR v π n σ w) {p : Nat} (hp : p < n) : ¬ v 16 (π p) 0 = -1 := by
  rw [hb.hld p hp]
  exact hc_nm1
theorem oR.ed {v' : Nat → Nat → Nat → Int32} {w' : mS} (ho : oR v w) (hv : ∀ f j i, (f < 4 ∨ f = 5 ∨ f = 6 ∨ 17 < f ∨ (f = 16 ∧ j = 40) ∨ (f = 17 ∧ j = 40)) → v' f j i = v f j i) (hw : ∀ f i, f < 4 ∨ 11 < f → f ≠ 0 → w' f i = w f i) : oR v' w' := ho.congr (fun f j i h => hv f j i (by omega)) (fun f i h => hw f i (by omega) (by omega))
theorem mBb_f {q f i : Nat} (h : f ≠ 10) : ∀ k, mBb w q k f i = w f i := by
  intro k
  induction k with
  | zero => rfl
  | succ k ih => unfold mBb; rw [up2_f h]; exact ih
theorem mBu_f {a b : Int32} {q F f i : Nat} (h : f ≠ 10) : ∀ k, mBu w a b q F k f i = w f i := by
  intro k
  induction k with
  | zero => rfl
  | succ k ih =>
    unfold mBu
    split
    · rw [up2_f h]; exact ih
    · exact ih
theorem op_block_0 (hb : bR v π n σ w) (ho : oR v w) {F M : Nat} (hF : F = 40) (hM : M = 64) {a b x r r' : Int32} {u : xS} {z : mS} {q : Nat} (hf : fndO v π n a b = some q) (hr : ¬ r = -1) (hx : blkPost v π n q x M r u) (hm : mBlP w a b x F M r' z) : z 0 0 = 0 ∧ r = r' ∧ rel u z := by
  obtain ⟨hq, ha, hbn⟩ := hb.fnd_some.mp hf
  unfold mBlP at hm
  have h0 := w0_bR hb 0
  have h0o := w0_oR ho 0
  rw [hb.fnd hF, hf, if_neg (by simp), h0.fnd hF, hf] at hm
  have h1 := w0_bR h0 0
  have h1o := w0_oR h0o 0
  unfold blkPost at hx
  rw [ha, hbn] at hx
  simp only [Option.map_some] at hm
  unfold mBr at hm
  simp only at hm
  by_cases hx0 : x = 0
  · rw [if_pos hx0] at hx
    rw [if_neg (fun y => y.1 hx0)] at hm
    obtain ⟨rfl, rfl⟩ := hx
    obtain ⟨hz, rfl⟩ := hm
    unfold mBX at hz
    rw [if_pos hx0] at hz
    have h2 := ubs_rel (h1.nt (q := σ q) (F := F) M) hF hq ha hbn M (by omega)
    rw [← hz] at h2
    refine ⟨?_, (h2.mvOf hM hq).symm, rel_of h2 ?_⟩
    · rw [hz, mBu_f (by decide), mNt_f (by decide)]; exact w0_0 _ _
    · refine (h1o.nt (q := σ q) (F := F) M).ed (fun f j i h => ?_) (fun f i h _ => by rw [hz]; exact mBu_f (by omega) M)
      by_cases h9 : f = 16 ∨ f = 17
      · exact ubs_j (by have := hb.plt hq; omega) M
      · exact ubs_f (by omega) (by omega) M
  · rw [if_neg hx0] at hx
    rw [h0.mc hF hM, bc_rel h0 hF hq ha hbn M (by omega)] at hm
    split at hx
    · rename_i hl
      rw [if_neg (fun y => y.2 hl)] at hm
      obtain ⟨rfl, rfl⟩ := hx
      obtain ⟨hz, rfl⟩ := hm
      unfold mBX at hz
      rw [if_neg hx0] at hz
      have h2 := bks_rel h1 hF hM hq M (by omega)
      rw [← hz] at h2
      refine ⟨?_, (h2.mvOf hM hq).symm, rel_of h2 ?_⟩
      · rw [hz, mBb_f (by decide), mNt_f (by decide)]; exact w0_0 _ _
      · refine (h1o.nt (q := σ q) (F := F) M).ed (fun f j i h => ?_) (fun f i h _ => by rw [hz]; exact mBb_f (by omega) M)
        by_cases h9 : f = 16 ∨ f = 17
        · exact bks_j (by have := hb.plt hq; omega) M
        · exact bks_f (by omega) (by omega) M
    · exact absurd hx.2 hr
theorem op_block_1 (hb : bR v π n σ w) (ho : oR v w) {F M : Nat} (hF : F = 40) {a b x r' : Int32} {z : mS} (hf : fndO v π n a b = none) (hm : mBlP w a b x F M r' z) : z 0 0 = 1 ∧ rel (v, π) z := by
  unfold mBlP at hm
  rw [hb.fnd hF, hf, if_pos (c := Option.map σ none = none) rfl] at hm
  obtain ⟨rfl, rfl⟩ := hm
  exact ⟨w0_0 _ _, rel_of (w0_bR hb 1) (w0_oR ho 1)⟩
theorem op_block_2 (hb : bR v π n σ w) (ho : oR v w) {F M : Nat} (hF : F = 40) (hM : M = 64) {a b x r' : Int32} {u : xS} {z : mS} {q : Nat} (hf : fndO v π n a b = some q) (hx : blkPost v π n q x M (-1) u) (hm : mBlP w a b x F M r' z) : z 0 0 = 2 ∧ rel u z := by
  obtain ⟨hq, ha, hbn⟩ := hb.fnd_some.mp hf
  unfold mBlP at hm
  have h0 := w0_bR hb 0
  have h0o := w0_oR ho 0
  rw [hb.fnd hF, hf, if_neg (by simp), h0.fnd hF, hf] at hm
  have h1 := w0_bR h0 0
  unfold blkPost at hx
  rw [ha, hbn] at hx
  simp only [Option.map_some] at hm
  unfold mBr at hm
  simp only at hm
  by_cases hx0 : x = 0
  · rw [if_pos hx0] at hx
    have h2 := ubs_rel h0 hF hq ha hbn M (by omega)
    exact absurd hx.2.symm (h2.held_nm1 hq)
  · rw [if_neg hx0] at hx
    rw [h0.mc hF hM, bc_rel h0 hF hq ha hbn M (by omega)] at hm
    split at hx
    · have h2 := bks_rel h1 hF hM hq M (by omega)
      exact absurd hx.2.symm (h2.held_nm1 hq)
    · rename_i hl
      rw [if_pos ⟨hx0, hl⟩] at hm
      obtain ⟨rfl, rfl⟩ := hm
      obtain ⟨rfl, -⟩ := hx
      exact ⟨w0_0 _ _, rel_of (w0_bR h0 2) (w0_oR h0o 2)⟩
end ED

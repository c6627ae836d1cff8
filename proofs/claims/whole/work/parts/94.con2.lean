section BFILL
variable {p : Program} {l : Launch} {e : Env} {R : Room} {s : State} {m : MethodId} {args : Array Value} {below : List Frame} {meth : Method} {c : Code} {H : Heap} {locs : List Loc} {cells slots : Nat} {Q : State → Prop}
variable {cc : ByteArray} {pc nL : Nat} {ls : Array Slot} {rest : List Value} {D : va_G} {cl : List vw_C} {tys : List (ClassId × FieldType)} {Ts : List Cond} {own : String} {N : Nat} {ad : Nat → Nat} {g : Nat → va_E}
/-- a static method without answer, on one cell of the world, whatever else may change -/
theorem bSv1 {τ : Type} {A : Nat → Prop} {G1 : τ → Nat → va_E} {f1 : τ} {g' : τ → Nat → va_E} {post : τ → Prop} {y : MethodName} {bytes : ByteArray} {maxL fr lo n index : Nat} {ret : Option FieldType} {As : List Value} (S : CallFix p m c cc nL s args Ts own) (hK : va_K D cl tys s) (hN : ∀ w ∈ uNW, va_Nw w s) (hJ : uJ N ad) (hP : va_P D cl (uw N ad g) H) (hS : va_S A s.heap H locs) (k : Nat) (hk : k < N) (hAk : A (ad k)) (hA2 : ∀ q, s.heap.size ≤ q → A q) (hM : uMv l y bytes maxL ret fr lo D cl tys 1 (fun _ => ad k) G1 f1 As post) (hg1 : G1 f1 0 = g k) (hgo : ∀ u, post u → ∀ k', k' < N → (if k' = k then G1 u 0 else g k') = g' u k') (hcw : uCW Ts own index y bytes maxL ret n fr lo R) (hI : Cond.static y ∈ uWS) (hn : As.length = n) (hls : ls.size = nL) {st0 : List Value} (hst : st0 = As.reverse ++ rest) (hW : (rest.map fun v => v.category).sum ≤ 8) (hdg : decode cc pc = .ok (.invokestatic index, 3)) (hc : cells ≤ R.cells ∧ slots ≤ R.slots)
    (kk : ∀ (u : τ) (H1 : Heap) (locs1 : List Loc), post u → va_P D cl (uw N ad (g' u)) H1 → va_S A s.heap H1 locs1 → W p l e R s m args below meth c H1 locs1 cells slots Q (F0 m (pc + 3) ls rest)) : W p l e R s m args below meth c H locs cells slots Q (F0 m pc ls st0) := by
  have hP1 : va_P D cl (uw 1 (fun _ => ad k) (G1 f1)) H := by
    intro i q hq
    obtain ⟨h1, rfl⟩ := uw_inv hq
    have h0 : i = 0 := by omega
    subst h0
    rw [hg1]
    exact hP k _ (uw_get hk)
  have hin : ∀ q, uA 1 (fun _ => ad k) H.size q → A q := by
    intro q hq
    rcases hq with ⟨i, -, h⟩ | h
    · rw [h]; exact hAk
    · exact hA2 q (Nat.le_trans hS.1 h)
  refine va_callv (uRunS S hcw hI (hM H.size) ⟨uB_blind, uB_at hP1 hK hN⟩ hn hls hst hW hdg hc) hS (fun q _ h => hin q h) hin (fun u t H1 locs1 ht _ hp hB _ hkp hS1 => ?_)
  refine kk u H1 locs1 hp ?_ hS1
  have hB1 : va_P D cl (uw 1 (fun _ => ad k) (G1 u)) H1 := by rw [← ht]; exact hB
  intro i q hq
  obtain ⟨h1, rfl⟩ := uw_inv hq
  rw [← hgo u hp i h1]
  by_cases h2 : i = k
  · subst h2
    rw [if_pos rfl]
    exact hB1 0 _ (uw_get (by decide))
  · rw [if_neg h2]
    have h3 := hP i _ (uw_get h1)
    refine h3.kept (hkp _ h3.lt ?_)
    rintro (⟨z, -, h4⟩ | h4)
    · exact h2 (hJ i k h1 hk h4)
    · exact absurd h3.lt (Nat.not_lt.mpr h4)
end BFILL
/-- contents by a list -/
def bL (L : List va_E) (k : Nat) : va_E := L.getD k (.inr (0, []))
theorem bL_set {L : List va_E} {k : Nat} {x : va_E} {N : Nat} (hN : L.length = N) (h : k < N) : ∀ k', k' < N → va_up (bL L) k x k' = bL (L.set k x) k' := by
  intro k' _
  unfold bL
  by_cases he : k' = k
  · subst he
    rw [va_up_self]
    simp [List.getD, hN, h]
  · rw [va_up_ne _ _ he]
    simp [List.getD, List.getElem?_set_ne (Ne.symm he)]
theorem bL_app {L : List va_E} {x : va_E} {N : Nat} (hN : L.length = N) : ∀ k', k' < N + 1 → va_up (bL L) N x k' = bL (L ++ [x]) k' := by
  intro k' h
  unfold bL
  by_cases he : k' = N
  · subst he
    rw [va_up_self]
    simp [List.getD, ← hN]
  · rw [va_up_ne _ _ he]
    simp [List.getD, List.getElem?_append_left (show k' < L.length by omega)]
theorem bL_cat {L L1 : List va_E} {x : va_E} {b : Nat} (hN : L.length = b) : ∀ k' n, k' < n → (if k' < b then bL (L ++ [x]) k' else bL L1 (k' - b)) = bL (L ++ L1) k' := by
  intro k' _ _
  unfold bL
  by_cases h : k' < b
  · rw [if_pos h]
    simp [List.getD, List.getElem?_append_left (show k' < L.length by omega)]
  · rw [if_neg h]
    simp [List.getD, List.getElem?_append_right (show L.length ≤ k' by omega), hN]
theorem bpr_int {n : Nat} (cA : ClassId) : vp_cell cA (n, .inl (fun _ => 0)) = arrV cA n (fun _ => defaultValue .int) := rfl
theorem bpr_bool {n : Nat} (cA : ClassId) : vp_cell cA (n, .inl (fun _ => 0)) = arrV cA n (fun _ => defaultValue .boolean) := rfl
theorem bpr_short {n : Nat} (cA : ClassId) : vp_cell cA (n, .inl (fun _ => 0)) = arrV cA n (fun _ => defaultValue .short) := rfl
theorem bpr_long {n : Nat} (cA : ClassId) : vp_cell cA (n, .inr (.inl (fun _ => 0))) = arrV cA n (fun _ => defaultValue .long) := rfl

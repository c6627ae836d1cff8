/-! THE LAW'S BEGINNING -/
section LN
variable {p : Program} {l : Launch} {e : Env} {R : Room} {s : State} {m : MethodId} {args : Array Value} {below : List Frame} {meth : Method} {c : Code} {H : Heap} {locs : List Loc} {cells slots : Nat} {Q : State → Prop}
variable {cc : ByteArray} {pc nL : Nat} {ls : Array Slot} {rest : List Value} {D : va_G} {cl : List vw_C} {tys : List (ClassId × FieldType)} {Ts : List Cond} {own : String}
theorem lNew {C : String} {T : u_T} {Nf ci index : Nat} {fs : List Value} (S : CallFix p m c cc nL s args Ts own) (hK : va_K D cl tys s) (hS : va_S (lA s) s.heap H locs) (hin : ∀ w ∈ u_ws C T Nf, w ∈ Ts) (ty0 : Nat → FieldType) (hty : ∀ k, k < Nf → parseFieldDescriptor (T k).2.2.1 = some (ty0 k)) (hcl : Cond.classLink own index C ∈ Ts) (hinst : Cond.instantiable C Nf ∈ Ts) (hini : Cond.initialized C ∈ Ts) (hc : cl[ci]? = some (C, T, Nf)) (hfs : ∀ j, j < Nf → defaultValue (ty0 j) = vp_V fs j) (hcells : cells + 1 ≤ R.cells) (hslots : slots + Nf ≤ R.slots) (hdg : decode cc pc = .ok (.new index, 3))
    (kk : ∀ H1 : Heap, va_P D cl (uw 1 (fun _ => H.size) (fun _ => .inr (ci, fs))) H1 → H1.size = H.size + 1 → (∀ q, q < H.size → H1[q]? = H[q]?) → va_S (lA s) s.heap H1 locs → W p l e R s m args below meth c H1 locs (cells + 1) (slots + Nf) Q (F0 m (pc + 3) ls (.ref H.size :: rest))) : W p l e R s m args below meth c H locs cells slots Q (F0 m pc ls rest) := by
  have hKn := hK.1 ci _ hc
  refine W.newcK (h := H.size) S.1 S.2.1 S.2.2.2.1 (S.2.2.2.2 _ hcl) (S.2.2.2.2 _ hinst) (S.2.2.2.2 _ hini) rfl hdg hcells hslots hKn.2.1 rfl (fun H1 kC hkC e1 z1 o1 => ?_)
  refine kk H1 ?_ z1 o1 ⟨Nat.le_trans hS.1 (by omega), fun x h1 h2 => (o1 x (Nat.lt_of_lt_of_le h1 hS.1)).trans (hS.2.1 x h1 h2), hS.2.2⟩
  intro k q hq
  obtain ⟨h1, rfl⟩ := uw_inv hq
  exact ⟨_, hc, (u_born ty0 S.2.2.2.2 hin hKn hkC e1 hty).to hfs⟩
theorem lNewa {atype : ArrayType} {ty : FieldType} {cA0 : ClassId} {n : Int32} {N' : Nat} {a0 : vp_A} (t0 : Nat) (S : CallFix p m c cc nL s args Ts own) (hK : va_K D cl tys s) (hS : va_S (lA s) s.heap H locs) (harr : Cond.arrayClass (newarray.typeOf atype) ∈ Ts) (hty : newarray.typeOf atype = ty) (ht : tys[t0]? = some (cA0, ty)) (hra : va_RA s cA0 ty → s.vm.findClass ("[" ++ ty.toString) = some cA0) (ha : ∀ cA : ClassId, vp_cell cA a0 = arrV cA N' (fun _ => defaultValue ty)) (hn : ¬ n < 0) (hNn : n.toNatClampNeg = N') (hbytes : N' * componentBytes ty ≤ 536870912) (hcells : cells + 1 ≤ R.cells) (hslots : slots + N' ≤ R.slots) (hdg : decode cc pc = .ok (.newarray atype, 2))
    (kk : ∀ H1 : Heap, va_P D cl (uw 1 (fun _ => H.size) (fun _ => .inl (cA0, a0))) H1 → (∀ q, q < H.size → H1[q]? = H[q]?) → va_S (lA s) s.heap H1 locs → W p l e R s m args below meth c H1 locs (cells + 1) (slots + N') Q (F0 m (pc + 2) ls (.ref H.size :: rest))) : W p l e R s m args below meth c H locs cells slots Q (F0 m pc ls (.int n :: rest)) := by
  subst hty
  refine va_newaK (h := H.size) S.1 S.2.1 (S.2.2.2.2 _ harr) rfl hdg rfl hn hNn hbytes hcells hslots rfl (fun H1 cA e1 z1 o1 hAr hNm => ?_)
  have hcA : cA = cA0 := Option.some.inj (hNm.symm.trans (hra (hK.2 t0 _ ht).2))
  subst hcA
  refine kk H1 ?_ o1 ⟨Nat.le_trans hS.1 (by omega), fun x h1 h2 => (o1 x (Nat.lt_of_lt_of_le h1 hS.1)).trans (hS.2.1 x h1 h2), hS.2.2⟩
  intro k q hq
  obtain ⟨h1, rfl⟩ := uw_inv hq
  show H1[H.size]? = some (vp_cell _ _)
  rw [ha]
  exact e1
theorem lInit {a index maxL fr lo mc ms : Nat} {y : MethodName} {bytes : ByteArray} {e0 : va_E} {G1 : Nat → Nat → Nat → va_E} (S : CallFix p m c cc nL s args Ts own) (hK : va_K D cl tys s) (hNn : ∀ w ∈ uNW, va_Nw w s) (hX : bX s) (ha : s.heap.size ≤ a) (hP : va_P D cl (uw 1 (fun _ => a) (fun _ => e0)) H) (hS : va_S (lA s) s.heap H locs) (hM : uCon l y bytes maxL fr lo mc ms D cl tys e0 G1) (hU : ∀ w ∈ uWS, w ∈ Ts) (hcode : Cond.code y bytes maxL none ∈ uWS) (hlink : Cond.methodLink own index y ∈ uWS) (hini : Cond.initialized y.cls ∈ uWS) (hinst : Cond.instanceMethod y ∈ uWS) (hy : y.name = "<init>") (hsig : y.cls ≠ "java/lang/invoke/MethodHandle" ∧ y.cls ≠ "java/lang/invoke/VarHandle" ∧ (parseMethodDescriptor y.desc).map (fun d => d.parameters.length) = some 0) (hfr : fr + 1 ≤ R.frames ∧ 8 + (maxL + 11) + lo ≤ R.locals) (hls : ls.size = nL) (hW : (rest.map fun v => v.category).sum ≤ 8) (hc : cells + mc ≤ R.cells ∧ slots + ms ≤ R.slots) (hdg : decode cc pc = .ok (.invokespecial index, 3))
    (kk : ∀ (H1 : Heap) (locs1 : List Loc), va_P D cl (uw (mc + 1) (bAd a H.size) (G1 a H.size)) H1 → H.size ≤ H1.size → (∀ q, q < H.size → q ≠ a → H1[q]? = H[q]?) → va_S (lA s) s.heap H1 locs1 → W p l e R s m args below meth c H1 locs1 (cells + mc) (slots + ms) Q (F0 m (pc + 3) ls rest)) : W p l e R s m args below meth c H locs cells slots Q (F0 m pc ls (.ref a :: rest)) := by
  have hlt : a < H.size := uP_lt hP (k := 0) (by decide)
  have hsub : ∀ q, bA a H.size q → lA s q := by
    rintro q (⟨i, -, h⟩ | h)
    · rw [h]; exact ha
    · exact Nat.le_trans hS.1 h
  have hpre : PreS s H (va_Pc [.ref a] (bB D cl tys a e0 H.size)) [.ref a] := ⟨bB_blind, fun U hU hW => by
    have h1 := uB_at (av := [.ref a]) hP hK hNn U hU hW
    exact ⟨h1.1, h1.2, va_AO.moved hW.alike hX.1, va_AO.moved hW.alike hX.2⟩⟩
  refine va_callv (va_runI (As := []) (n := 0) S (hM a H.size hlt) ⟨callB_of (R := R) (mc := mc) (ms := ms) (rm := { frames := fr, cells := mc, slots := ms, locals := lo }) 0 S.2.2.2.2 (uGood hU hcode) rfl rfl rfl (S.2.2.2.2 _ (hU _ hini)) (S.2.2.2.2 _ (hU _ hlink)) hsig hfr, hy, S.2.2.2.2 _ (hU _ hinst)⟩ hpre rfl rfl hls rfl (lv_room hW) hdg hc) hS (fun q _ h => hsub q h) hsub (fun _ t H1 locs1 ht _ _ hB hz hk hS1 => ?_)
  rw [ht] at hB
  refine kk H1 locs1 hB hz (fun q h1 h2 => hk q h1 ?_) hS1
  rintro (⟨i, -, h3⟩ | h3)
  · exact h2 h3
  · exact absurd h1 (Nat.not_lt.mpr h3)
end LN
theorem xG_ad {ca : Nat → ClassId} {ad ad0 : Nat → Nat} {v : Nat → Nat → Nat → Int32} (h : ∀ k, k < 165 → ad k = ad0 k) : ∀ k, k < 165 → sameE (xG ca ad0 (v, id) k) (xG ca ad (v, id) k) := by
  intro k hk
  by_cases h7 : k < 7
  · rcases (by omega : k = 0 ∨ k = 1 ∨ k = 2 ∨ k = 3 ∨ k = 4 ∨ k = 5 ∨ k = 6) with rfl | rfl | rfl | rfl | rfl | rfl | rfl
    · left
      rw [xg_desk, xg_desk, xDesk, xDesk, h 1 (by omega), h 87 (by omega), h 2 (by omega), h 4 (by omega), h 6 (by omega)]
    · exact Or.inl rfl
    · left; rw [xg_pal, xg_pal, h 3 (by omega)]
    · exact Or.inl rfl
    · left; rw [xg_book, xg_book, h 5 (by omega)]
    · exact Or.inr ⟨ca 2, 40, _, _, xg_cues, xg_cues, fun i hi => by
        show some (ad0 (89 + i)) = some (ad (89 + i))
        rw [h _ (by omega)]⟩
    · exact Or.inr ⟨ca 3, 6, _, _, xg_plys, xg_plys, fun i hi => by rw [h _ (by omega)]⟩
  · left
    by_cases h89 : k < 89
    · by_cases hm : (k - 7) % 2 = 0
      · obtain ⟨j, hj, rfl⟩ : ∃ j, j < 41 ∧ k = 7 + 2 * j := ⟨(k - 7) / 2, by omega, by omega⟩
        rw [xg_row hj, xg_row hj, h _ (by omega)]
      · obtain ⟨j, hj, rfl⟩ : ∃ j, j < 41 ∧ k = 8 + 2 * j := ⟨(k - 7) / 2, by omega, by omega⟩
        rw [xg_val hj, xg_val hj]
    · by_cases h129 : k < 129
      · obtain ⟨j, hj, rfl⟩ : ∃ j, j < 40 ∧ k = 89 + j := ⟨k - 89, by omega, by omega⟩
        rw [xg_cue hj, xg_cue hj, xCue, xCue, h _ (by omega)]
      · by_cases hm : (k - 129) % 6 = 0
        · obtain ⟨j, hj, rfl⟩ : ∃ j, j < 6 ∧ k = 129 + 6 * j := ⟨(k - 129) / 6, by omega, by omega⟩
          rw [xg_ply hj, xg_ply hj, xPly, xPly, h _ (by omega), h _ (by omega), h _ (by omega), h _ (by omega), h _ (by omega)]
        · obtain ⟨j, t, hj, ht, rfl⟩ : ∃ j t, j < 6 ∧ t < 5 ∧ k = 130 + t + 6 * j := ⟨(k - 129) / 6, (k - 129) % 6 - 1, by omega, by omega, by omega⟩
          rw [xg_arr t ht hj, xg_arr t ht hj]
/-- the two worlds, out of what was made -/
theorem l_worlds {s : State} {D : va_G} {cl : List vw_C} {ca : Nat → ClassId} {H : Heap} {a1 a2 a3 : Nat} (h1 : s.heap.size ≤ a1) (hd : va_P D cl (uw 165 (bAd a1 (a1 + 1)) (bL (cL_D ca a1 (a1 + 1)))) H) (hdl : ∀ k, k < 165 → bAd a1 (a1 + 1) k < a2) (h12 : a1 ≤ a2) (hm : va_P D cl (uw 22 (bAd a2 (a2 + 1)) (mG ca (bAd a2 (a2 + 1)) wI)) H) (hml : ∀ k, k < 22 → bAd a2 (a2 + 1) k < a3) (ho : va_P D cl (uw 1 (fun _ => a3) (fun _ => .inl (ca 5, 1, .inr (.inl (fun _ => 0))))) H) :
    ∃ ad : Nat → Nat, ad 0 = a1 ∧ ad 165 = a3 ∧ lAp s ad (bAd a2 (a2 + 1)) ∧ va_P D cl (uw 166 ad (kG ca ad ((vI, id), fun _ => 0))) H := by
  have hbig : ∀ a k, a ≤ bAd a (a + 1) k := by
    intro a k
    cases k with
    | zero => exact Nat.le_refl _
    | succ k => rw [bAd_s]; omega
  have h23 : a2 < a3 := hml 0 (by omega)
  refine ⟨fun k => if k = 165 then a3 else bAd a1 (a1 + 1) (dP k), rfl, rfl, ⟨?_, bJ (by omega), ?_, ?_, ?_⟩, ?_⟩
  · intro i j hi hj hij
    simp only at hij
    by_cases h3 : i = 165
    · by_cases h4 : j = 165
      · omega
      · rw [if_pos h3, if_neg h4] at hij
        have := hdl (dP j) (dP_lt j (by omega))
        omega
    · by_cases h4 : j = 165
      · rw [if_neg h3, if_pos h4] at hij
        have := hdl (dP i) (dP_lt i (by omega))
        omega
      · rw [if_neg h3, if_neg h4] at hij
        exact D_apart (by omega) i j (by omega) (by omega) hij
  · intro i j hi hj
    simp only
    by_cases h3 : i = 165
    · rw [if_pos h3]
      have := hml j hj
      omega
    · rw [if_neg h3]
      have := hdl (dP i) (dP_lt i (by omega))
      have := hbig a2 j
      omega
  · intro i hi
    simp only
    split
    · omega
    · have := hbig a1 (dP i)
      omega
  · intro j hj
    have := hbig a2 j
    omega
  · intro k q hq
    obtain ⟨h3, rfl⟩ := uw_inv hq
    by_cases h4 : k = 165
    · subst h4
      exact ho 0 _ (uw_get (by decide))
    · rw [kg_desk (by omega)]
      simp only
      rw [if_neg h4]
      have h5 := D_world hd k _ (uw_get (by omega))
      exact sameE_at (xG_ad (ad0 := fun k => bAd a1 (a1 + 1) (dP k)) (fun k hk => if_neg (by omega)) k (by omega)) h5

/-! Constructors (printed by wip/gen/gen_c1.py) -/
theorem if_set {k N : Nat} {g g1 : Nat → va_E} {x : va_E} {k' : Nat} (hk : k' < N) (h : ∀ i, i < N → va_up g k x i = g1 i) : (if k' = k then x else g k') = g1 k' := by
  rw [← h k' hk]
  by_cases he : k' = k
  · rw [if_pos he, he, va_up_self]
  · rw [if_neg he, va_up_ne _ _ he]
theorem bCs {p : Program} {l : Launch} {e : Env} {R : Room} {s : State} {m : MethodId} {args : Array Value} {below : List Frame} {meth : Method} {c : Code} {H : Heap} {locs : List Loc} {cells slots c1 s1 : Nat} {Q : State → Prop} {g : JFrame} (h1 : cells = c1) (h2 : slots = s1) (k : W p l e R s m args below meth c H locs c1 s1 Q g) : W p l e R s m args below meth c H locs cells slots Q g := by subst h1 h2; exact k
theorem df_V : ∀ j, j < 2 → defaultValue (ty_V j) = vp_V [.null, .int 0] j := by
  intro j hj
  rcases (by omega : j = 0 ∨ j = 1) with rfl | rfl <;> rfl
theorem df_P : ∀ j, j < 1 → defaultValue (ty_P j) = vp_V [.null] j := by
  intro j hj
  rcases (by omega : j = 0) with rfl <;> rfl
theorem df_C : ∀ j, j < 7 → defaultValue (ty_C j) = vp_V [.null, .int 0, .int 0, .int 0, .int 0, .int 0, .int 0] j := by
  intro j hj
  rcases (by omega : j = 0 ∨ j = 1 ∨ j = 2 ∨ j = 3 ∨ j = 4 ∨ j = 5 ∨ j = 6) with rfl | rfl | rfl | rfl | rfl | rfl | rfl <;> rfl
theorem df_B : ∀ j, j < 2 → defaultValue (ty_B j) = vp_V [.null, .int 0] j := by
  intro j hj
  rcases (by omega : j = 0 ∨ j = 1) with rfl | rfl <;> rfl
theorem df_Y : ∀ j, j < 10 → defaultValue (ty_Y j) = vp_V [.null, .null, .null, .null, .null, .int 0, .int 0, .int 0, .int 0, .int 0] j := by
  intro j hj
  rcases (by omega : j = 0 ∨ j = 1 ∨ j = 2 ∨ j = 3 ∨ j = 4 ∨ j = 5 ∨ j = 6 ∨ j = 7 ∨ j = 8 ∨ j = 9) with rfl | rfl | rfl | rfl | rfl | rfl | rfl | rfl | rfl | rfl <;> rfl
theorem df_D : ∀ j, j < 7 → defaultValue (ty_D j) = vp_V [.null, .null, .null, .null, .null, .int 0, .int 0] j := by
  intro j hj
  rcases (by omega : j = 0 ∨ j = 1 ∨ j = 2 ∨ j = 3 ∨ j = 4 ∨ j = 5 ∨ j = 6) with rfl | rfl | rfl | rfl | rfl | rfl | rfl <;> rfl
theorem df_M : ∀ j, j < 24 → defaultValue (ty_M j) = vp_V [.int 0, .null, .null, .null, .null, .null, .null, .null, .null, .null, .null, .null, .null, .null, .null, .null, .null, .null, .null, .null, .null, .null, .int 0, .int 0] j := by
  intro j hj
  rcases (by omega : j = 0 ∨ j = 1 ∨ j = 2 ∨ j = 3 ∨ j = 4 ∨ j = 5 ∨ j = 6 ∨ j = 7 ∨ j = 8 ∨ j = 9 ∨ j = 10 ∨ j = 11 ∨ j = 12 ∨ j = 13 ∨ j = 14 ∨ j = 15 ∨ j = 16 ∨ j = 17 ∨ j = 18 ∨ j = 19 ∨ j = 20 ∨ j = 21 ∨ j = 22 ∨ j = 23) with rfl | rfl | rfl | rfl | rfl | rfl | rfl | rfl | rfl | rfl | rfl | rfl | rfl | rfl | rfl | rfl | rfl | rfl | rfl | rfl | rfl | rfl | rfl | rfl <;> rfl
def cL_V (ca : Nat → ClassId) (a sz : Nat) : List va_E := [.inr (0, [.ref (bAd a sz 1), .int 0]), .inl (ca 0, 64, .inl (fun i => if i < 64 then -1 else 0))]
set_option maxRecDepth 100000 in
set_option maxHeartbeats 4000000 in
theorem c_V_init {l : Launch} {D : va_G} {ca : Nat → ClassId} : uCon l y_V_init b_V_init 1 1 23 1 64 D clsAll (tysAll ca) (.inr (0, [.null, .int 0])) (fun a sz => bL (cL_V ca a sz)) := by
  refine bStart (by decide) (by decide) ?_
  intro a p e s m below meth c ls ha S hr hlk hini hK hN hX hP hl
  have hini : meth.name = "<init>" := hini
  have hU : ∀ w ∈ uWS, w ∈ (Cond.code y_V_init b_V_init 1 none :: uWS) := fun w h => List.mem_cons_of_mem _ h
  have hS : va_S (bA a s.heap.size) s.heap s.heap [] := va_S.rf
  have hl : lv_has ls 1 [(0, .ref a)] := hl
  have hP : va_P D clsAll (uw 1 (bAd a s.heap.size) (bL [.inr (0, [.null, .int 0])])) s.heap := by
    intro k q hq
    obtain ⟨h1, rfl⟩ := uw_inv hq
    have h0 : k = 0 := by omega
    subst h0
    exact hP 0 _ (uw_get (by decide))
  refine lv_aload_n S.1 S.2.1 d_V_init_0 rfl (lv_at hl 0 rfl) ?_
  refine W.objInit S.1 S.2.1 S.2.2.2.1 (S.2.2.2.2 _ (hU _ t1_31)) (S.2.2.2.2 _ (hU _ t1_24)) (S.2.2.2.2 _ (hU _ t1_25)) rfl (hl.1.trans S.2.2.1.symm) rfl d_V_init_1 (Nat.le_of_ble_eq_true rfl) (Nat.le_of_ble_eq_true rfl) ?_
  refine lv_aload_n S.1 S.2.1 d_V_init_4 rfl (lv_at hl 0 rfl) ?_
  refine lv_bipush (v := 64) S.1 S.2.1 d_V_init_5 (by decide) ?_
  refine bNewa (atype := .int) (N := 1) (cA0 := ca 0) (a0 := (64, .inl (fun _ => 0))) (g' := bL (([.inr (0, [.null, .int 0]), .inl (ca 0, 64, .inl (fun _ => 0))] : List va_E))) 0 S hK hP hS rfl (hU _ t1_46) rfl rfl (fun h => h) (fun cA => bpr_int cA) (by decide) (by decide) (by decide) (Nat.le_of_ble_eq_true rfl) (Nat.le_of_ble_eq_true rfl) (bL_app rfl) d_V_init_7 (fun H hP hS => ?_)
  refine ur_putF (k := 0) (v := .ref (bAd a s.heap.size 1)) (g' := bL (([.inr (0, [.ref (bAd a s.heap.size 1), .int 0]), .inl (ca 0, 64, .inl (fun _ => 0))] : List va_E))) S hK hP (bD ha) hS (Nat.le_of_ble_eq_true rfl) rfl rfl (fun w h => hU w (in_V w h)) ty_V tyk_V nm_V 0 (by decide) (hU _ t1_35) rfl hini rfl rfl rfl (Nat.le_of_ble_eq_true rfl) (bL_set (L := (([.inr (0, [.null, .int 0]), .inl (ca 0, 64, .inl (fun _ => 0))] : List va_E))) (k := 0) (x := .inr (0, [.ref (bAd a s.heap.size 1), .int 0])) (N := 2) rfl (Nat.le_of_ble_eq_true rfl)) d_V_init_9 (fun H locs hP hS => ?_)
  refine lv_aload_n S.1 S.2.1 d_V_init_12 rfl (lv_at hl 0 rfl) ?_
  refine lv_iconst (v := 0) S.1 S.2.1 d_V_init_13 (by decide) ?_
  refine ur_put (k := 0) (v := .int 0) (g' := bL (([.inr (0, [.ref (bAd a s.heap.size 1), .int 0]), .inl (ca 0, 64, .inl (fun _ => 0))] : List va_E))) S hK hP (bD ha) hS (Nat.le_of_ble_eq_true rfl) rfl rfl (fun w h => hU w (in_V w h)) ty_V tyk_V nm_V 1 (by decide) (hU _ t1_36) rfl rfl rfl (Nat.le_of_ble_eq_true rfl) (bL_set (L := (([.inr (0, [.ref (bAd a s.heap.size 1), .int 0]), .inl (ca 0, 64, .inl (fun _ => 0))] : List va_E))) (k := 0) (x := .inr (0, [.ref (bAd a s.heap.size 1), .int 0])) (N := 2) rfl (Nat.le_of_ble_eq_true rfl)) d_V_init_14 (fun H locs hP hS => ?_)
  refine lv_aload_n S.1 S.2.1 d_V_init_17 rfl (lv_at hl 0 rfl) ?_
  refine ur_get (k := 0) (v := .ref (bAd a s.heap.size 1)) S hK hP (Nat.le_of_ble_eq_true rfl) rfl rfl (fun w h => hU w (in_V w h)) 0 (by decide) (hU _ t1_35) rfl d_V_init_18 ?_
  refine lv_iconst (v := (-1)) S.1 S.2.1 d_V_init_21 (by decide) ?_
  refine bSv1 (n := 2) (As := [.ref (bAd a s.heap.size 1), .int (-1)]) (rest := []) (G1 := aG (ca 0) 64) (f1 := fun _ => 0) (g' := fun _ => bL (([.inr (0, [.ref (bAd a s.heap.size 1), .int 0]), .inl (ca 0, 64, .inl (fun i => if i < 64 then -1 else 0))] : List va_E))) S hK hN (bJ ha) hP hS 1 (Nat.le_of_ble_eq_true rfl) bIn (fun q h => Or.inr h) (c_JA_fill _ 64 (by decide) _ _) rfl (fun u hu k' hk' => by subst hu; exact if_set hk' (fun i hi => bL_set (x := .inl (ca 0, 64, .inl (fun i => if i < 64 then -1 else 0))) rfl (Nat.le_of_ble_eq_true rfl) i hi)) ⟨hU, t1_34, t1_32, t1_3, by decide +kernel, Nat.le_of_ble_eq_true rfl, Nat.le_of_ble_eq_true rfl⟩ t1_33 rfl hl.1 rfl (Nat.le_of_ble_eq_true rfl) d_V_init_22 ⟨Nat.le_of_ble_eq_true rfl, Nat.le_of_ble_eq_true rfl⟩ (fun u H locs hp hP hS => ?_)
  exact W.vret S.1 S.2.1 hr (fun t ht _ => ⟨⟨(), rfl, trivial, by rw [← ht] at hP; exact hP⟩, hS.F ht⟩) hS.2.2 d_V_init_25 hlk

def cL_P (ca : Nat → ClassId) (a sz : Nat) : List va_E := [.inr (1, [.ref (bAd a sz 1)]), .inl (ca 0, 1024, .inl (fun i => if i < 1024 then -1 else 0))]
set_option maxRecDepth 100000 in
set_option maxHeartbeats 4000000 in
theorem c_P_init {l : Launch} {D : va_G} {ca : Nat → ClassId} : uCon l y_P_init b_P_init 1 1 23 1 1024 D clsAll (tysAll ca) (.inr (1, [.null])) (fun a sz => bL (cL_P ca a sz)) := by
  refine bStart (by decide) (by decide) ?_
  intro a p e s m below meth c ls ha S hr hlk hini hK hN hX hP hl
  have hini : meth.name = "<init>" := hini
  have hU : ∀ w ∈ uWS, w ∈ (Cond.code y_P_init b_P_init 1 none :: uWS) := fun w h => List.mem_cons_of_mem _ h
  have hS : va_S (bA a s.heap.size) s.heap s.heap [] := va_S.rf
  have hl : lv_has ls 1 [(0, .ref a)] := hl
  have hP : va_P D clsAll (uw 1 (bAd a s.heap.size) (bL [.inr (1, [.null])])) s.heap := by
    intro k q hq
    obtain ⟨h1, rfl⟩ := uw_inv hq
    have h0 : k = 0 := by omega
    subst h0
    exact hP 0 _ (uw_get (by decide))
  refine lv_aload_n S.1 S.2.1 d_P_init_0 rfl (lv_at hl 0 rfl) ?_
  refine W.objInit S.1 S.2.1 S.2.2.2.1 (S.2.2.2.2 _ (hU _ t1_52)) (S.2.2.2.2 _ (hU _ t1_24)) (S.2.2.2.2 _ (hU _ t1_25)) rfl (hl.1.trans S.2.2.1.symm) rfl d_P_init_1 (Nat.le_of_ble_eq_true rfl) (Nat.le_of_ble_eq_true rfl) ?_
  refine lv_aload_n S.1 S.2.1 d_P_init_4 rfl (lv_at hl 0 rfl) ?_
  refine lv_sipush (v := 1024) S.1 S.2.1 d_P_init_5 (by decide) ?_
  refine bNewa (atype := .int) (N := 1) (cA0 := ca 0) (a0 := (1024, .inl (fun _ => 0))) (g' := bL (([.inr (1, [.null]), .inl (ca 0, 1024, .inl (fun _ => 0))] : List va_E))) 0 S hK hP hS rfl (hU _ t1_46) rfl rfl (fun h => h) (fun cA => bpr_int cA) (by decide) (by decide) (by decide) (Nat.le_of_ble_eq_true rfl) (Nat.le_of_ble_eq_true rfl) (bL_app rfl) d_P_init_8 (fun H hP hS => ?_)
  refine ur_putF (k := 0) (v := .ref (bAd a s.heap.size 1)) (g' := bL (([.inr (1, [.ref (bAd a s.heap.size 1)]), .inl (ca 0, 1024, .inl (fun _ => 0))] : List va_E))) S hK hP (bD ha) hS (Nat.le_of_ble_eq_true rfl) rfl rfl (fun w h => hU w (in_P w h)) ty_P tyk_P nm_P 0 (by decide) (hU _ t1_54) rfl hini rfl rfl rfl (Nat.le_of_ble_eq_true rfl) (bL_set (L := (([.inr (1, [.null]), .inl (ca 0, 1024, .inl (fun _ => 0))] : List va_E))) (k := 0) (x := .inr (1, [.ref (bAd a s.heap.size 1)])) (N := 2) rfl (Nat.le_of_ble_eq_true rfl)) d_P_init_10 (fun H locs hP hS => ?_)
  refine lv_aload_n S.1 S.2.1 d_P_init_13 rfl (lv_at hl 0 rfl) ?_
  refine ur_get (k := 0) (v := .ref (bAd a s.heap.size 1)) S hK hP (Nat.le_of_ble_eq_true rfl) rfl rfl (fun w h => hU w (in_P w h)) 0 (by decide) (hU _ t1_54) rfl d_P_init_14 ?_
  refine lv_iconst (v := (-1)) S.1 S.2.1 d_P_init_17 (by decide) ?_
  refine bSv1 (n := 2) (As := [.ref (bAd a s.heap.size 1), .int (-1)]) (rest := []) (G1 := aG (ca 0) 1024) (f1 := fun _ => 0) (g' := fun _ => bL (([.inr (1, [.ref (bAd a s.heap.size 1)]), .inl (ca 0, 1024, .inl (fun i => if i < 1024 then -1 else 0))] : List va_E))) S hK hN (bJ ha) hP hS 1 (Nat.le_of_ble_eq_true rfl) bIn (fun q h => Or.inr h) (c_JA_fill _ 1024 (by decide) _ _) rfl (fun u hu k' hk' => by subst hu; exact if_set hk' (fun i hi => bL_set (x := .inl (ca 0, 1024, .inl (fun i => if i < 1024 then -1 else 0))) rfl (Nat.le_of_ble_eq_true rfl) i hi)) ⟨hU, t1_34, t1_53, t1_3, by decide +kernel, Nat.le_of_ble_eq_true rfl, Nat.le_of_ble_eq_true rfl⟩ t1_33 rfl hl.1 rfl (Nat.le_of_ble_eq_true rfl) d_P_init_18 ⟨Nat.le_of_ble_eq_true rfl, Nat.le_of_ble_eq_true rfl⟩ (fun u H locs hp hP hS => ?_)
  exact W.vret S.1 S.2.1 hr (fun t ht _ => ⟨⟨(), rfl, trivial, by rw [← ht] at hP; exact hP⟩, hS.F ht⟩) hS.2.2 d_P_init_21 hlk

def cL_C (ca : Nat → ClassId) (a sz : Nat) : List va_E := ([.inr (2, [.ref (bAd a sz 1), .int (-1), .int (-1), .int 0, .int 0, .int 0, .int (-1)])] : List va_E) ++ cL_V ca (bAd a sz 1) (sz + 1)
set_option maxRecDepth 100000 in
set_option maxHeartbeats 4000000 in
theorem c_C_init {l : Launch} {D : va_G} {ca : Nat → ClassId} : uCon l y_C_init b_C_init 1 2 43 2 66 D clsAll (tysAll ca) (.inr (2, [.null, .int 0, .int 0, .int 0, .int 0, .int 0, .int 0])) (fun a sz => bL (cL_C ca a sz)) := by
  refine bStart (by decide) (by decide) ?_
  intro a p e s m below meth c ls ha S hr hlk hini hK hN hX hP hl
  have hini : meth.name = "<init>" := hini
  have hU : ∀ w ∈ uWS, w ∈ (Cond.code y_C_init b_C_init 1 none :: uWS) := fun w h => List.mem_cons_of_mem _ h
  have hS : va_S (bA a s.heap.size) s.heap s.heap [] := va_S.rf
  have hl : lv_has ls 1 [(0, .ref a)] := hl
  have hP : va_P D clsAll (uw 1 (bAd a s.heap.size) (bL [.inr (2, [.null, .int 0, .int 0, .int 0, .int 0, .int 0, .int 0])])) s.heap := by
    intro k q hq
    obtain ⟨h1, rfl⟩ := uw_inv hq
    have h0 : k = 0 := by omega
    subst h0
    exact hP 0 _ (uw_get (by decide))
  refine lv_aload_n S.1 S.2.1 d_C_init_0 rfl (lv_at hl 0 rfl) ?_
  refine W.objInit S.1 S.2.1 S.2.2.2.1 (S.2.2.2.2 _ (hU _ t1_70)) (S.2.2.2.2 _ (hU _ t1_24)) (S.2.2.2.2 _ (hU _ t1_25)) rfl (hl.1.trans S.2.2.1.symm) rfl d_C_init_1 (Nat.le_of_ble_eq_true rfl) (Nat.le_of_ble_eq_true rfl) ?_
  refine lv_aload_n S.1 S.2.1 d_C_init_4 rfl (lv_at hl 0 rfl) ?_
  refine bNew (N := 1) (ci := 0) (fs := [.null, .int 0]) (g' := bL (([.inr (2, [.null, .int 0, .int 0, .int 0, .int 0, .int 0, .int 0]), .inr (0, [.null, .int 0])] : List va_E))) S hK hP hS rfl (fun w h => hU w (in_V w h)) ty_V tyk_V (hU _ t1_71) (hU _ t1_27) (hU _ t1_2) rfl df_V (Nat.le_of_ble_eq_true rfl) (Nat.le_of_ble_eq_true rfl) (bL_app rfl) d_C_init_5 (fun H hP hS => ?_)
  refine lv_dup S.1 S.2.1 d_C_init_8 rfl ?_
  refine bInit (b := 1) (rest := [.ref (bAd a s.heap.size 1), .ref a]) (g' := bL (([.inr (2, [.null, .int 0, .int 0, .int 0, .int 0, .int 0, .int 0])] : List va_E) ++ cL_V ca (bAd a s.heap.size 1) (s.heap.size + 1))) S hK hN hX ha hP hS rfl (c_V_init (ca := ca)) rfl hU t1_30 t1_72 t1_2 t1_29 rfl (by decide +kernel) ⟨Nat.le_of_ble_eq_true rfl, Nat.le_of_ble_eq_true rfl⟩ hl.1 (Nat.le_of_ble_eq_true rfl) ⟨Nat.le_of_ble_eq_true rfl, Nat.le_of_ble_eq_true rfl⟩ (fun k hk => bL_cat (L := (([.inr (2, [.null, .int 0, .int 0, .int 0, .int 0, .int 0, .int 0])] : List va_E))) (L1 := cL_V ca (bAd a s.heap.size 1) (s.heap.size + 1)) (x := .inr (0, [.null, .int 0])) (b := 1) rfl k _ hk) d_C_init_9 (fun H locs hP hS => ?_)
  refine ur_putF (k := 0) (v := .ref (bAd a s.heap.size 1)) (g' := bL (([.inr (2, [.ref (bAd a s.heap.size 1), .int 0, .int 0, .int 0, .int 0, .int 0, .int 0])] : List va_E) ++ cL_V ca (bAd a s.heap.size 1) (s.heap.size + 1))) S hK hP (bD ha) hS (Nat.le_of_ble_eq_true rfl) rfl rfl (fun w h => hU w (in_C w h)) ty_C tyk_C nm_C 0 (by decide) (hU _ t1_73) rfl hini rfl rfl rfl (Nat.le_of_ble_eq_true rfl) (bL_set (L := (([.inr (2, [.null, .int 0, .int 0, .int 0, .int 0, .int 0, .int 0])] : List va_E) ++ cL_V ca (bAd a s.heap.size 1) (s.heap.size + 1))) (k := 0) (x := .inr (2, [.ref (bAd a s.heap.size 1), .int 0, .int 0, .int 0, .int 0, .int 0, .int 0])) (N := 3) rfl (Nat.le_of_ble_eq_true rfl)) d_C_init_12 (fun H locs hP hS => ?_)
  refine lv_aload_n S.1 S.2.1 d_C_init_15 rfl (lv_at hl 0 rfl) ?_
  refine lv_iconst (v := (-1)) S.1 S.2.1 d_C_init_16 (by decide) ?_
  refine ur_put (k := 0) (v := .int (-1)) (g' := bL (([.inr (2, [.ref (bAd a s.heap.size 1), .int (-1), .int 0, .int 0, .int 0, .int 0, .int 0])] : List va_E) ++ cL_V ca (bAd a s.heap.size 1) (s.heap.size + 1))) S hK hP (bD ha) hS (Nat.le_of_ble_eq_true rfl) rfl rfl (fun w h => hU w (in_C w h)) ty_C tyk_C nm_C 1 (by decide) (hU _ t1_75) rfl rfl rfl (Nat.le_of_ble_eq_true rfl) (bL_set (L := (([.inr (2, [.ref (bAd a s.heap.size 1), .int 0, .int 0, .int 0, .int 0, .int 0, .int 0])] : List va_E) ++ cL_V ca (bAd a s.heap.size 1) (s.heap.size + 1))) (k := 0) (x := .inr (2, [.ref (bAd a s.heap.size 1), .int (-1), .int 0, .int 0, .int 0, .int 0, .int 0])) (N := 3) rfl (Nat.le_of_ble_eq_true rfl)) d_C_init_17 (fun H locs hP hS => ?_)
  refine lv_aload_n S.1 S.2.1 d_C_init_20 rfl (lv_at hl 0 rfl) ?_
  refine lv_iconst (v := (-1)) S.1 S.2.1 d_C_init_21 (by decide) ?_
  refine ur_put (k := 0) (v := .int (-1)) (g' := bL (([.inr (2, [.ref (bAd a s.heap.size 1), .int (-1), .int (-1), .int 0, .int 0, .int 0, .int 0])] : List va_E) ++ cL_V ca (bAd a s.heap.size 1) (s.heap.size + 1))) S hK hP (bD ha) hS (Nat.le_of_ble_eq_true rfl) rfl rfl (fun w h => hU w (in_C w h)) ty_C tyk_C nm_C 2 (by decide) (hU _ t1_77) rfl rfl rfl (Nat.le_of_ble_eq_true rfl) (bL_set (L := (([.inr (2, [.ref (bAd a s.heap.size 1), .int (-1), .int 0, .int 0, .int 0, .int 0, .int 0])] : List va_E) ++ cL_V ca (bAd a s.heap.size 1) (s.heap.size + 1))) (k := 0) (x := .inr (2, [.ref (bAd a s.heap.size 1), .int (-1), .int (-1), .int 0, .int 0, .int 0, .int 0])) (N := 3) rfl (Nat.le_of_ble_eq_true rfl)) d_C_init_22 (fun H locs hP hS => ?_)
  refine lv_aload_n S.1 S.2.1 d_C_init_25 rfl (lv_at hl 0 rfl) ?_
  refine lv_iconst (v := 0) S.1 S.2.1 d_C_init_26 (by decide) ?_
  refine ur_put (k := 0) (v := .int 0) (g' := bL (([.inr (2, [.ref (bAd a s.heap.size 1), .int (-1), .int (-1), .int 0, .int 0, .int 0, .int 0])] : List va_E) ++ cL_V ca (bAd a s.heap.size 1) (s.heap.size + 1))) S hK hP (bD ha) hS (Nat.le_of_ble_eq_true rfl) rfl rfl (fun w h => hU w (in_C w h)) ty_C tyk_C nm_C 3 (by decide) (hU _ t1_80) rfl rfl rfl (Nat.le_of_ble_eq_true rfl) (bL_set (L := (([.inr (2, [.ref (bAd a s.heap.size 1), .int (-1), .int (-1), .int 0, .int 0, .int 0, .int 0])] : List va_E) ++ cL_V ca (bAd a s.heap.size 1) (s.heap.size + 1))) (k := 0) (x := .inr (2, [.ref (bAd a s.heap.size 1), .int (-1), .int (-1), .int 0, .int 0, .int 0, .int 0])) (N := 3) rfl (Nat.le_of_ble_eq_true rfl)) d_C_init_27 (fun H locs hP hS => ?_)
  refine lv_aload_n S.1 S.2.1 d_C_init_30 rfl (lv_at hl 0 rfl) ?_
  refine lv_iconst (v := 0) S.1 S.2.1 d_C_init_31 (by decide) ?_
  refine ur_put (k := 0) (v := .int 0) (g' := bL (([.inr (2, [.ref (bAd a s.heap.size 1), .int (-1), .int (-1), .int 0, .int 0, .int 0, .int 0])] : List va_E) ++ cL_V ca (bAd a s.heap.size 1) (s.heap.size + 1))) S hK hP (bD ha) hS (Nat.le_of_ble_eq_true rfl) rfl rfl (fun w h => hU w (in_C w h)) ty_C tyk_C nm_C 4 (by decide) (hU _ t1_83) rfl rfl rfl (Nat.le_of_ble_eq_true rfl) (bL_set (L := (([.inr (2, [.ref (bAd a s.heap.size 1), .int (-1), .int (-1), .int 0, .int 0, .int 0, .int 0])] : List va_E) ++ cL_V ca (bAd a s.heap.size 1) (s.heap.size + 1))) (k := 0) (x := .inr (2, [.ref (bAd a s.heap.size 1), .int (-1), .int (-1), .int 0, .int 0, .int 0, .int 0])) (N := 3) rfl (Nat.le_of_ble_eq_true rfl)) d_C_init_32 (fun H locs hP hS => ?_)
  refine lv_aload_n S.1 S.2.1 d_C_init_35 rfl (lv_at hl 0 rfl) ?_
  refine lv_iconst (v := 0) S.1 S.2.1 d_C_init_36 (by decide) ?_
  refine ur_put (k := 0) (v := .int 0) (g' := bL (([.inr (2, [.ref (bAd a s.heap.size 1), .int (-1), .int (-1), .int 0, .int 0, .int 0, .int 0])] : List va_E) ++ cL_V ca (bAd a s.heap.size 1) (s.heap.size + 1))) S hK hP (bD ha) hS (Nat.le_of_ble_eq_true rfl) rfl rfl (fun w h => hU w (in_C w h)) ty_C tyk_C nm_C 5 (by decide) (hU _ t1_86) rfl rfl rfl (Nat.le_of_ble_eq_true rfl) (bL_set (L := (([.inr (2, [.ref (bAd a s.heap.size 1), .int (-1), .int (-1), .int 0, .int 0, .int 0, .int 0])] : List va_E) ++ cL_V ca (bAd a s.heap.size 1) (s.heap.size + 1))) (k := 0) (x := .inr (2, [.ref (bAd a s.heap.size 1), .int (-1), .int (-1), .int 0, .int 0, .int 0, .int 0])) (N := 3) rfl (Nat.le_of_ble_eq_true rfl)) d_C_init_37 (fun H locs hP hS => ?_)
  refine lv_aload_n S.1 S.2.1 d_C_init_40 rfl (lv_at hl 0 rfl) ?_
  refine lv_iconst (v := (-1)) S.1 S.2.1 d_C_init_41 (by decide) ?_
  refine ur_put (k := 0) (v := .int (-1)) (g' := bL (([.inr (2, [.ref (bAd a s.heap.size 1), .int (-1), .int (-1), .int 0, .int 0, .int 0, .int (-1)])] : List va_E) ++ cL_V ca (bAd a s.heap.size 1) (s.heap.size + 1))) S hK hP (bD ha) hS (Nat.le_of_ble_eq_true rfl) rfl rfl (fun w h => hU w (in_C w h)) ty_C tyk_C nm_C 6 (by decide) (hU _ t1_89) rfl rfl rfl (Nat.le_of_ble_eq_true rfl) (bL_set (L := (([.inr (2, [.ref (bAd a s.heap.size 1), .int (-1), .int (-1), .int 0, .int 0, .int 0, .int 0])] : List va_E) ++ cL_V ca (bAd a s.heap.size 1) (s.heap.size + 1))) (k := 0) (x := .inr (2, [.ref (bAd a s.heap.size 1), .int (-1), .int (-1), .int 0, .int 0, .int 0, .int (-1)])) (N := 3) rfl (Nat.le_of_ble_eq_true rfl)) d_C_init_42 (fun H locs hP hS => ?_)
  exact W.vret S.1 S.2.1 hr (fun t ht _ => ⟨⟨(), rfl, trivial, by rw [← ht] at hP; exact hP⟩, hS.F ht⟩) hS.2.2 d_C_init_45 hlk

def cL_Y (ca : Nat → ClassId) (a sz : Nat) : List va_E := [.inr (4, [.ref (bAd a sz 1), .ref (bAd a sz 2), .ref (bAd a sz 3), .ref (bAd a sz 4), .ref (bAd a sz 5), .int (-1), .int 255, .int 0, .int (-1), .int (-1)]), .inl (ca 0, 64, .inl (fun _ => 0)), .inl (ca 0, 64, .inl (fun _ => 0)), .inl (ca 0, 64, .inl (fun _ => 0)), .inl (ca 0, 64, .inl (fun _ => 0)), .inl (ca 0, 64, .inl (fun i => if i < 64 then -1 else 0))]
set_option maxRecDepth 100000 in
set_option maxHeartbeats 4000000 in
theorem c_Y_init {l : Launch} {D : va_G} {ca : Nat → ClassId} : uCon l y_Y_init b_Y_init 1 1 23 5 320 D clsAll (tysAll ca) (.inr (4, [.null, .null, .null, .null, .null, .int 0, .int 0, .int 0, .int 0, .int 0])) (fun a sz => bL (cL_Y ca a sz)) := by
  refine bStart (by decide) (by decide) ?_
  intro a p e s m below meth c ls ha S hr hlk hini hK hN hX hP hl
  have hini : meth.name = "<init>" := hini
  have hU : ∀ w ∈ uWS, w ∈ (Cond.code y_Y_init b_Y_init 1 none :: uWS) := fun w h => List.mem_cons_of_mem _ h
  have hS : va_S (bA a s.heap.size) s.heap s.heap [] := va_S.rf
  have hl : lv_has ls 1 [(0, .ref a)] := hl
  have hP : va_P D clsAll (uw 1 (bAd a s.heap.size) (bL [.inr (4, [.null, .null, .null, .null, .null, .int 0, .int 0, .int 0, .int 0, .int 0])])) s.heap := by
    intro k q hq
    obtain ⟨h1, rfl⟩ := uw_inv hq
    have h0 : k = 0 := by omega
    subst h0
    exact hP 0 _ (uw_get (by decide))
  refine lv_aload_n S.1 S.2.1 d_Y_init_0 rfl (lv_at hl 0 rfl) ?_
  refine W.objInit S.1 S.2.1 S.2.2.2.1 (S.2.2.2.2 _ (hU _ t1_120)) (S.2.2.2.2 _ (hU _ t1_24)) (S.2.2.2.2 _ (hU _ t1_25)) rfl (hl.1.trans S.2.2.1.symm) rfl d_Y_init_1 (Nat.le_of_ble_eq_true rfl) (Nat.le_of_ble_eq_true rfl) ?_
  refine lv_aload_n S.1 S.2.1 d_Y_init_4 rfl (lv_at hl 0 rfl) ?_
  refine lv_bipush (v := 64) S.1 S.2.1 d_Y_init_5 (by decide) ?_
  refine bNewa (atype := .int) (N := 1) (cA0 := ca 0) (a0 := (64, .inl (fun _ => 0))) (g' := bL (([.inr (4, [.null, .null, .null, .null, .null, .int 0, .int 0, .int 0, .int 0, .int 0]), .inl (ca 0, 64, .inl (fun _ => 0))] : List va_E))) 0 S hK hP hS rfl (hU _ t1_46) rfl rfl (fun h => h) (fun cA => bpr_int cA) (by decide) (by decide) (by decide) (Nat.le_of_ble_eq_true rfl) (Nat.le_of_ble_eq_true rfl) (bL_app rfl) d_Y_init_7 (fun H hP hS => ?_)
  refine ur_putF (k := 0) (v := .ref (bAd a s.heap.size 1)) (g' := bL (([.inr (4, [.ref (bAd a s.heap.size 1), .null, .null, .null, .null, .int 0, .int 0, .int 0, .int 0, .int 0]), .inl (ca 0, 64, .inl (fun _ => 0))] : List va_E))) S hK hP (bD ha) hS (Nat.le_of_ble_eq_true rfl) rfl rfl (fun w h => hU w (in_Y w h)) ty_Y tyk_Y nm_Y 0 (by decide) (hU _ t1_122) rfl hini rfl rfl rfl (Nat.le_of_ble_eq_true rfl) (bL_set (L := (([.inr (4, [.null, .null, .null, .null, .null, .int 0, .int 0, .int 0, .int 0, .int 0]), .inl (ca 0, 64, .inl (fun _ => 0))] : List va_E))) (k := 0) (x := .inr (4, [.ref (bAd a s.heap.size 1), .null, .null, .null, .null, .int 0, .int 0, .int 0, .int 0, .int 0])) (N := 2) rfl (Nat.le_of_ble_eq_true rfl)) d_Y_init_9 (fun H locs hP hS => ?_)
  refine lv_aload_n S.1 S.2.1 d_Y_init_12 rfl (lv_at hl 0 rfl) ?_
  refine lv_bipush (v := 64) S.1 S.2.1 d_Y_init_13 (by decide) ?_
  refine bNewa (atype := .int) (N := 2) (cA0 := ca 0) (a0 := (64, .inl (fun _ => 0))) (g' := bL (([.inr (4, [.ref (bAd a s.heap.size 1), .null, .null, .null, .null, .int 0, .int 0, .int 0, .int 0, .int 0]), .inl (ca 0, 64, .inl (fun _ => 0)), .inl (ca 0, 64, .inl (fun _ => 0))] : List va_E))) 0 S hK hP hS rfl (hU _ t1_46) rfl rfl (fun h => h) (fun cA => bpr_int cA) (by decide) (by decide) (by decide) (Nat.le_of_ble_eq_true rfl) (Nat.le_of_ble_eq_true rfl) (bL_app rfl) d_Y_init_15 (fun H hP hS => ?_)
  refine ur_putF (k := 0) (v := .ref (bAd a s.heap.size 2)) (g' := bL (([.inr (4, [.ref (bAd a s.heap.size 1), .ref (bAd a s.heap.size 2), .null, .null, .null, .int 0, .int 0, .int 0, .int 0, .int 0]), .inl (ca 0, 64, .inl (fun _ => 0)), .inl (ca 0, 64, .inl (fun _ => 0))] : List va_E))) S hK hP (bD ha) hS (Nat.le_of_ble_eq_true rfl) rfl rfl (fun w h => hU w (in_Y w h)) ty_Y tyk_Y nm_Y 1 (by decide) (hU _ t1_123) rfl hini rfl rfl rfl (Nat.le_of_ble_eq_true rfl) (bL_set (L := (([.inr (4, [.ref (bAd a s.heap.size 1), .null, .null, .null, .null, .int 0, .int 0, .int 0, .int 0, .int 0]), .inl (ca 0, 64, .inl (fun _ => 0)), .inl (ca 0, 64, .inl (fun _ => 0))] : List va_E))) (k := 0) (x := .inr (4, [.ref (bAd a s.heap.size 1), .ref (bAd a s.heap.size 2), .null, .null, .null, .int 0, .int 0, .int 0, .int 0, .int 0])) (N := 3) rfl (Nat.le_of_ble_eq_true rfl)) d_Y_init_17 (fun H locs hP hS => ?_)
  refine lv_aload_n S.1 S.2.1 d_Y_init_20 rfl (lv_at hl 0 rfl) ?_
  refine lv_bipush (v := 64) S.1 S.2.1 d_Y_init_21 (by decide) ?_
  refine bNewa (atype := .int) (N := 3) (cA0 := ca 0) (a0 := (64, .inl (fun _ => 0))) (g' := bL (([.inr (4, [.ref (bAd a s.heap.size 1), .ref (bAd a s.heap.size 2), .null, .null, .null, .int 0, .int 0, .int 0, .int 0, .int 0]), .inl (ca 0, 64, .inl (fun _ => 0)), .inl (ca 0, 64, .inl (fun _ => 0)), .inl (ca 0, 64, .inl (fun _ => 0))] : List va_E))) 0 S hK hP hS rfl (hU _ t1_46) rfl rfl (fun h => h) (fun cA => bpr_int cA) (by decide) (by decide) (by decide) (Nat.le_of_ble_eq_true rfl) (Nat.le_of_ble_eq_true rfl) (bL_app rfl) d_Y_init_23 (fun H hP hS => ?_)
  refine ur_putF (k := 0) (v := .ref (bAd a s.heap.size 3)) (g' := bL (([.inr (4, [.ref (bAd a s.heap.size 1), .ref (bAd a s.heap.size 2), .ref (bAd a s.heap.size 3), .null, .null, .int 0, .int 0, .int 0, .int 0, .int 0]), .inl (ca 0, 64, .inl (fun _ => 0)), .inl (ca 0, 64, .inl (fun _ => 0)), .inl (ca 0, 64, .inl (fun _ => 0))] : List va_E))) S hK hP (bD ha) hS (Nat.le_of_ble_eq_true rfl) rfl rfl (fun w h => hU w (in_Y w h)) ty_Y tyk_Y nm_Y 2 (by decide) (hU _ t1_124) rfl hini rfl rfl rfl (Nat.le_of_ble_eq_true rfl) (bL_set (L := (([.inr (4, [.ref (bAd a s.heap.size 1), .ref (bAd a s.heap.size 2), .null, .null, .null, .int 0, .int 0, .int 0, .int 0, .int 0]), .inl (ca 0, 64, .inl (fun _ => 0)), .inl (ca 0, 64, .inl (fun _ => 0)), .inl (ca 0, 64, .inl (fun _ => 0))] : List va_E))) (k := 0) (x := .inr (4, [.ref (bAd a s.heap.size 1), .ref (bAd a s.heap.size 2), .ref (bAd a s.heap.size 3), .null, .null, .int 0, .int 0, .int 0, .int 0, .int 0])) (N := 4) rfl (Nat.le_of_ble_eq_true rfl)) d_Y_init_25 (fun H locs hP hS => ?_)
  refine lv_aload_n S.1 S.2.1 d_Y_init_28 rfl (lv_at hl 0 rfl) ?_
  refine lv_bipush (v := 64) S.1 S.2.1 d_Y_init_29 (by decide) ?_
  refine bNewa (atype := .int) (N := 4) (cA0 := ca 0) (a0 := (64, .inl (fun _ => 0))) (g' := bL (([.inr (4, [.ref (bAd a s.heap.size 1), .ref (bAd a s.heap.size 2), .ref (bAd a s.heap.size 3), .null, .null, .int 0, .int 0, .int 0, .int 0, .int 0]), .inl (ca 0, 64, .inl (fun _ => 0)), .inl (ca 0, 64, .inl (fun _ => 0)), .inl (ca 0, 64, .inl (fun _ => 0)), .inl (ca 0, 64, .inl (fun _ => 0))] : List va_E))) 0 S hK hP hS rfl (hU _ t1_46) rfl rfl (fun h => h) (fun cA => bpr_int cA) (by decide) (by decide) (by decide) (Nat.le_of_ble_eq_true rfl) (Nat.le_of_ble_eq_true rfl) (bL_app rfl) d_Y_init_31 (fun H hP hS => ?_)
  refine ur_putF (k := 0) (v := .ref (bAd a s.heap.size 4)) (g' := bL (([.inr (4, [.ref (bAd a s.heap.size 1), .ref (bAd a s.heap.size 2), .ref (bAd a s.heap.size 3), .ref (bAd a s.heap.size 4), .null, .int 0, .int 0, .int 0, .int 0, .int 0]), .inl (ca 0, 64, .inl (fun _ => 0)), .inl (ca 0, 64, .inl (fun _ => 0)), .inl (ca 0, 64, .inl (fun _ => 0)), .inl (ca 0, 64, .inl (fun _ => 0))] : List va_E))) S hK hP (bD ha) hS (Nat.le_of_ble_eq_true rfl) rfl rfl (fun w h => hU w (in_Y w h)) ty_Y tyk_Y nm_Y 3 (by decide) (hU _ t1_125) rfl hini rfl rfl rfl (Nat.le_of_ble_eq_true rfl) (bL_set (L := (([.inr (4, [.ref (bAd a s.heap.size 1), .ref (bAd a s.heap.size 2), .ref (bAd a s.heap.size 3), .null, .null, .int 0, .int 0, .int 0, .int 0, .int 0]), .inl (ca 0, 64, .inl (fun _ => 0)), .inl (ca 0, 64, .inl (fun _ => 0)), .inl (ca 0, 64, .inl (fun _ => 0)), .inl (ca 0, 64, .inl (fun _ => 0))] : List va_E))) (k := 0) (x := .inr (4, [.ref (bAd a s.heap.size 1), .ref (bAd a s.heap.size 2), .ref (bAd a s.heap.size 3), .ref (bAd a s.heap.size 4), .null, .int 0, .int 0, .int 0, .int 0, .int 0])) (N := 5) rfl (Nat.le_of_ble_eq_true rfl)) d_Y_init_33 (fun H locs hP hS => ?_)
  refine lv_aload_n S.1 S.2.1 d_Y_init_36 rfl (lv_at hl 0 rfl) ?_
  refine lv_bipush (v := 64) S.1 S.2.1 d_Y_init_37 (by decide) ?_
  refine bNewa (atype := .int) (N := 5) (cA0 := ca 0) (a0 := (64, .inl (fun _ => 0))) (g' := bL (([.inr (4, [.ref (bAd a s.heap.size 1), .ref (bAd a s.heap.size 2), .ref (bAd a s.heap.size 3), .ref (bAd a s.heap.size 4), .null, .int 0, .int 0, .int 0, .int 0, .int 0]), .inl (ca 0, 64, .inl (fun _ => 0)), .inl (ca 0, 64, .inl (fun _ => 0)), .inl (ca 0, 64, .inl (fun _ => 0)), .inl (ca 0, 64, .inl (fun _ => 0)), .inl (ca 0, 64, .inl (fun _ => 0))] : List va_E))) 0 S hK hP hS rfl (hU _ t1_46) rfl rfl (fun h => h) (fun cA => bpr_int cA) (by decide) (by decide) (by decide) (Nat.le_of_ble_eq_true rfl) (Nat.le_of_ble_eq_true rfl) (bL_app rfl) d_Y_init_39 (fun H hP hS => ?_)
  refine ur_putF (k := 0) (v := .ref (bAd a s.heap.size 5)) (g' := bL (([.inr (4, [.ref (bAd a s.heap.size 1), .ref (bAd a s.heap.size 2), .ref (bAd a s.heap.size 3), .ref (bAd a s.heap.size 4), .ref (bAd a s.heap.size 5), .int 0, .int 0, .int 0, .int 0, .int 0]), .inl (ca 0, 64, .inl (fun _ => 0)), .inl (ca 0, 64, .inl (fun _ => 0)), .inl (ca 0, 64, .inl (fun _ => 0)), .inl (ca 0, 64, .inl (fun _ => 0)), .inl (ca 0, 64, .inl (fun _ => 0))] : List va_E))) S hK hP (bD ha) hS (Nat.le_of_ble_eq_true rfl) rfl rfl (fun w h => hU w (in_Y w h)) ty_Y tyk_Y nm_Y 4 (by decide) (hU _ t1_126) rfl hini rfl rfl rfl (Nat.le_of_ble_eq_true rfl) (bL_set (L := (([.inr (4, [.ref (bAd a s.heap.size 1), .ref (bAd a s.heap.size 2), .ref (bAd a s.heap.size 3), .ref (bAd a s.heap.size 4), .null, .int 0, .int 0, .int 0, .int 0, .int 0]), .inl (ca 0, 64, .inl (fun _ => 0)), .inl (ca 0, 64, .inl (fun _ => 0)), .inl (ca 0, 64, .inl (fun _ => 0)), .inl (ca 0, 64, .inl (fun _ => 0)), .inl (ca 0, 64, .inl (fun _ => 0))] : List va_E))) (k := 0) (x := .inr (4, [.ref (bAd a s.heap.size 1), .ref (bAd a s.heap.size 2), .ref (bAd a s.heap.size 3), .ref (bAd a s.heap.size 4), .ref (bAd a s.heap.size 5), .int 0, .int 0, .int 0, .int 0, .int 0])) (N := 6) rfl (Nat.le_of_ble_eq_true rfl)) d_Y_init_41 (fun H locs hP hS => ?_)
  refine lv_aload_n S.1 S.2.1 d_Y_init_44 rfl (lv_at hl 0 rfl) ?_
  refine lv_iconst (v := (-1)) S.1 S.2.1 d_Y_init_45 (by decide) ?_
  refine ur_put (k := 0) (v := .int (-1)) (g' := bL (([.inr (4, [.ref (bAd a s.heap.size 1), .ref (bAd a s.heap.size 2), .ref (bAd a s.heap.size 3), .ref (bAd a s.heap.size 4), .ref (bAd a s.heap.size 5), .int (-1), .int 0, .int 0, .int 0, .int 0]), .inl (ca 0, 64, .inl (fun _ => 0)), .inl (ca 0, 64, .inl (fun _ => 0)), .inl (ca 0, 64, .inl (fun _ => 0)), .inl (ca 0, 64, .inl (fun _ => 0)), .inl (ca 0, 64, .inl (fun _ => 0))] : List va_E))) S hK hP (bD ha) hS (Nat.le_of_ble_eq_true rfl) rfl rfl (fun w h => hU w (in_Y w h)) ty_Y tyk_Y nm_Y 5 (by decide) (hU _ t1_127) rfl rfl rfl (Nat.le_of_ble_eq_true rfl) (bL_set (L := (([.inr (4, [.ref (bAd a s.heap.size 1), .ref (bAd a s.heap.size 2), .ref (bAd a s.heap.size 3), .ref (bAd a s.heap.size 4), .ref (bAd a s.heap.size 5), .int 0, .int 0, .int 0, .int 0, .int 0]), .inl (ca 0, 64, .inl (fun _ => 0)), .inl (ca 0, 64, .inl (fun _ => 0)), .inl (ca 0, 64, .inl (fun _ => 0)), .inl (ca 0, 64, .inl (fun _ => 0)), .inl (ca 0, 64, .inl (fun _ => 0))] : List va_E))) (k := 0) (x := .inr (4, [.ref (bAd a s.heap.size 1), .ref (bAd a s.heap.size 2), .ref (bAd a s.heap.size 3), .ref (bAd a s.heap.size 4), .ref (bAd a s.heap.size 5), .int (-1), .int 0, .int 0, .int 0, .int 0])) (N := 6) rfl (Nat.le_of_ble_eq_true rfl)) d_Y_init_46 (fun H locs hP hS => ?_)
  refine lv_aload_n S.1 S.2.1 d_Y_init_49 rfl (lv_at hl 0 rfl) ?_
  refine lv_sipush (v := 255) S.1 S.2.1 d_Y_init_50 (by decide) ?_
  refine ur_put (k := 0) (v := .int 255) (g' := bL (([.inr (4, [.ref (bAd a s.heap.size 1), .ref (bAd a s.heap.size 2), .ref (bAd a s.heap.size 3), .ref (bAd a s.heap.size 4), .ref (bAd a s.heap.size 5), .int (-1), .int 255, .int 0, .int 0, .int 0]), .inl (ca 0, 64, .inl (fun _ => 0)), .inl (ca 0, 64, .inl (fun _ => 0)), .inl (ca 0, 64, .inl (fun _ => 0)), .inl (ca 0, 64, .inl (fun _ => 0)), .inl (ca 0, 64, .inl (fun _ => 0))] : List va_E))) S hK hP (bD ha) hS (Nat.le_of_ble_eq_true rfl) rfl rfl (fun w h => hU w (in_Y w h)) ty_Y tyk_Y nm_Y 6 (by decide) (hU _ t1_129) rfl rfl rfl (Nat.le_of_ble_eq_true rfl) (bL_set (L := (([.inr (4, [.ref (bAd a s.heap.size 1), .ref (bAd a s.heap.size 2), .ref (bAd a s.heap.size 3), .ref (bAd a s.heap.size 4), .ref (bAd a s.heap.size 5), .int (-1), .int 0, .int 0, .int 0, .int 0]), .inl (ca 0, 64, .inl (fun _ => 0)), .inl (ca 0, 64, .inl (fun _ => 0)), .inl (ca 0, 64, .inl (fun _ => 0)), .inl (ca 0, 64, .inl (fun _ => 0)), .inl (ca 0, 64, .inl (fun _ => 0))] : List va_E))) (k := 0) (x := .inr (4, [.ref (bAd a s.heap.size 1), .ref (bAd a s.heap.size 2), .ref (bAd a s.heap.size 3), .ref (bAd a s.heap.size 4), .ref (bAd a s.heap.size 5), .int (-1), .int 255, .int 0, .int 0, .int 0])) (N := 6) rfl (Nat.le_of_ble_eq_true rfl)) d_Y_init_53 (fun H locs hP hS => ?_)
  refine lv_aload_n S.1 S.2.1 d_Y_init_56 rfl (lv_at hl 0 rfl) ?_
  refine lv_iconst (v := 0) S.1 S.2.1 d_Y_init_57 (by decide) ?_
  refine ur_put (k := 0) (v := .int 0) (g' := bL (([.inr (4, [.ref (bAd a s.heap.size 1), .ref (bAd a s.heap.size 2), .ref (bAd a s.heap.size 3), .ref (bAd a s.heap.size 4), .ref (bAd a s.heap.size 5), .int (-1), .int 255, .int 0, .int 0, .int 0]), .inl (ca 0, 64, .inl (fun _ => 0)), .inl (ca 0, 64, .inl (fun _ => 0)), .inl (ca 0, 64, .inl (fun _ => 0)), .inl (ca 0, 64, .inl (fun _ => 0)), .inl (ca 0, 64, .inl (fun _ => 0))] : List va_E))) S hK hP (bD ha) hS (Nat.le_of_ble_eq_true rfl) rfl rfl (fun w h => hU w (in_Y w h)) ty_Y tyk_Y nm_Y 7 (by decide) (hU _ t1_131) rfl rfl rfl (Nat.le_of_ble_eq_true rfl) (bL_set (L := (([.inr (4, [.ref (bAd a s.heap.size 1), .ref (bAd a s.heap.size 2), .ref (bAd a s.heap.size 3), .ref (bAd a s.heap.size 4), .ref (bAd a s.heap.size 5), .int (-1), .int 255, .int 0, .int 0, .int 0]), .inl (ca 0, 64, .inl (fun _ => 0)), .inl (ca 0, 64, .inl (fun _ => 0)), .inl (ca 0, 64, .inl (fun _ => 0)), .inl (ca 0, 64, .inl (fun _ => 0)), .inl (ca 0, 64, .inl (fun _ => 0))] : List va_E))) (k := 0) (x := .inr (4, [.ref (bAd a s.heap.size 1), .ref (bAd a s.heap.size 2), .ref (bAd a s.heap.size 3), .ref (bAd a s.heap.size 4), .ref (bAd a s.heap.size 5), .int (-1), .int 255, .int 0, .int 0, .int 0])) (N := 6) rfl (Nat.le_of_ble_eq_true rfl)) d_Y_init_58 (fun H locs hP hS => ?_)
  refine lv_aload_n S.1 S.2.1 d_Y_init_61 rfl (lv_at hl 0 rfl) ?_
  refine lv_iconst (v := (-1)) S.1 S.2.1 d_Y_init_62 (by decide) ?_
  refine ur_put (k := 0) (v := .int (-1)) (g' := bL (([.inr (4, [.ref (bAd a s.heap.size 1), .ref (bAd a s.heap.size 2), .ref (bAd a s.heap.size 3), .ref (bAd a s.heap.size 4), .ref (bAd a s.heap.size 5), .int (-1), .int 255, .int 0, .int (-1), .int 0]), .inl (ca 0, 64, .inl (fun _ => 0)), .inl (ca 0, 64, .inl (fun _ => 0)), .inl (ca 0, 64, .inl (fun _ => 0)), .inl (ca 0, 64, .inl (fun _ => 0)), .inl (ca 0, 64, .inl (fun _ => 0))] : List va_E))) S hK hP (bD ha) hS (Nat.le_of_ble_eq_true rfl) rfl rfl (fun w h => hU w (in_Y w h)) ty_Y tyk_Y nm_Y 8 (by decide) (hU _ t1_133) rfl rfl rfl (Nat.le_of_ble_eq_true rfl) (bL_set (L := (([.inr (4, [.ref (bAd a s.heap.size 1), .ref (bAd a s.heap.size 2), .ref (bAd a s.heap.size 3), .ref (bAd a s.heap.size 4), .ref (bAd a s.heap.size 5), .int (-1), .int 255, .int 0, .int 0, .int 0]), .inl (ca 0, 64, .inl (fun _ => 0)), .inl (ca 0, 64, .inl (fun _ => 0)), .inl (ca 0, 64, .inl (fun _ => 0)), .inl (ca 0, 64, .inl (fun _ => 0)), .inl (ca 0, 64, .inl (fun _ => 0))] : List va_E))) (k := 0) (x := .inr (4, [.ref (bAd a s.heap.size 1), .ref (bAd a s.heap.size 2), .ref (bAd a s.heap.size 3), .ref (bAd a s.heap.size 4), .ref (bAd a s.heap.size 5), .int (-1), .int 255, .int 0, .int (-1), .int 0])) (N := 6) rfl (Nat.le_of_ble_eq_true rfl)) d_Y_init_63 (fun H locs hP hS => ?_)
  refine lv_aload_n S.1 S.2.1 d_Y_init_66 rfl (lv_at hl 0 rfl) ?_
  refine lv_iconst (v := (-1)) S.1 S.2.1 d_Y_init_67 (by decide) ?_
  refine ur_put (k := 0) (v := .int (-1)) (g' := bL (([.inr (4, [.ref (bAd a s.heap.size 1), .ref (bAd a s.heap.size 2), .ref (bAd a s.heap.size 3), .ref (bAd a s.heap.size 4), .ref (bAd a s.heap.size 5), .int (-1), .int 255, .int 0, .int (-1), .int (-1)]), .inl (ca 0, 64, .inl (fun _ => 0)), .inl (ca 0, 64, .inl (fun _ => 0)), .inl (ca 0, 64, .inl (fun _ => 0)), .inl (ca 0, 64, .inl (fun _ => 0)), .inl (ca 0, 64, .inl (fun _ => 0))] : List va_E))) S hK hP (bD ha) hS (Nat.le_of_ble_eq_true rfl) rfl rfl (fun w h => hU w (in_Y w h)) ty_Y tyk_Y nm_Y 9 (by decide) (hU _ t1_135) rfl rfl rfl (Nat.le_of_ble_eq_true rfl) (bL_set (L := (([.inr (4, [.ref (bAd a s.heap.size 1), .ref (bAd a s.heap.size 2), .ref (bAd a s.heap.size 3), .ref (bAd a s.heap.size 4), .ref (bAd a s.heap.size 5), .int (-1), .int 255, .int 0, .int (-1), .int 0]), .inl (ca 0, 64, .inl (fun _ => 0)), .inl (ca 0, 64, .inl (fun _ => 0)), .inl (ca 0, 64, .inl (fun _ => 0)), .inl (ca 0, 64, .inl (fun _ => 0)), .inl (ca 0, 64, .inl (fun _ => 0))] : List va_E))) (k := 0) (x := .inr (4, [.ref (bAd a s.heap.size 1), .ref (bAd a s.heap.size 2), .ref (bAd a s.heap.size 3), .ref (bAd a s.heap.size 4), .ref (bAd a s.heap.size 5), .int (-1), .int 255, .int 0, .int (-1), .int (-1)])) (N := 6) rfl (Nat.le_of_ble_eq_true rfl)) d_Y_init_68 (fun H locs hP hS => ?_)
  refine lv_aload_n S.1 S.2.1 d_Y_init_71 rfl (lv_at hl 0 rfl) ?_
  refine ur_get (k := 0) (v := .ref (bAd a s.heap.size 5)) S hK hP (Nat.le_of_ble_eq_true rfl) rfl rfl (fun w h => hU w (in_Y w h)) 4 (by decide) (hU _ t1_126) rfl d_Y_init_72 ?_
  refine lv_iconst (v := (-1)) S.1 S.2.1 d_Y_init_75 (by decide) ?_
  refine bSv1 (n := 2) (As := [.ref (bAd a s.heap.size 5), .int (-1)]) (rest := []) (G1 := aG (ca 0) 64) (f1 := fun _ => 0) (g' := fun _ => bL (([.inr (4, [.ref (bAd a s.heap.size 1), .ref (bAd a s.heap.size 2), .ref (bAd a s.heap.size 3), .ref (bAd a s.heap.size 4), .ref (bAd a s.heap.size 5), .int (-1), .int 255, .int 0, .int (-1), .int (-1)]), .inl (ca 0, 64, .inl (fun _ => 0)), .inl (ca 0, 64, .inl (fun _ => 0)), .inl (ca 0, 64, .inl (fun _ => 0)), .inl (ca 0, 64, .inl (fun _ => 0)), .inl (ca 0, 64, .inl (fun i => if i < 64 then -1 else 0))] : List va_E))) S hK hN (bJ ha) hP hS 5 (Nat.le_of_ble_eq_true rfl) bIn (fun q h => Or.inr h) (c_JA_fill _ 64 (by decide) _ _) rfl (fun u hu k' hk' => by subst hu; exact if_set hk' (fun i hi => bL_set (x := .inl (ca 0, 64, .inl (fun i => if i < 64 then -1 else 0))) rfl (Nat.le_of_ble_eq_true rfl) i hi)) ⟨hU, t1_34, t1_121, t1_3, by decide +kernel, Nat.le_of_ble_eq_true rfl, Nat.le_of_ble_eq_true rfl⟩ t1_33 rfl hl.1 rfl (Nat.le_of_ble_eq_true rfl) d_Y_init_76 ⟨Nat.le_of_ble_eq_true rfl, Nat.le_of_ble_eq_true rfl⟩ (fun u H locs hp hP hS => ?_)
  exact W.vret S.1 S.2.1 hr (fun t ht _ => ⟨⟨(), rfl, trivial, by rw [← ht] at hP; exact hP⟩, hS.F ht⟩) hS.2.2 d_Y_init_79 hlk

theorem len_V {ca : Nat → ClassId} {a sz : Nat} : (cL_V ca a sz).length = 2 := rfl
theorem len_P {ca : Nat → ClassId} {a sz : Nat} : (cL_P ca a sz).length = 2 := rfl
theorem len_C {ca : Nat → ClassId} {a sz : Nat} : (cL_C ca a sz).length = 3 := rfl
theorem len_Y {ca : Nat → ClassId} {a sz : Nat} : (cL_Y ca a sz).length = 6 := rfl
theorem bL_at {L t : List va_E} {x : va_E} {b : Nat} (h : L.length = b) : bL (L ++ x :: t) b = x := by
  unfold bL
  simp [List.getD, ← h]
/-- an array of references, filled below i -/
def rfA (ad : Nat → Nat) (i : Nat) : (Nat → Int32) ⊕ (Nat → Int64) ⊕ (Nat → UInt32) ⊕ (Nat → UInt64) ⊕ (Nat → Option Nat) := .inr (.inr (.inr (.inr (fun j => if j < i then some (ad j) else none))))
theorem rfA_0 {ad : Nat → Nat} : rfA ad 0 = .inr (.inr (.inr (.inr (fun _ => none)))) := by simp [rfA]
theorem rf_up {ad : Nat → Nat} {i : Nat} : va_up (fun j => if j < i then some (ad j) else none) i (some (ad i)) = fun j => if j < i + 1 then some (ad j) else none := by
  funext j
  by_cases h : j = i
  · rw [h, va_up_self, if_pos (Nat.lt_succ_self i)]
  · rw [va_up_ne _ _ h]
    by_cases h2 : j < i
    · rw [if_pos h2, if_pos (by omega)]
    · rw [if_neg h2, if_neg (by omega)]
/-- the book's cues, below i -/
def bkC (ca : Nat → ClassId) (a sz : Nat) : Nat → List va_E
  | 0 => []
  | i + 1 => bkC ca a sz i ++ cL_C ca (bAd a sz (2 + 3 * i)) (sz + (2 + 3 * i))
theorem len_bkC {ca : Nat → ClassId} {a sz : Nat} : ∀ i, (bkC ca a sz i).length = 3 * i := by
  intro i
  induction i with
  | zero => rfl
  | succ i ih => rw [bkC, List.length_append, ih, len_C]; rfl
def bkA (ca : Nat → ClassId) (a sz i : Nat) : va_E := .inl (ca 2, 40, rfA (fun j => bAd a sz (2 + 3 * j)) i)
def bkL (ca : Nat → ClassId) (a sz i : Nat) : List va_E := .inr (3, [.ref (bAd a sz 1), .int 0]) :: bkA ca a sz i :: bkC ca a sz i
theorem len_bkL {ca : Nat → ClassId} {a sz : Nat} (i : Nat) : (bkL ca a sz i).length = 2 + 3 * i := by
  show (bkC ca a sz i).length + 1 + 1 = _
  rw [len_bkC]; omega
def cL_B (ca : Nat → ClassId) (a sz : Nat) : List va_E := bkL ca a sz 40
theorem len_B {ca : Nat → ClassId} {a sz : Nat} : (cL_B ca a sz).length = 122 := len_bkL 40
set_option maxRecDepth 100000 in
set_option maxHeartbeats 4000000 in
theorem c_B_init {l : Launch} {D : va_G} {ca : Nat → ClassId} : uCon l y_B_init b_B_init 2 3 63 121 2960 D clsAll (tysAll ca) (.inr (3, [.null, .int 0])) (fun a sz => bL (cL_B ca a sz)) := by
  refine bStart (by decide) (by decide) ?_
  intro a p e s m below meth c ls ha S hr hlk hini hK hN hX hP hl
  have hini : meth.name = "<init>" := hini
  have hU : ∀ w ∈ uWS, w ∈ (Cond.code y_B_init b_B_init 2 none :: uWS) := fun w h => List.mem_cons_of_mem _ h
  have hS : va_S (bA a s.heap.size) s.heap s.heap [] := va_S.rf
  have hl : lv_has ls 2 [(0, .ref a)] := hl
  have hP : va_P D clsAll (uw 1 (bAd a s.heap.size) (bL [.inr (3, [.null, .int 0])])) s.heap := by
    intro k q hq
    obtain ⟨h1, rfl⟩ := uw_inv hq
    have h0 : k = 0 := by omega
    subst h0
    exact hP 0 _ (uw_get (by decide))
  refine lv_aload_n S.1 S.2.1 d_B_init_0 rfl (lv_at hl 0 rfl) ?_
  refine W.objInit S.1 S.2.1 S.2.2.2.1 (S.2.2.2.2 _ (hU _ t1_63)) (S.2.2.2.2 _ (hU _ t1_24)) (S.2.2.2.2 _ (hU _ t1_25)) rfl (hl.1.trans S.2.2.1.symm) rfl d_B_init_1 (Nat.le_of_ble_eq_true rfl) (Nat.le_of_ble_eq_true rfl) ?_
  refine lv_aload_n S.1 S.2.1 d_B_init_4 rfl (lv_at hl 0 rfl) ?_
  refine lv_bipush (v := 40) S.1 S.2.1 d_B_init_5 (by decide) ?_
  refine bNewq (N := 1) (cA0 := ca 2) (N' := 40) (g' := bL (([.inr (3, [.null, .int 0]), .inl (ca 2, 40, .inr (.inr (.inr (.inr (fun _ => none)))))] : List va_E))) 2 S hK hP hS rfl (hU _ t1_64) hX.1 rfl (by decide) (by decide) (by decide) (Nat.le_of_ble_eq_true rfl) (Nat.le_of_ble_eq_true rfl) (bL_app rfl) d_B_init_7 (fun H hP hS => ?_)
  refine ur_putF (k := 0) (v := .ref (bAd a s.heap.size 1)) (g' := bL (([.inr (3, [.ref (bAd a s.heap.size 1), .int 0]), .inl (ca 2, 40, .inr (.inr (.inr (.inr (fun _ => none)))))] : List va_E))) S hK hP (bD ha) hS (Nat.le_of_ble_eq_true rfl) rfl rfl (fun w h => hU w (in_B w h)) ty_B tyk_B nm_B 0 (by decide) (hU _ t1_106) rfl hini rfl rfl rfl (Nat.le_of_ble_eq_true rfl) (bL_set (L := (([.inr (3, [.null, .int 0]), .inl (ca 2, 40, .inr (.inr (.inr (.inr (fun _ => none)))))] : List va_E))) (k := 0) (x := .inr (3, [.ref (bAd a s.heap.size 1), .int 0])) (N := 2) rfl (Nat.le_of_ble_eq_true rfl)) d_B_init_10 (fun H locs hP hS => ?_)
  refine lv_aload_n S.1 S.2.1 d_B_init_13 rfl (lv_at hl 0 rfl) ?_
  refine lv_iconst (v := 0) S.1 S.2.1 d_B_init_14 (by decide) ?_
  refine ur_put (k := 0) (v := .int 0) (g' := bL (([.inr (3, [.ref (bAd a s.heap.size 1), .int 0]), .inl (ca 2, 40, .inr (.inr (.inr (.inr (fun _ => none)))))] : List va_E))) S hK hP (bD ha) hS (Nat.le_of_ble_eq_true rfl) rfl rfl (fun w h => hU w (in_B w h)) ty_B tyk_B nm_B 1 (by decide) (hU _ t1_107) rfl rfl rfl (Nat.le_of_ble_eq_true rfl) (bL_set (L := (([.inr (3, [.ref (bAd a s.heap.size 1), .int 0]), .inl (ca 2, 40, .inr (.inr (.inr (.inr (fun _ => none)))))] : List va_E))) (k := 0) (x := .inr (3, [.ref (bAd a s.heap.size 1), .int 0])) (N := 2) rfl (Nat.le_of_ble_eq_true rfl)) d_B_init_15 (fun H locs hP hS => ?_)
  refine lv_iconst (v := 0) S.1 S.2.1 d_B_init_18 (by decide) ?_
  refine lv_istore_n (lv' := [(1, .int 0), (0, .ref a)]) S.1 S.2.1 d_B_init_19 rfl hl (by decide) rfl (fun ls hl => ?_)
  have LP : ∀ i, i ≤ 40 → ∀ (H : Heap) (locs : List Loc) (ls : Array Slot), va_P D clsAll (uw (2 + 3 * i) (bAd a s.heap.size) (bL (bkL ca a s.heap.size i))) H → va_S (bA a s.heap.size) s.heap H locs → lv_has ls 2 [(1, .int (nI i)), (0, .ref a)] → W p l e { frames := 3, cells := 121, slots := 2960, locals := 63 } s m [Value.ref a].toArray below meth c H locs (1 + 3 * i) (40 + 73 * i) (MQ below (va_Qv (fun _ : Unit => True) (fun _ t => va_P D clsAll (uw (121 + 1) (bAd a s.heap.size) (bL (cL_B ca a s.heap.size))) t.heap) (bA a s.heap.size)) [Value.ref a].toArray s 121 2960 (bA a s.heap.size)) (F0 m 20 ls []) := by
    refine upTo 40 ?_ ?_
    · intro H locs ls hP hS hl
      refine lv_iload_n S.1 S.2.1 d_B_init_20 rfl (lv_at hl 0 rfl) ?_
      refine lv_bipush (v := 40) S.1 S.2.1 d_B_init_21 (by decide) ?_
      refine lv_icmp_ge (tgt := 45) S.1 S.2.1 d_B_init_23 (by decide) (fun c_h => ?_) (fun c_h => ?_)
      · exact W.vret S.1 S.2.1 hr (fun t ht _ => ⟨⟨(), rfl, trivial, by rw [← ht] at hP; exact hP⟩, hS.F ht⟩) hS.2.2 d_B_init_45 hlk
      · exact absurd (nI_le (Nat.le_refl 40) (by decide)) c_h
    · intro i hi ih H locs ls hP hS hl
      refine lv_iload_n S.1 S.2.1 d_B_init_20 rfl (lv_at hl 0 rfl) ?_
      refine lv_bipush (v := 40) S.1 S.2.1 d_B_init_21 (by decide) ?_
      refine lv_icmp_ge (tgt := 45) S.1 S.2.1 d_B_init_23 (by decide) (fun c_h => absurd c_h (nI_ge (b := 40) hi (by decide))) (fun c_h => ?_)
      refine lv_aload_n S.1 S.2.1 d_B_init_26 rfl (lv_at hl 1 rfl) ?_
      refine ur_get (k := 0) (v := .ref (bAd a s.heap.size 1)) S hK hP (by omega) rfl rfl (fun w h => hU w (in_B w h)) 0 (by decide) (hU _ t1_106) rfl d_B_init_27 ?_
      refine lv_iload_n S.1 S.2.1 d_B_init_30 rfl (lv_at hl 0 rfl) ?_
      refine bNew (N := 2 + 3 * i) (ci := 2) (fs := [.null, .int 0, .int 0, .int 0, .int 0, .int 0, .int 0]) (g' := bL ((bkL ca a s.heap.size i) ++ [.inr (2, [.null, .int 0, .int 0, .int 0, .int 0, .int 0, .int 0])])) S hK hP hS (by omega) (fun w h => hU w (in_C w h)) ty_C tyk_C (hU _ t1_64) (hU _ t1_66) (hU _ t1_6) rfl df_C (by show 1 + 3 * i + 1 ≤ 121; omega) (by show 40 + 73 * i + 7 ≤ 2960; omega) (bL_app (len_bkL i)) d_B_init_31 (fun H hP hS => ?_)
      refine lv_dup S.1 S.2.1 d_B_init_34 rfl ?_
      refine bInitN (b := 2 + 3 * i) (rest := [.ref (bAd a s.heap.size (2 + 3 * i)), .int (nI i), .ref (bAd a s.heap.size 1)]) (g' := bL ((bkL ca a s.heap.size i) ++ cL_C ca (bAd a s.heap.size (2 + 3 * i)) (s.heap.size + (2 + 3 * i)))) S hK hN hX ha hP hS (by omega) (c_C_init (ca := ca)) (bL_at (len_bkL i)) hU t1_69 t1_67 t1_6 t1_68 rfl (by decide +kernel) ⟨Nat.le_of_ble_eq_true rfl, Nat.le_of_ble_eq_true rfl⟩ hl.1 (Nat.le_of_ble_eq_true rfl) ⟨by show 1 + 3 * i + 1 + 2 ≤ 121; omega, by show 40 + 73 * i + 7 + 66 ≤ 2960; omega⟩ (fun k hk => bL_cat (L := (bkL ca a s.heap.size i)) (L1 := cL_C ca (bAd a s.heap.size (2 + 3 * i)) (s.heap.size + (2 + 3 * i))) (x := .inr (2, [.null, .int 0, .int 0, .int 0, .int 0, .int 0, .int 0])) (b := 2 + 3 * i) (len_bkL i) k _ hk) d_B_init_35 (fun H locs hP hS => ?_)
      refine ur_aast (k := 1) (g' := bL (bkL ca a s.heap.size (i + 1))) (j := i) (kv := 2 + 3 * i) S hK hP (bD ha) hS (by omega) 2 (r := clsAll[2]) rfl rfl rfl hi (by decide) (by omega) (bL_at (len_bkL i)) rfl (fun k' hk' => ?_) d_B_init_38 (fun H locs hP hS => ?_)
      · rw [bL_set (N := 2 + 3 * i + 2 + 1) (by rw [List.length_append, len_bkL, len_C]) (by omega) k' hk', rf_up (ad := fun j => bAd a s.heap.size (2 + 3 * j))]
        rfl
      refine lv_iinc (v := nI (i + 1)) (lv' := [(1, .int (nI (i + 1))), (0, .ref a)]) S.1 S.2.1 d_B_init_39 hl (k := 0) rfl (nI_1 i) (by decide) rfl (fun ls hl => ?_)
      refine lv_goto (tgt := 20) S.1 S.2.1 d_B_init_42 (by decide) ?_
      exact bCs (by omega) (by omega) (ih H locs ls (by rw [show 2 + 3 * (i + 1) = 2 + 3 * i + 2 + 1 by omega]; exact hP) hS hl)
  exact LP 0 (by omega) _ _ ls (by rw [show bkL ca a s.heap.size 0 = _ from by rw [bkL, bkA, rfA_0, bkC]]; exact hP) hS hl

/-- the desk's players, below i -/
def dkY (ca : Nat → ClassId) (a sz : Nat) : Nat → List va_E
  | 0 => []
  | i + 1 => dkY ca a sz i ++ cL_Y ca (bAd a sz (129 + 6 * i)) (sz + (129 + 6 * i))
theorem len_dkY {ca : Nat → ClassId} {a sz : Nat} : ∀ i, (dkY ca a sz i).length = 6 * i := by
  intro i
  induction i with
  | zero => rfl
  | succ i ih => rw [dkY, List.length_append, ih, len_Y]; rfl
def dkA (ca : Nat → ClassId) (a sz i : Nat) : va_E := .inl (ca 3, 6, rfA (fun j => bAd a sz (129 + 6 * j)) i)
def dkO (a sz : Nat) : va_E := .inr (5, [.ref (bAd a sz 1), .ref (bAd a sz 2), .ref (bAd a sz 4), .ref (bAd a sz 6), .ref (bAd a sz 128), .int 0, .int 0])
def dkB (ca : Nat → ClassId) (a sz : Nat) : List va_E := ([dkO a sz, .inl (ca 1, 64, .inl (fun _ => 0))] : List va_E) ++ cL_V ca (bAd a sz 2) (sz + 2) ++ cL_P ca (bAd a sz 4) (sz + 4) ++ cL_B ca (bAd a sz 6) (sz + 6)
theorem len_dkB {ca : Nat → ClassId} {a sz : Nat} : (dkB ca a sz).length = 128 := by simp [dkB, len_V, len_P, len_B]
def dkL (ca : Nat → ClassId) (a sz i : Nat) : List va_E := dkB ca a sz ++ dkA ca a sz i :: dkY ca a sz i
theorem len_dkL {ca : Nat → ClassId} {a sz : Nat} (i : Nat) : (dkL ca a sz i).length = 129 + 6 * i := by
  rw [dkL, List.length_append, len_dkB, List.length_cons, len_dkY]; omega
def cL_D (ca : Nat → ClassId) (a sz : Nat) : List va_E := dkL ca a sz 6
theorem len_D {ca : Nat → ClassId} {a sz : Nat} : (cL_D ca a sz).length = 165 := len_dkL 6
theorem set_mid {L t : List va_E} {x y : va_E} {b : Nat} (h : L.length = b) : (L ++ x :: t).set b y = L ++ y :: t := by
  subst h
  simp
set_option maxRecDepth 100000 in
set_option maxHeartbeats 4000000 in
theorem c_D_init {l : Launch} {D : va_G} {ca : Nat → ClassId} : uCon l y_D_init b_D_init 2 4 84 164 6103 D clsAll (tysAll ca) (.inr (5, [.null, .null, .null, .null, .null, .int 0, .int 0])) (fun a sz => bL (cL_D ca a sz)) := by
  refine bStart (by decide) (by decide) ?_
  intro a p e s m below meth c ls ha S hr hlk hini hK hN hX hP hl
  have hini : meth.name = "<init>" := hini
  have hU : ∀ w ∈ uWS, w ∈ (Cond.code y_D_init b_D_init 2 none :: uWS) := fun w h => List.mem_cons_of_mem _ h
  have hS : va_S (bA a s.heap.size) s.heap s.heap [] := va_S.rf
  have hl : lv_has ls 2 [(0, .ref a)] := hl
  have hP : va_P D clsAll (uw 1 (bAd a s.heap.size) (bL [.inr (5, [.null, .null, .null, .null, .null, .int 0, .int 0])])) s.heap := by
    intro k q hq
    obtain ⟨h1, rfl⟩ := uw_inv hq
    have h0 : k = 0 := by omega
    subst h0
    exact hP 0 _ (uw_get (by decide))
  refine lv_aload_n S.1 S.2.1 d_D_init_0 rfl (lv_at hl 0 rfl) ?_
  refine W.objInit S.1 S.2.1 S.2.2.2.1 (S.2.2.2.2 _ (hU _ t1_23)) (S.2.2.2.2 _ (hU _ t1_24)) (S.2.2.2.2 _ (hU _ t1_25)) rfl (hl.1.trans S.2.2.1.symm) rfl d_D_init_1 (Nat.le_of_ble_eq_true rfl) (Nat.le_of_ble_eq_true rfl) ?_
  refine lv_aload_n S.1 S.2.1 d_D_init_4 rfl (lv_at hl 0 rfl) ?_
  refine lv_bipush (v := 64) S.1 S.2.1 d_D_init_5 (by decide) ?_
  refine bNewa (atype := .boolean) (N := 1) (cA0 := ca 1) (a0 := (64, .inl (fun _ => 0))) (g' := bL (([.inr (5, [.null, .null, .null, .null, .null, .int 0, .int 0]), .inl (ca 1, 64, .inl (fun _ => 0))] : List va_E))) 1 S hK hP hS rfl (hU _ t1_45) rfl rfl (fun h => h) (fun cA => bpr_bool cA) (by decide) (by decide) (by decide) (Nat.le_of_ble_eq_true rfl) (Nat.le_of_ble_eq_true rfl) (bL_app (by simp [len_V, len_P, len_B])) d_D_init_7 (fun H hP hS => ?_)
  refine ur_putF (k := 0) (v := .ref (bAd a s.heap.size 1)) (g' := bL (([.inr (5, [.ref (bAd a s.heap.size 1), .null, .null, .null, .null, .int 0, .int 0]), .inl (ca 1, 64, .inl (fun _ => 0))] : List va_E))) S hK hP (bD ha) hS (Nat.le_of_ble_eq_true rfl) rfl rfl (fun w h => hU w (in_D w h)) ty_D tyk_D nm_D 0 (by decide) (hU _ t1_158) rfl hini rfl rfl rfl (Nat.le_of_ble_eq_true rfl) (bL_set (L := (([.inr (5, [.null, .null, .null, .null, .null, .int 0, .int 0]), .inl (ca 1, 64, .inl (fun _ => 0))] : List va_E))) (k := 0) (x := .inr (5, [.ref (bAd a s.heap.size 1), .null, .null, .null, .null, .int 0, .int 0])) (N := 2) (by simp [len_V, len_P, len_B]) (Nat.le_of_ble_eq_true rfl)) d_D_init_9 (fun H locs hP hS => ?_)
  refine lv_aload_n S.1 S.2.1 d_D_init_12 rfl (lv_at hl 0 rfl) ?_
  refine bNew (N := 2) (ci := 0) (fs := [.null, .int 0]) (g' := bL (([.inr (5, [.ref (bAd a s.heap.size 1), .null, .null, .null, .null, .int 0, .int 0]), .inl (ca 1, 64, .inl (fun _ => 0)), .inr (0, [.null, .int 0])] : List va_E))) S hK hP hS rfl (fun w h => hU w (in_V w h)) ty_V tyk_V (hU _ t1_26) (hU _ t1_27) (hU _ t1_2) rfl df_V (Nat.le_of_ble_eq_true rfl) (Nat.le_of_ble_eq_true rfl) (bL_app (by simp [len_V, len_P, len_B])) d_D_init_13 (fun H hP hS => ?_)
  refine lv_dup S.1 S.2.1 d_D_init_16 rfl ?_
  refine bInit (b := 2) (rest := [.ref (bAd a s.heap.size 2), .ref a]) (g' := bL (([.inr (5, [.ref (bAd a s.heap.size 1), .null, .null, .null, .null, .int 0, .int 0]), .inl (ca 1, 64, .inl (fun _ => 0))] : List va_E) ++ cL_V ca (bAd a s.heap.size 2) (s.heap.size + 2))) S hK hN hX ha hP hS rfl (c_V_init (ca := ca)) rfl hU t1_30 t1_28 t1_2 t1_29 rfl (by decide +kernel) ⟨Nat.le_of_ble_eq_true rfl, Nat.le_of_ble_eq_true rfl⟩ hl.1 (Nat.le_of_ble_eq_true rfl) ⟨Nat.le_of_ble_eq_true rfl, Nat.le_of_ble_eq_true rfl⟩ (fun k hk => bL_cat (L := (([.inr (5, [.ref (bAd a s.heap.size 1), .null, .null, .null, .null, .int 0, .int 0]), .inl (ca 1, 64, .inl (fun _ => 0))] : List va_E))) (L1 := cL_V ca (bAd a s.heap.size 2) (s.heap.size + 2)) (x := .inr (0, [.null, .int 0])) (b := 2) rfl k _ hk) d_D_init_17 (fun H locs hP hS => ?_)
  refine ur_putF (k := 0) (v := .ref (bAd a s.heap.size 2)) (g' := bL (([.inr (5, [.ref (bAd a s.heap.size 1), .ref (bAd a s.heap.size 2), .null, .null, .null, .int 0, .int 0]), .inl (ca 1, 64, .inl (fun _ => 0))] : List va_E) ++ cL_V ca (bAd a s.heap.size 2) (s.heap.size + 2))) S hK hP (bD ha) hS (Nat.le_of_ble_eq_true rfl) rfl rfl (fun w h => hU w (in_D w h)) ty_D tyk_D nm_D 1 (by decide) (hU _ t1_159) rfl hini rfl rfl rfl (Nat.le_of_ble_eq_true rfl) (bL_set (L := (([.inr (5, [.ref (bAd a s.heap.size 1), .null, .null, .null, .null, .int 0, .int 0]), .inl (ca 1, 64, .inl (fun _ => 0))] : List va_E) ++ cL_V ca (bAd a s.heap.size 2) (s.heap.size + 2))) (k := 0) (x := .inr (5, [.ref (bAd a s.heap.size 1), .ref (bAd a s.heap.size 2), .null, .null, .null, .int 0, .int 0])) (N := 4) (by simp [len_V, len_P, len_B]) (Nat.le_of_ble_eq_true rfl)) d_D_init_20 (fun H locs hP hS => ?_)
  refine lv_aload_n S.1 S.2.1 d_D_init_23 rfl (lv_at hl 0 rfl) ?_
  refine bNew (N := 4) (ci := 1) (fs := [.null]) (g' := bL (([.inr (5, [.ref (bAd a s.heap.size 1), .ref (bAd a s.heap.size 2), .null, .null, .null, .int 0, .int 0]), .inl (ca 1, 64, .inl (fun _ => 0))] : List va_E) ++ cL_V ca (bAd a s.heap.size 2) (s.heap.size + 2) ++ ([.inr (1, [.null])] : List va_E))) S hK hP hS rfl (fun w h => hU w (in_P w h)) ty_P tyk_P (hU _ t1_47) (hU _ t1_48) (hU _ t1_4) rfl df_P (Nat.le_of_ble_eq_true rfl) (Nat.le_of_ble_eq_true rfl) (bL_app (by simp [len_V, len_P, len_B])) d_D_init_24 (fun H hP hS => ?_)
  refine lv_dup S.1 S.2.1 d_D_init_27 rfl ?_
  refine bInit (b := 4) (rest := [.ref (bAd a s.heap.size 4), .ref a]) (g' := bL (([.inr (5, [.ref (bAd a s.heap.size 1), .ref (bAd a s.heap.size 2), .null, .null, .null, .int 0, .int 0]), .inl (ca 1, 64, .inl (fun _ => 0))] : List va_E) ++ cL_V ca (bAd a s.heap.size 2) (s.heap.size + 2) ++ cL_P ca (bAd a s.heap.size 4) (s.heap.size + 4))) S hK hN hX ha hP hS rfl (c_P_init (ca := ca)) rfl hU t1_51 t1_49 t1_4 t1_50 rfl (by decide +kernel) ⟨Nat.le_of_ble_eq_true rfl, Nat.le_of_ble_eq_true rfl⟩ hl.1 (Nat.le_of_ble_eq_true rfl) ⟨Nat.le_of_ble_eq_true rfl, Nat.le_of_ble_eq_true rfl⟩ (fun k hk => bL_cat (L := (([.inr (5, [.ref (bAd a s.heap.size 1), .ref (bAd a s.heap.size 2), .null, .null, .null, .int 0, .int 0]), .inl (ca 1, 64, .inl (fun _ => 0))] : List va_E) ++ cL_V ca (bAd a s.heap.size 2) (s.heap.size + 2))) (L1 := cL_P ca (bAd a s.heap.size 4) (s.heap.size + 4)) (x := .inr (1, [.null])) (b := 4) rfl k _ hk) d_D_init_28 (fun H locs hP hS => ?_)
  refine ur_putF (k := 0) (v := .ref (bAd a s.heap.size 4)) (g' := bL (([.inr (5, [.ref (bAd a s.heap.size 1), .ref (bAd a s.heap.size 2), .ref (bAd a s.heap.size 4), .null, .null, .int 0, .int 0]), .inl (ca 1, 64, .inl (fun _ => 0))] : List va_E) ++ cL_V ca (bAd a s.heap.size 2) (s.heap.size + 2) ++ cL_P ca (bAd a s.heap.size 4) (s.heap.size + 4))) S hK hP (bD ha) hS (Nat.le_of_ble_eq_true rfl) rfl rfl (fun w h => hU w (in_D w h)) ty_D tyk_D nm_D 2 (by decide) (hU _ t1_160) rfl hini rfl rfl rfl (Nat.le_of_ble_eq_true rfl) (bL_set (L := (([.inr (5, [.ref (bAd a s.heap.size 1), .ref (bAd a s.heap.size 2), .null, .null, .null, .int 0, .int 0]), .inl (ca 1, 64, .inl (fun _ => 0))] : List va_E) ++ cL_V ca (bAd a s.heap.size 2) (s.heap.size + 2) ++ cL_P ca (bAd a s.heap.size 4) (s.heap.size + 4))) (k := 0) (x := .inr (5, [.ref (bAd a s.heap.size 1), .ref (bAd a s.heap.size 2), .ref (bAd a s.heap.size 4), .null, .null, .int 0, .int 0])) (N := 6) (by simp [len_V, len_P, len_B]) (Nat.le_of_ble_eq_true rfl)) d_D_init_31 (fun H locs hP hS => ?_)
  refine lv_aload_n S.1 S.2.1 d_D_init_34 rfl (lv_at hl 0 rfl) ?_
  refine bNew (N := 6) (ci := 3) (fs := [.null, .int 0]) (g' := bL (([.inr (5, [.ref (bAd a s.heap.size 1), .ref (bAd a s.heap.size 2), .ref (bAd a s.heap.size 4), .null, .null, .int 0, .int 0]), .inl (ca 1, 64, .inl (fun _ => 0))] : List va_E) ++ cL_V ca (bAd a s.heap.size 2) (s.heap.size + 2) ++ cL_P ca (bAd a s.heap.size 4) (s.heap.size + 4) ++ ([.inr (3, [.null, .int 0])] : List va_E))) S hK hP hS rfl (fun w h => hU w (in_B w h)) ty_B tyk_B (hU _ t1_58) (hU _ t1_59) (hU _ t1_5) rfl df_B (Nat.le_of_ble_eq_true rfl) (Nat.le_of_ble_eq_true rfl) (bL_app (by simp [len_V, len_P, len_B])) d_D_init_35 (fun H hP hS => ?_)
  refine lv_dup S.1 S.2.1 d_D_init_38 rfl ?_
  refine bInit (b := 6) (rest := [.ref (bAd a s.heap.size 6), .ref a]) (g' := bL (([.inr (5, [.ref (bAd a s.heap.size 1), .ref (bAd a s.heap.size 2), .ref (bAd a s.heap.size 4), .null, .null, .int 0, .int 0]), .inl (ca 1, 64, .inl (fun _ => 0))] : List va_E) ++ cL_V ca (bAd a s.heap.size 2) (s.heap.size + 2) ++ cL_P ca (bAd a s.heap.size 4) (s.heap.size + 4) ++ cL_B ca (bAd a s.heap.size 6) (s.heap.size + 6))) S hK hN hX ha hP hS rfl (c_B_init (ca := ca)) rfl hU t1_62 t1_60 t1_5 t1_61 rfl (by decide +kernel) ⟨Nat.le_of_ble_eq_true rfl, Nat.le_of_ble_eq_true rfl⟩ hl.1 (Nat.le_of_ble_eq_true rfl) ⟨Nat.le_of_ble_eq_true rfl, Nat.le_of_ble_eq_true rfl⟩ (fun k hk => bL_cat (L := (([.inr (5, [.ref (bAd a s.heap.size 1), .ref (bAd a s.heap.size 2), .ref (bAd a s.heap.size 4), .null, .null, .int 0, .int 0]), .inl (ca 1, 64, .inl (fun _ => 0))] : List va_E) ++ cL_V ca (bAd a s.heap.size 2) (s.heap.size + 2) ++ cL_P ca (bAd a s.heap.size 4) (s.heap.size + 4))) (L1 := cL_B ca (bAd a s.heap.size 6) (s.heap.size + 6)) (x := .inr (3, [.null, .int 0])) (b := 6) rfl k _ hk) d_D_init_39 (fun H locs hP hS => ?_)
  refine ur_putF (k := 0) (v := .ref (bAd a s.heap.size 6)) (g' := bL (([.inr (5, [.ref (bAd a s.heap.size 1), .ref (bAd a s.heap.size 2), .ref (bAd a s.heap.size 4), .ref (bAd a s.heap.size 6), .null, .int 0, .int 0]), .inl (ca 1, 64, .inl (fun _ => 0))] : List va_E) ++ cL_V ca (bAd a s.heap.size 2) (s.heap.size + 2) ++ cL_P ca (bAd a s.heap.size 4) (s.heap.size + 4) ++ cL_B ca (bAd a s.heap.size 6) (s.heap.size + 6))) S hK hP (bD ha) hS (Nat.le_of_ble_eq_true rfl) rfl rfl (fun w h => hU w (in_D w h)) ty_D tyk_D nm_D 3 (by decide) (hU _ t1_161) rfl hini rfl rfl rfl (Nat.le_of_ble_eq_true rfl) (bL_set (L := (([.inr (5, [.ref (bAd a s.heap.size 1), .ref (bAd a s.heap.size 2), .ref (bAd a s.heap.size 4), .null, .null, .int 0, .int 0]), .inl (ca 1, 64, .inl (fun _ => 0))] : List va_E) ++ cL_V ca (bAd a s.heap.size 2) (s.heap.size + 2) ++ cL_P ca (bAd a s.heap.size 4) (s.heap.size + 4) ++ cL_B ca (bAd a s.heap.size 6) (s.heap.size + 6))) (k := 0) (x := .inr (5, [.ref (bAd a s.heap.size 1), .ref (bAd a s.heap.size 2), .ref (bAd a s.heap.size 4), .ref (bAd a s.heap.size 6), .null, .int 0, .int 0])) (N := 128) (by simp [len_V, len_P, len_B]) (Nat.le_of_ble_eq_true rfl)) d_D_init_42 (fun H locs hP hS => ?_)
  refine lv_aload_n S.1 S.2.1 d_D_init_45 rfl (lv_at hl 0 rfl) ?_
  refine lv_bipush (v := 6) S.1 S.2.1 d_D_init_46 (by decide) ?_
  refine bNewq (N := 128) (cA0 := ca 3) (N' := 6) (g' := bL (([.inr (5, [.ref (bAd a s.heap.size 1), .ref (bAd a s.heap.size 2), .ref (bAd a s.heap.size 4), .ref (bAd a s.heap.size 6), .null, .int 0, .int 0]), .inl (ca 1, 64, .inl (fun _ => 0))] : List va_E) ++ cL_V ca (bAd a s.heap.size 2) (s.heap.size + 2) ++ cL_P ca (bAd a s.heap.size 4) (s.heap.size + 4) ++ cL_B ca (bAd a s.heap.size 6) (s.heap.size + 6) ++ ([.inl (ca 3, 6, .inr (.inr (.inr (.inr (fun _ => none)))))] : List va_E))) 3 S hK hP hS rfl (hU _ t1_114) hX.2 rfl (by decide) (by decide) (by decide) (Nat.le_of_ble_eq_true rfl) (Nat.le_of_ble_eq_true rfl) (bL_app (by simp [len_V, len_P, len_B])) d_D_init_48 (fun H hP hS => ?_)
  refine ur_putF (k := 0) (v := .ref (bAd a s.heap.size 128)) (g' := bL (([.inr (5, [.ref (bAd a s.heap.size 1), .ref (bAd a s.heap.size 2), .ref (bAd a s.heap.size 4), .ref (bAd a s.heap.size 6), .ref (bAd a s.heap.size 128), .int 0, .int 0]), .inl (ca 1, 64, .inl (fun _ => 0))] : List va_E) ++ cL_V ca (bAd a s.heap.size 2) (s.heap.size + 2) ++ cL_P ca (bAd a s.heap.size 4) (s.heap.size + 4) ++ cL_B ca (bAd a s.heap.size 6) (s.heap.size + 6) ++ ([.inl (ca 3, 6, .inr (.inr (.inr (.inr (fun _ => none)))))] : List va_E))) S hK hP (bD ha) hS (Nat.le_of_ble_eq_true rfl) rfl rfl (fun w h => hU w (in_D w h)) ty_D tyk_D nm_D 4 (by decide) (hU _ t1_162) rfl hini rfl rfl rfl (Nat.le_of_ble_eq_true rfl) (bL_set (L := (([.inr (5, [.ref (bAd a s.heap.size 1), .ref (bAd a s.heap.size 2), .ref (bAd a s.heap.size 4), .ref (bAd a s.heap.size 6), .null, .int 0, .int 0]), .inl (ca 1, 64, .inl (fun _ => 0))] : List va_E) ++ cL_V ca (bAd a s.heap.size 2) (s.heap.size + 2) ++ cL_P ca (bAd a s.heap.size 4) (s.heap.size + 4) ++ cL_B ca (bAd a s.heap.size 6) (s.heap.size + 6) ++ ([.inl (ca 3, 6, .inr (.inr (.inr (.inr (fun _ => none)))))] : List va_E))) (k := 0) (x := .inr (5, [.ref (bAd a s.heap.size 1), .ref (bAd a s.heap.size 2), .ref (bAd a s.heap.size 4), .ref (bAd a s.heap.size 6), .ref (bAd a s.heap.size 128), .int 0, .int 0])) (N := 129) (by simp [len_V, len_P, len_B]) (Nat.le_of_ble_eq_true rfl)) d_D_init_51 (fun H locs hP hS => ?_)
  refine lv_aload_n S.1 S.2.1 d_D_init_54 rfl (lv_at hl 0 rfl) ?_
  refine lv_iconst (v := 0) S.1 S.2.1 d_D_init_55 (by decide) ?_
  refine ur_put (k := 0) (v := .int 0) (g' := bL (([.inr (5, [.ref (bAd a s.heap.size 1), .ref (bAd a s.heap.size 2), .ref (bAd a s.heap.size 4), .ref (bAd a s.heap.size 6), .ref (bAd a s.heap.size 128), .int 0, .int 0]), .inl (ca 1, 64, .inl (fun _ => 0))] : List va_E) ++ cL_V ca (bAd a s.heap.size 2) (s.heap.size + 2) ++ cL_P ca (bAd a s.heap.size 4) (s.heap.size + 4) ++ cL_B ca (bAd a s.heap.size 6) (s.heap.size + 6) ++ ([.inl (ca 3, 6, .inr (.inr (.inr (.inr (fun _ => none)))))] : List va_E))) S hK hP (bD ha) hS (Nat.le_of_ble_eq_true rfl) rfl rfl (fun w h => hU w (in_D w h)) ty_D tyk_D nm_D 5 (by decide) (hU _ t1_163) rfl rfl rfl (Nat.le_of_ble_eq_true rfl) (bL_set (L := (([.inr (5, [.ref (bAd a s.heap.size 1), .ref (bAd a s.heap.size 2), .ref (bAd a s.heap.size 4), .ref (bAd a s.heap.size 6), .ref (bAd a s.heap.size 128), .int 0, .int 0]), .inl (ca 1, 64, .inl (fun _ => 0))] : List va_E) ++ cL_V ca (bAd a s.heap.size 2) (s.heap.size + 2) ++ cL_P ca (bAd a s.heap.size 4) (s.heap.size + 4) ++ cL_B ca (bAd a s.heap.size 6) (s.heap.size + 6) ++ ([.inl (ca 3, 6, .inr (.inr (.inr (.inr (fun _ => none)))))] : List va_E))) (k := 0) (x := .inr (5, [.ref (bAd a s.heap.size 1), .ref (bAd a s.heap.size 2), .ref (bAd a s.heap.size 4), .ref (bAd a s.heap.size 6), .ref (bAd a s.heap.size 128), .int 0, .int 0])) (N := 129) (by simp [len_V, len_P, len_B]) (Nat.le_of_ble_eq_true rfl)) d_D_init_56 (fun H locs hP hS => ?_)
  refine lv_aload_n S.1 S.2.1 d_D_init_59 rfl (lv_at hl 0 rfl) ?_
  refine lv_iconst (v := 0) S.1 S.2.1 d_D_init_60 (by decide) ?_
  refine ur_put (k := 0) (v := .int 0) (g' := bL (([.inr (5, [.ref (bAd a s.heap.size 1), .ref (bAd a s.heap.size 2), .ref (bAd a s.heap.size 4), .ref (bAd a s.heap.size 6), .ref (bAd a s.heap.size 128), .int 0, .int 0]), .inl (ca 1, 64, .inl (fun _ => 0))] : List va_E) ++ cL_V ca (bAd a s.heap.size 2) (s.heap.size + 2) ++ cL_P ca (bAd a s.heap.size 4) (s.heap.size + 4) ++ cL_B ca (bAd a s.heap.size 6) (s.heap.size + 6) ++ ([.inl (ca 3, 6, .inr (.inr (.inr (.inr (fun _ => none)))))] : List va_E))) S hK hP (bD ha) hS (Nat.le_of_ble_eq_true rfl) rfl rfl (fun w h => hU w (in_D w h)) ty_D tyk_D nm_D 6 (by decide) (hU _ t1_164) rfl rfl rfl (Nat.le_of_ble_eq_true rfl) (bL_set (L := (([.inr (5, [.ref (bAd a s.heap.size 1), .ref (bAd a s.heap.size 2), .ref (bAd a s.heap.size 4), .ref (bAd a s.heap.size 6), .ref (bAd a s.heap.size 128), .int 0, .int 0]), .inl (ca 1, 64, .inl (fun _ => 0))] : List va_E) ++ cL_V ca (bAd a s.heap.size 2) (s.heap.size + 2) ++ cL_P ca (bAd a s.heap.size 4) (s.heap.size + 4) ++ cL_B ca (bAd a s.heap.size 6) (s.heap.size + 6) ++ ([.inl (ca 3, 6, .inr (.inr (.inr (.inr (fun _ => none)))))] : List va_E))) (k := 0) (x := .inr (5, [.ref (bAd a s.heap.size 1), .ref (bAd a s.heap.size 2), .ref (bAd a s.heap.size 4), .ref (bAd a s.heap.size 6), .ref (bAd a s.heap.size 128), .int 0, .int 0])) (N := 129) (by simp [len_V, len_P, len_B]) (Nat.le_of_ble_eq_true rfl)) d_D_init_61 (fun H locs hP hS => ?_)
  refine lv_iconst (v := 0) S.1 S.2.1 d_D_init_64 (by decide) ?_
  refine lv_istore_n (lv' := [(1, .int 0), (0, .ref a)]) S.1 S.2.1 d_D_init_65 rfl hl (by decide) rfl (fun ls hl => ?_)
  have LP : ∀ i, i ≤ 6 → ∀ (H : Heap) (locs : List Loc) (ls : Array Slot), va_P D clsAll (uw (129 + 6 * i) (bAd a s.heap.size) (bL (dkL ca a s.heap.size i))) H → va_S (bA a s.heap.size) s.heap H locs → lv_has ls 2 [(1, .int (nI i)), (0, .ref a)] → W p l e { frames := 4, cells := 164, slots := 6103, locals := 84 } s m [Value.ref a].toArray below meth c H locs (128 + 6 * i) (4123 + 330 * i) (MQ below (va_Qv (fun _ : Unit => True) (fun _ t => va_P D clsAll (uw (164 + 1) (bAd a s.heap.size) (bL (cL_D ca a s.heap.size))) t.heap) (bA a s.heap.size)) [Value.ref a].toArray s 164 6103 (bA a s.heap.size)) (F0 m 66 ls []) := by
    refine upTo 6 ?_ ?_
    · intro H locs ls hP hS hl
      refine lv_iload_n S.1 S.2.1 d_D_init_66 rfl (lv_at hl 0 rfl) ?_
      refine lv_bipush (v := 6) S.1 S.2.1 d_D_init_67 (by decide) ?_
      refine lv_icmp_ge (tgt := 91) S.1 S.2.1 d_D_init_69 (by decide) (fun c_h => ?_) (fun c_h => ?_)
      · exact W.vret S.1 S.2.1 hr (fun t ht _ => ⟨⟨(), rfl, trivial, by rw [← ht] at hP; exact hP⟩, hS.F ht⟩) hS.2.2 d_D_init_91 hlk
      · exact absurd (nI_le (Nat.le_refl 6) (by decide)) c_h
    · intro i hi ih H locs ls hP hS hl
      refine lv_iload_n S.1 S.2.1 d_D_init_66 rfl (lv_at hl 0 rfl) ?_
      refine lv_bipush (v := 6) S.1 S.2.1 d_D_init_67 (by decide) ?_
      refine lv_icmp_ge (tgt := 91) S.1 S.2.1 d_D_init_69 (by decide) (fun c_h => absurd c_h (nI_ge (b := 6) hi (by decide))) (fun c_h => ?_)
      refine lv_aload_n S.1 S.2.1 d_D_init_72 rfl (lv_at hl 1 rfl) ?_
      refine ur_get (k := 0) (v := .ref (bAd a s.heap.size 128)) S hK hP (by omega) rfl rfl (fun w h => hU w (in_D w h)) 4 (by decide) (hU _ t1_162) rfl d_D_init_73 ?_
      refine lv_iload_n S.1 S.2.1 d_D_init_76 rfl (lv_at hl 0 rfl) ?_
      refine bNew (N := 129 + 6 * i) (ci := 4) (fs := [.null, .null, .null, .null, .null, .int 0, .int 0, .int 0, .int 0, .int 0]) (g' := bL ((dkL ca a s.heap.size i) ++ [.inr (4, [.null, .null, .null, .null, .null, .int 0, .int 0, .int 0, .int 0, .int 0])])) S hK hP hS (by omega) (fun w h => hU w (in_Y w h)) ty_Y tyk_Y (hU _ t1_114) (hU _ t1_116) (hU _ t1_7) rfl df_Y (by show 128 + 6 * i + 1 ≤ 164; omega) (by show 4123 + 330 * i + 10 ≤ 6103; omega) (bL_app (len_dkL i)) d_D_init_77 (fun H hP hS => ?_)
      refine lv_dup S.1 S.2.1 d_D_init_80 rfl ?_
      refine bInit (b := 129 + 6 * i) (rest := [.ref (bAd a s.heap.size (129 + 6 * i)), .int (nI i), .ref (bAd a s.heap.size 128)]) (g' := bL ((dkL ca a s.heap.size i) ++ cL_Y ca (bAd a s.heap.size (129 + 6 * i)) (s.heap.size + (129 + 6 * i)))) S hK hN hX ha hP hS (by omega) (c_Y_init (ca := ca)) (bL_at (len_dkL i)) hU t1_119 t1_117 t1_7 t1_118 rfl (by decide +kernel) ⟨Nat.le_of_ble_eq_true rfl, Nat.le_of_ble_eq_true rfl⟩ hl.1 (Nat.le_of_ble_eq_true rfl) ⟨by show 128 + 6 * i + 1 + 5 ≤ 164; omega, by show 4123 + 330 * i + 10 + 320 ≤ 6103; omega⟩ (fun k hk => bL_cat (L := (dkL ca a s.heap.size i)) (L1 := cL_Y ca (bAd a s.heap.size (129 + 6 * i)) (s.heap.size + (129 + 6 * i))) (x := .inr (4, [.null, .null, .null, .null, .null, .int 0, .int 0, .int 0, .int 0, .int 0])) (b := 129 + 6 * i) (len_dkL i) k _ hk) d_D_init_81 (fun H locs hP hS => ?_)
      refine ur_aast (k := 128) (g' := bL (dkL ca a s.heap.size (i + 1))) (j := i) (kv := 129 + 6 * i) S hK hP (bD ha) hS (by omega) 3 (r := clsAll[4]) (f := fun j => if j < i then some (bAd a s.heap.size (129 + 6 * j)) else none) (by rw [dkL, List.append_assoc, List.cons_append]; exact bL_at len_dkB) rfl rfl hi (by decide) (by omega) (bL_at (len_dkL i)) rfl (fun k' hk' => ?_) d_D_init_84 (fun H locs hP hS => ?_)
      · rw [bL_set (N := 129 + 6 * i + 5 + 1) (by rw [List.length_append, len_dkL, len_Y]) (by omega) k' hk', rf_up (ad := fun j => bAd a s.heap.size (129 + 6 * j)), dkL, List.append_assoc, List.cons_append, set_mid len_dkB]
        rfl
      refine lv_iinc (v := nI (i + 1)) (lv' := [(1, .int (nI (i + 1))), (0, .ref a)]) S.1 S.2.1 d_D_init_85 hl (k := 0) rfl (nI_1 i) (by decide) rfl (fun ls hl => ?_)
      refine lv_goto (tgt := 66) S.1 S.2.1 d_D_init_88 (by decide) ?_
      exact bCs (by omega) (by omega) (ih H locs ls (by rw [show 129 + 6 * (i + 1) = 129 + 6 * i + 5 + 1 by omega]; exact hP) hS hl)
  exact LP 0 (by omega) _ _ ls (by rw [show dkL ca a s.heap.size 0 = _ from by rw [dkL, dkB, dkA, rfA_0, dkY]]; exact hP) hS hl


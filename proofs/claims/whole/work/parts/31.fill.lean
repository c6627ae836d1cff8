/-! Arrays.fill(int[], int), on an array by itself -/
def aG (c : ClassId) (n : Nat) (f : Nat → Int32) (_ : Nat) : va_E := .inl (c, n, .inl f)
set_option maxRecDepth 100000 in
set_option maxHeartbeats 4000000 in
theorem c_JA_fill {l : Launch} {D : va_G} {ca : Nat → ClassId} (a n : Nat) (hn : n < 2 ^ 31) (f : Nat → Int32) (x : Int32) : uMv l y_JA_fill b_JA_fill 4 none 0 0 D clsAll (tysAll ca) 1 (fun _ => a) (aG (ca 0) n) f [.ref a, .int x] (fun u => u = fun i => if i < n then x else f i) := by
  refine uStart (by decide) (Nat.le_of_ble_eq_true rfl) ?_
  intro p e s m below meth c ls S hr hlk hK hN hP hl
  have hJ : uJ 1 (fun _ => a) := fun i j h1 h2 _ => by omega
  have hS : va_S (uA 1 (fun _ => a) s.heap.size) s.heap s.heap [] := va_S.rf
  have hl : lv_has ls 4 [(0, .ref a), (1, .int x)] := hl
  refine lv_iconst (v := 0) S.1 S.2.1 d_JA_fill_0 (by decide) ?_
  refine lv_istore_n (lv' := [(2, .int 0), (0, .ref a), (1, .int x)]) S.1 S.2.1 d_JA_fill_1 rfl hl (by decide) rfl (fun ls hl => ?_)
  refine lv_aload_n S.1 S.2.1 d_JA_fill_2 rfl (lv_at hl 1 rfl) ?_
  refine va_alen (v := nI n) S.1 S.2.1 hK hP 0 0 (uw_get (by decide)) rfl rfl d_JA_fill_3 ?_
  refine lv_istore_n (lv' := [(3, .int (nI n)), (2, .int 0), (0, .ref a), (1, .int x)]) S.1 S.2.1 d_JA_fill_4 rfl hl (by decide) rfl (fun ls hl => ?_)
  have L : ∀ i, i ≤ n → ∀ (H : Heap) (locs : List Loc) (ls : Array Slot), va_P D clsAll (uw 1 (fun _ => a) (aG (ca 0) n (fun q => if q < i then x else f q))) H → va_S (uA 1 (fun _ => a) s.heap.size) s.heap H locs → lv_has ls 4 [(3, .int (nI n)), (2, .int (nI i)), (0, .ref a), (1, .int x)] → uGv 0 0 D clsAll 1 (fun _ => a) (aG (ca 0) n) (fun u => u = fun i => if i < n then x else f i) [.ref a, .int x] p l e s m below meth c H locs 5 ls [] := by
    refine upTo n ?_ ?_
    · intro H locs ls hP hS hl
      refine lv_iload_n S.1 S.2.1 d_JA_fill_5 rfl (lv_at hl 1 rfl) ?_
      refine lv_iload_n S.1 S.2.1 d_JA_fill_6 rfl (lv_at hl 0 rfl) ?_
      refine lv_icmp_ge (tgt := 20) S.1 S.2.1 d_JA_fill_7 (by decide) (fun c_1 => ?_) (fun c_1 => absurd (nI_le (Nat.le_refl n) hn) c_1)
      exact uVret S hr hlk _ hP hS rfl d_JA_fill_20
    · intro i hi ih H locs ls hP hS hl
      refine lv_iload_n S.1 S.2.1 d_JA_fill_5 rfl (lv_at hl 1 rfl) ?_
      refine lv_iload_n S.1 S.2.1 d_JA_fill_6 rfl (lv_at hl 0 rfl) ?_
      refine lv_icmp_ge (tgt := 20) S.1 S.2.1 d_JA_fill_7 (by decide) (fun c_1 => absurd c_1 (nI_ge hi hn)) (fun c_1 => ?_)
      refine lv_aload_n S.1 S.2.1 d_JA_fill_10 rfl (lv_at hl 2 rfl) ?_
      refine lv_iload_n S.1 S.2.1 d_JA_fill_11 rfl (lv_at hl 1 rfl) ?_
      refine lv_iload_n S.1 S.2.1 d_JA_fill_12 rfl (lv_at hl 3 rfl) ?_
      refine ur_iast (k := 0) (j := i) (g' := aG (ca 0) n (fun q => if q < i + 1 then x else f q)) S hK hP (uD _ hJ) hS (by decide) 0 rfl rfl rfl hi hn ?_ d_JA_fill_13 (fun H locs hP hS => ?_)
      · intro k' hk'
        have h0 : k' = 0 := by omega
        subst h0
        rw [va_up_self]
        show (.inl (ca 0, n, .inl _) : va_E) = .inl (ca 0, n, .inl _)
        congr 3
        apply congrArg Sum.inl
        funext q
        by_cases h1 : q = i
        · subst h1; simp [upd]
        · by_cases h2 : q < i
          · simp [upd, h1, h2, Nat.lt_succ_of_lt h2]
          · have h3 : ¬ q < i + 1 := by omega
            simp [upd, h1, h2, h3]
      refine lv_iinc (v := nI (i + 1)) (lv' := [(2, .int (nI (i + 1))), (3, .int (nI n)), (0, .ref a), (1, .int x)]) S.1 S.2.1 d_JA_fill_14 hl (k := 1) rfl (nI_1 i) (by decide) rfl (fun ls hl => ?_)
      refine lv_goto (tgt := 5) S.1 S.2.1 d_JA_fill_17 (by decide) ?_
      exact ih H locs ls hP hS (lv_sub hl [1, 0, 2, 3] rfl)
  refine L 0 (Nat.zero_le _) _ _ ls ?_ hS (lv_sub hl [0, 1, 2, 3] rfl)
  exact hP

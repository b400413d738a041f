/-! own words: contents of rows -/
/-- how many places begin with another part than the one before -/
def tt_df (f : Nat → Int32) : Nat → Nat
  | 0 => 0
  | i + 1 => tt_df f i + if i = 0 ∨ ¬ f (3 * i) = f (3 * (i - 1)) then 1 else 0
theorem tt_df_le (f : Nat → Int32) : ∀ i, tt_df f i ≤ i
  | 0 => Nat.le_refl _
  | i + 1 => by
    have := tt_df_le f i
    show tt_df f i + _ ≤ _
    split <;> omega
theorem tt_df_1 {f : Nat → Int32} {i : Nat} (h : i = 0 ∨ ¬ f (3 * i) = f (3 * (i - 1))) : tt_df f (i + 1) = tt_df f i + 1 := by
  show tt_df f i + _ = _
  rw [if_pos h]
theorem tt_df_0 {f : Nat → Int32} {i : Nat} (h0 : ¬ i = 0) (h : f (3 * i) = f (3 * (i - 1))) : tt_df f (i + 1) = tt_df f i := by
  show tt_df f i + _ = _
  rw [if_neg (by rintro (h1 | h1) <;> contradiction)]
  rfl
theorem tt_ins_g (f : Nat → Int32) (r n : Nat) (hr : r ≤ n) (t : Nat → Int32) : ∀ i, upd (upd (upd (va_cpy f f (3 * r) (3 * r + 3) (3 * (n - r))) (3 * r + 0) (t 0)) (3 * r + 1) (t 1)) (3 * r + 2) (t 2) i = if i < 3 * r then f i else if i < 3 * r + 3 then t (i - 3 * r) else if i < 3 * n + 3 then f (i - 3) else f i := by
  intro i
  simp only [upd, va_cpy]
  by_cases h2 : i = 3 * r + 2
  · rw [if_pos h2, if_neg (by omega), if_pos (by omega)]
    congr 1
    omega
  · rw [if_neg h2]
    by_cases h1 : i = 3 * r + 1
    · rw [if_pos h1, if_neg (by omega), if_pos (by omega)]
      congr 1
      omega
    · rw [if_neg h1]
      by_cases h0 : i = 3 * r + 0
      · rw [if_pos h0, if_neg (by omega), if_pos (by omega)]
        congr 1
        omega
      · rw [if_neg h0]
        by_cases h3 : 3 * r + 3 ≤ i ∧ i < 3 * r + 3 + 3 * (n - r)
        · rw [if_pos h3, if_neg (by omega), if_neg (by omega), if_pos (by omega)]
          congr 1
          omega
        · rw [if_neg h3]
          by_cases h4 : i < 3 * r
          · rw [if_pos h4]
          · rw [if_neg h4, if_neg (by omega), if_neg (by omega)]
theorem tt_cut_g (f : Nat → Int32) (j n : Nat) (hj : j < n) : ∀ i, va_cpy f f (3 * j + 3) (3 * j) (3 * (n - j - 1)) i = if 3 * j ≤ i ∧ i < 3 * (n - 1) then f (i + 3) else f i := by
  intro i
  simp only [va_cpy]
  by_cases h : 3 * j ≤ i ∧ i < 3 * (n - 1)
  · rw [if_pos h, if_pos (by omega)]
    congr 1
    omega
  · rw [if_neg h, if_neg (by omega)]
theorem tt_max {a b : Nat} (ha : a < 2 ^ 31) (hb : b < 2 ^ 31) : (if nI a < nI b then nI b else nI a) = nI (max a b) := by
  by_cases h : a < b
  · rw [if_pos ((nI_ltI ha hb).mpr h), Nat.max_eq_right (by omega)]
  · rw [if_neg (fun h1 => h ((nI_ltI ha hb).mp h1)), Nat.max_eq_left (by omega)]
theorem tt_min {a b : Nat} (ha : a < 2 ^ 31) (hb : b < 2 ^ 31) : (if nI b < nI a then nI b else nI a) = nI (min a b) := by
  by_cases h : b < a
  · rw [if_pos ((nI_ltI hb ha).mpr h), Nat.min_eq_right (by omega)]
  · rw [if_neg (fun h1 => h ((nI_ltI hb ha).mp h1)), Nat.min_eq_left (by omega)]
theorem tt_nbi (c : Prop) [Decidable c] : narrow .boolean (.int (if c then 1 else 0)) = .int (if c then 1 else 0) := by
  split <;> rfl
theorem tt_clear_g {a i : Nat} {g wm : Nat → Int32} (hg : ∀ j, g j = if a ≤ j ∧ j < i then 0 else wm j) (hi : a ≤ i) : ∀ j, upd g i 0 j = if a ≤ j ∧ j < i + 1 then 0 else wm j := by
  intro j
  simp only [upd]
  by_cases h : j = i
  · rw [if_pos h, if_pos (by omega)]
  · rw [if_neg h, hg j]
    by_cases h1 : a ≤ j ∧ j < i
    · rw [if_pos h1, if_pos (by omega)]
    · rw [if_neg h1, if_neg (by omega)]
/-- r is the first place of x among the first n, or n -/
def tt_ff (f : Nat → Int32) (n : Nat) (x : Int32) (r : Nat) : Prop := r ≤ n ∧ (∀ j, j < r → ¬ f j = x) ∧ (r < n → f r = x)
theorem tt_ff_eq {f : Nat → Int32} {n r i : Nat} {x : Int32} (h : tt_ff f n x r) (hi : i ≤ r) (hn : i < n) (hx : f i = x) : i = r := by
  rcases Nat.lt_or_ge i r with h1 | h1
  · exact absurd hx (h.2.1 i h1)
  · omega
theorem tt_ff_lt {f : Nat → Int32} {n r i : Nat} {x : Int32} (h : tt_ff f n x r) (hi : i ≤ r) (hn : i < n) (hx : ¬ f i = x) : i + 1 ≤ r := by
  rcases Nat.lt_or_ge i r with h1 | h1
  · omega
  · have : i = r := by omega
    subst this
    exact absurd (h.2.2 hn) hx
set_option maxHeartbeats 4000000 in
set_option maxRecDepth 100000 in
theorem c_X1_differentFirsts (l : Launch) (D : va_G) (cI cZ cO cC : ClassId) (h q k n : Nat) (f : Nat → Int32) (hn : n ≤ 700) : tt_Pure l yX1_differentFirsts wsX1_differentFirsts ({ frames := 0, cells := 0, slots := 0, locals := 0 } : Room) D (tt_tys cI cZ cO cC) false [(h, .inr (1, [.int (nI k), .ref q, .int (nI n)])), (q, .inl (cI, 2100, .inl f))] [.ref h] (nI (tt_df f n)) := by
  refine tt_pure (cc := cX1_differentFirsts) (maxL := 3) (rt := .int) (by decide) rfl (rfl) (Nat.le_of_ble_eq_true rfl) ?_
  intro p e s m below meth c Q ls hfix hK hP hE hl kr
  obtain ⟨hx, hb, hml, hown, hts⟩ := id hfix
  have hown : s.vm.findClass RX1 = some m.cls := hown
  have hfix : CallFix p m c cX1_differentFirsts 3 s ([.ref h] : List Value).toArray wsX1_differentFirsts RX1 := hfix
  have hl : lv_has ls 3 [(0, .ref h)] := hl
  have hf19 := hts (.fieldLink RX1 19 "TripleTrees$Order" "count" "I") (by decide +kernel)
  have hf9 := hts (.fieldLink RX1 9 "TripleTrees$Order" "parts" "[I") (by decide +kernel)
  have hinX1 : ∀ w ∈ u_ws RX1 TX1 3, w ∈ wsX1_differentFirsts := by decide +kernel
  have hS : va_S (fun _ => False) s.heap s.heap [] := va_S.rf
  have loop : ∀ (d i : Nat), (d + i = n) → ∀ (H : Heap) (locs : List Loc) (ls : Array Slot), va_P D vwCl [(h, .inr (1, [.int (nI k), .ref q, .int (nI n)])), (q, .inl (cI, 2100, .inl f))] H → va_S (fun _ => False) s.heap H locs → lv_has ls 3 [(2, .int (nI i)), (1, .int (nI (tt_df f i))), (0, .ref h)] → W p l e ({ frames := 0, cells := 0, slots := 0, locals := 0 } : Room) s m ([.ref h] : List Value).toArray below meth c H locs 0 0 Q (F0 m 4 ls []) := by
    intro d
    induction d with
    | zero =>
      intro i hd H locs ls hP hS hl
      have hdf := tt_df_le f i
      refine lv_iload_n hx hb dX1_differentFirsts_4 rfl (lv_at hl 0 rfl) ?_
      refine lv_aload_n hx hb dX1_differentFirsts_5 rfl (lv_at hl 2 rfl) ?_
      refine va_get (D := D) (ci := 1) (v := .int (nI n)) (C := RX1) (T := TX1) (N := 3) hx hb hts hinX1 hown hK hP 0 rfl rfl 2 (by decide) hf19 (fun _ h9 => h9) rfl dX1_differentFirsts_6 ?_
      refine lv_icmp_ge (tgt := 46) hx hb dX1_differentFirsts_9 (by decide) (fun hb9 => ?_) (fun hb9 => ?_)
      · have hb9 : n ≤ i := (nI_leI (a := n) (b := i) (by omega) (by omega)).mp hb9
        refine lv_iload_n hx hb dX1_differentFirsts_46 rfl (lv_at hl 1 rfl) ?_
        have hi : i = n := by omega
        subst hi
        exact kr _ _ _ _ hS dX1_differentFirsts_47
      · have hb9 : ¬ n ≤ i := fun hz9 => hb9 ((nI_leI (a := n) (b := i) (by omega) (by omega)).mpr hz9)
        exact absurd hb9 (by omega)
    | succ d ih =>
      intro i hd H locs ls hP hS hl
      have hdf := tt_df_le f i
      refine lv_iload_n hx hb dX1_differentFirsts_4 rfl (lv_at hl 0 rfl) ?_
      refine lv_aload_n hx hb dX1_differentFirsts_5 rfl (lv_at hl 2 rfl) ?_
      refine va_get (D := D) (ci := 1) (v := .int (nI n)) (C := RX1) (T := TX1) (N := 3) hx hb hts hinX1 hown hK hP 0 rfl rfl 2 (by decide) hf19 (fun _ h9 => h9) rfl dX1_differentFirsts_6 ?_
      refine lv_icmp_ge (tgt := 46) hx hb dX1_differentFirsts_9 (by decide) (fun hb9 => ?_) (fun hb9 => ?_)
      · have hb9 : n ≤ i := (nI_leI (a := n) (b := i) (by omega) (by omega)).mp hb9
        exact absurd hb9 (by omega)
      · have hb9 : ¬ n ≤ i := fun hz9 => hb9 ((nI_leI (a := n) (b := i) (by omega) (by omega)).mpr hz9)
        refine lv_iload_n hx hb dX1_differentFirsts_12 rfl (lv_at hl 0 rfl) ?_
        refine lv_if_eq (tgt := 37) hx hb dX1_differentFirsts_13 (by decide) (fun hb13 => ?_) (fun hb13 => ?_)
        · have hb13 : i = 0 := (nI_eq (a := i) (b := 0) (by omega) (by omega)).mp hb13
          refine lv_iinc (v := nI (tt_df f i + 1)) (lv' := [(1, .int (nI (tt_df f i + 1))), (2, .int (nI i)), (0, .ref h)]) hx hb dX1_differentFirsts_37 hl (k := 1) rfl (nI_add (tt_df f i) 1) (by decide) rfl (fun ls hl => ?_)
          refine lv_iinc (v := nI (i + 1)) (lv' := [(2, .int (nI (i + 1))), (1, .int (nI (tt_df f i + 1))), (0, .ref h)]) hx hb dX1_differentFirsts_40 hl (k := 1) rfl (nI_add i 1) (by decide) rfl (fun ls hl => ?_)
          refine lv_goto (tgt := 4) hx hb dX1_differentFirsts_43 (by decide) ?_
          have he := tt_df_1 (f := f) (Or.inl hb13)
          rw [← he] at hl
          exact ih (i + 1) (by omega) H locs ls hP hS (lv_sub hl [0, 1, 2] rfl)
        · have hb13 : ¬ i = 0 := fun hz9 => hb13 ((nI_eq (a := i) (b := 0) (by omega) (by omega)).mpr hz9)
          refine lv_aload_n hx hb dX1_differentFirsts_16 rfl (lv_at hl 2 rfl) ?_
          refine va_get (D := D) (ci := 1) (v := .ref q) (C := RX1) (T := TX1) (N := 3) hx hb hts hinX1 hown hK hP 0 rfl rfl 1 (by decide) hf9 (fun _ h9 => h9) rfl dX1_differentFirsts_17 ?_
          refine lv_iconst (v := 3) hx hb dX1_differentFirsts_20 (by decide) ?_
          refine lv_iload_n hx hb dX1_differentFirsts_21 rfl (lv_at hl 0 rfl) ?_
          refine lv_imul hx hb dX1_differentFirsts_22 ?_
          refine tt_rei (show (3 * (nI i)) = nI (3 * i) from pk_mul 3 i) ?_
          refine va_iald hx hb hK hP 1 0 rfl rfl (vp_in_nI (n := 3 * i) (by omega) (by omega)) dX1_differentFirsts_23 ?_
          refine tt_rei (show (f (nI (3 * i)).toNatClampNeg) = f (3 * i) from congrArg f (nI_clamp (n := 3 * i) (by omega))) ?_
          refine lv_aload_n hx hb dX1_differentFirsts_24 rfl (lv_at hl 2 rfl) ?_
          refine va_get (D := D) (ci := 1) (v := .ref q) (C := RX1) (T := TX1) (N := 3) hx hb hts hinX1 hown hK hP 0 rfl rfl 1 (by decide) hf9 (fun _ h9 => h9) rfl dX1_differentFirsts_25 ?_
          refine lv_iconst (v := 3) hx hb dX1_differentFirsts_28 (by decide) ?_
          refine lv_iload_n hx hb dX1_differentFirsts_29 rfl (lv_at hl 0 rfl) ?_
          refine lv_iconst (v := 1) hx hb dX1_differentFirsts_30 (by decide) ?_
          refine lv_isub hx hb dX1_differentFirsts_31 ?_
          refine tt_rei (show ((nI i) - 1) = nI (i - 1) from pk_sub (a := i) (b := 1) (by omega)) ?_
          refine lv_imul hx hb dX1_differentFirsts_32 ?_
          refine tt_rei (show (3 * (nI (i - 1))) = nI (3 * (i - 1)) from pk_mul 3 (i - 1)) ?_
          refine va_iald hx hb hK hP 1 0 rfl rfl (vp_in_nI (n := 3 * (i - 1)) (by omega) (by omega)) dX1_differentFirsts_33 ?_
          refine tt_rei (show (f (nI (3 * (i - 1))).toNatClampNeg) = f (3 * (i - 1)) from congrArg f (nI_clamp (n := 3 * (i - 1)) (by omega))) ?_
          refine lv_icmp_eq (tgt := 40) hx hb dX1_differentFirsts_34 (by decide) (fun hb34 => ?_) (fun hb34 => ?_)
          · refine lv_iinc (v := nI (i + 1)) (lv' := [(2, .int (nI (i + 1))), (1, .int (nI (tt_df f i))), (0, .ref h)]) hx hb dX1_differentFirsts_40 hl (k := 0) rfl (nI_add i 1) (by decide) rfl (fun ls hl => ?_)
            refine lv_goto (tgt := 4) hx hb dX1_differentFirsts_43 (by decide) ?_
            have he := tt_df_0 hb13 hb34
            rw [← he] at hl
            exact ih (i + 1) (by omega) H locs ls hP hS (lv_sub hl [0, 1, 2] rfl)
          · refine lv_iinc (v := nI (tt_df f i + 1)) (lv' := [(1, .int (nI (tt_df f i + 1))), (2, .int (nI i)), (0, .ref h)]) hx hb dX1_differentFirsts_37 hl (k := 1) rfl (nI_add (tt_df f i) 1) (by decide) rfl (fun ls hl => ?_)
            refine lv_iinc (v := nI (i + 1)) (lv' := [(2, .int (nI (i + 1))), (1, .int (nI (tt_df f i + 1))), (0, .ref h)]) hx hb dX1_differentFirsts_40 hl (k := 1) rfl (nI_add i 1) (by decide) rfl (fun ls hl => ?_)
            refine lv_goto (tgt := 4) hx hb dX1_differentFirsts_43 (by decide) ?_
            have he := tt_df_1 (f := f) (Or.inr hb34)
            rw [← he] at hl
            exact ih (i + 1) (by omega) H locs ls hP hS (lv_sub hl [0, 1, 2] rfl)
  refine lv_iconst (v := 0) hx hb dX1_differentFirsts_0 (by decide) ?_
  refine lv_istore_n (lv' := [(1, .int 0), (0, .ref h)]) hx hb dX1_differentFirsts_1 rfl hl (by decide) rfl (fun ls hl => ?_)
  refine lv_iconst (v := 0) hx hb dX1_differentFirsts_2 (by decide) ?_
  refine lv_istore_n (lv' := [(2, .int 0), (1, .int 0), (0, .ref h)]) hx hb dX1_differentFirsts_3 rfl hl (by decide) rfl (fun ls hl => ?_)
  exact loop n 0 (by omega) _ _ ls hP hS (lv_sub hl [0, 1, 2] rfl)
set_option maxHeartbeats 4000000 in
set_option maxRecDepth 100000 in
theorem c_X1_insert (l : Launch) (D : va_G) (cI cZ cO cC : ClassId) (h q k n : Nat) (f : Nat → Int32) (s1 p1 o1 : Int32) (r : Nat) (hk : k < 3) (hn : n < 700) (hr : tt_bd n (fun j => ¬ 0 ≤ tt_cmp 3 (f (3 * j)) (f (3 * j + 1)) (f (3 * j + 2)) (tt_pt ((k + 0) % 3) s1 p1 o1) (tt_pt ((k + 1) % 3) s1 p1 o1) (tt_pt ((k + 2) % 3) s1 p1 o1)) r) : tt_Mutv (S := (Nat → Int32)) l yX1_insert wsX1_insert ({ frames := 3, cells := 0, slots := 0, locals := 80 } : Room) D (tt_tys cI cZ cO cC) false [(h, .inr (1, [.int (nI k), .ref q, .int (nI n)])), (q, .inl (cI, 2100, .inl f))] [.ref h, .int s1, .int p1, .int o1] (fun g => ∀ i, g i = if i < 3 * r then f i else if i < 3 * r + 3 then tt_pt ((k + (i - 3 * r)) % 3) s1 p1 o1 else if i < 3 * n + 3 then f (i - 3) else f i) (fun g => [(h, .inr (1, [.int (nI k), .ref q, .int (nI (n + 1))])), (q, .inl (cI, 2100, .inl g))]) := by
  refine tt_mutv (cc := cX1_insert) (maxL := 7) (by decide) rfl (Nat.le_of_ble_eq_true rfl) ?_
  intro p e s m below meth c Q ls A hfix hK hP hD hA hE hl kr
  obtain ⟨hx, hb, hml, hown, hts⟩ := id hfix
  have hown : s.vm.findClass RX1 = some m.cls := hown
  have hfix : CallFix p m c cX1_insert 7 s ([.ref h, .int s1, .int p1, .int o1] : List Value).toArray wsX1_insert RX1 := hfix
  have hl : lv_has ls 7 [(0, .ref h), (1, .int s1), (2, .int p1), (3, .int o1)] := hl
  have hf19 := hts (.fieldLink RX1 19 "TripleTrees$Order" "count" "I") (by decide +kernel)
  have hf9 := hts (.fieldLink RX1 9 "TripleTrees$Order" "parts" "[I") (by decide +kernel)
  have hinX1 : ∀ w ∈ u_ws RX1 TX1 3, w ∈ wsX1_insert := by decide +kernel
  have hS : va_S A s.heap s.heap [] := va_S.rf
  have hr1 := hr.1
  refine lv_aload_n hx hb dX1_insert_0 rfl (lv_at hl 0 rfl) ?_
  refine va_get (D := D) (ci := 1) (v := .int (nI n)) (C := RX1) (T := TX1) (N := 3) hx hb hts hinX1 hown hK hP 0 rfl rfl 2 (by decide) hf19 (fun _ h9 => h9) rfl dX1_insert_1 ?_
  refine lv_sipush (v := 700) hx hb dX1_insert_4 (by decide) ?_
  refine lv_icmp_lt (tgt := 11) hx hb dX1_insert_7 (by decide) (fun hb7 => ?_) (fun hb7 => ?_)
  · have hb7 : n < 700 := (nI_ltI (a := n) (b := 700) (by omega) (by omega)).mp hb7
    refine lv_aload_n hx hb dX1_insert_11 rfl (lv_at hl 0 rfl) ?_
    refine lv_iconst (v := 3) hx hb dX1_insert_12 (by decide) ?_
    refine lv_iload_n hx hb dX1_insert_13 rfl (lv_at hl 1 rfl) ?_
    refine lv_iload_n hx hb dX1_insert_14 rfl (lv_at hl 2 rfl) ?_
    refine lv_iload_n hx hb dX1_insert_15 rfl (lv_at hl 3 rfl) ?_
    refine lv_iconst (v := 0) hx hb dX1_insert_16 (by decide) ?_
    have hPc := hP.sub (ws' := [(h, .inr (1, [.int (nI k), .ref q, .int (nI n)])), (q, .inl (cI, 2100, .inl f))]) [0, 1] rfl
    refine tt_calli (va_runV (As := [.int 3, .int s1, .int p1, .int o1, .int 0]) (rest := []) hfix (c_X1_placeOf l D cI cZ cO cC h q k n f 3 s1 p1 o1 0 r hk (by omega) hr) (cwV 5 hts gX1_insert_X1_placeOf rfl rfl rfl (by decide +kernel) ⟨Nat.le_of_ble_eq_true rfl, Nat.le_of_ble_eq_true rfl⟩) (tt_preV (q0 := 0) (ci := 1) hK hPc tt_E.no rfl rfl) rfl rfl hl.1 rfl (lv_room (Nat.le_of_ble_eq_true rfl)) dX1_insert_17 ⟨Nat.zero_le _, Nat.zero_le _⟩) hP hS (fun H locs hP hS => ?_)
    refine lv_istore (lv' := [(4, .int (nI r)), (0, .ref h), (1, .int s1), (2, .int p1), (3, .int o1)]) hx hb dX1_insert_20 hl (by decide) rfl (fun ls hl => ?_)
    refine lv_iconst (v := 3) hx hb dX1_insert_22 (by decide) ?_
    refine lv_iload hx hb dX1_insert_23 (lv_at hl 0 rfl) ?_
    refine lv_imul hx hb dX1_insert_25 ?_
    refine tt_rei (show (3 * (nI r)) = nI (3 * r) from pk_mul 3 r) ?_
    refine lv_istore (lv' := [(5, .int (nI (3 * r))), (4, .int (nI r)), (0, .ref h), (1, .int s1), (2, .int p1), (3, .int o1)]) hx hb dX1_insert_26 hl (by decide) rfl (fun ls hl => ?_)
    refine lv_aload_n hx hb dX1_insert_28 rfl (lv_at hl 2 rfl) ?_
    refine va_get (D := D) (ci := 1) (v := .ref q) (C := RX1) (T := TX1) (N := 3) hx hb hts hinX1 hown hK hP 0 rfl rfl 1 (by decide) hf9 (fun _ h9 => h9) rfl dX1_insert_29 ?_
    refine lv_iload hx hb dX1_insert_32 (lv_at hl 0 rfl) ?_
    refine lv_aload_n hx hb dX1_insert_34 rfl (lv_at hl 2 rfl) ?_
    refine va_get (D := D) (ci := 1) (v := .ref q) (C := RX1) (T := TX1) (N := 3) hx hb hts hinX1 hown hK hP 0 rfl rfl 1 (by decide) hf9 (fun _ h9 => h9) rfl dX1_insert_35 ?_
    refine lv_iload hx hb dX1_insert_38 (lv_at hl 0 rfl) ?_
    refine lv_iconst (v := 3) hx hb dX1_insert_40 (by decide) ?_
    refine lv_iadd hx hb dX1_insert_41 ?_
    refine tt_rei (show ((nI (3 * r)) + 3) = nI (3 * r + 3) from nI_add (3 * r) 3) ?_
    refine lv_iconst (v := 3) hx hb dX1_insert_42 (by decide) ?_
    refine lv_aload_n hx hb dX1_insert_43 rfl (lv_at hl 2 rfl) ?_
    refine va_get (D := D) (ci := 1) (v := .int (nI n)) (C := RX1) (T := TX1) (N := 3) hx hb hts hinX1 hown hK hP 0 rfl rfl 2 (by decide) hf19 (fun _ h9 => h9) rfl dX1_insert_44 ?_
    refine lv_iload hx hb dX1_insert_47 (lv_at hl 1 rfl) ?_
    refine lv_isub hx hb dX1_insert_49 ?_
    refine tt_rei (show ((nI n) - (nI r)) = nI (n - r) from pk_sub (a := n) (b := r) (by omega)) ?_
    refine lv_imul hx hb dX1_insert_50 ?_
    refine tt_rei (show (3 * (nI (n - r))) = nI (3 * (n - r)) from pk_mul 3 (n - r)) ?_
    refine va_copyi (ty := .int) hx hb (hml.trans hl.1.symm) hown (hts (.methodLink RX1 36 arraycopyName) (by decide +kernel)) (hts (.native arraycopyName) (by decide +kernel)) (hts (.static arraycopyName) (by decide +kernel)) (hts (.initialized "java/lang/System") (by decide +kernel)) hK hP hD hS 1 1 0 0 rfl rfl rfl rfl rfl (nI_pos (by omega)) (nI_pos (by omega)) (nI_pos (by omega)) (by rw [nI_clamp (by omega), nI_clamp (by omega)]; omega) (by rw [nI_clamp (by omega), nI_clamp (by omega)]; omega) (fun _ _ => rfl) (Nat.le_of_ble_eq_true rfl) (by decide +kernel) dX1_insert_51 (fun H locs hP hD hS => ?_)
    rw [nI_clamp (n := 3 * r) (by omega), nI_clamp (n := 3 * r + 3) (by omega), nI_clamp (n := 3 * (n - r)) (by omega)] at hP hD
    have hP : va_P D vwCl [(h, .inr (1, [.int (nI k), .ref q, .int (nI n)])), (q, .inl (cI, 2100, .inl (va_cpy f f (3 * r) (3 * r + 3) (3 * (n - r)))))] H := hP
    have hD : va_D A [(h, .inr (1, [.int (nI k), .ref q, .int (nI n)])), (q, .inl (cI, 2100, .inl (va_cpy f f (3 * r) (3 * r + 3) (3 * (n - r)))))] := hD
    refine lv_iconst (v := 0) hx hb dX1_insert_54 (by decide) ?_
    refine lv_istore (lv' := [(6, .int 0), (5, .int (nI (3 * r))), (4, .int (nI r)), (0, .ref h), (1, .int s1), (2, .int p1), (3, .int o1)]) hx hb dX1_insert_55 hl (by decide) rfl (fun ls hl => ?_)
    refine lv_iload hx hb dX1_insert_57 (lv_at hl 0 rfl) ?_
    refine lv_iconst (v := 3) hx hb dX1_insert_59 (by decide) ?_
    refine lv_icmp_ge (tgt := 88) hx hb dX1_insert_60 (by decide) (fun hb60 => ?_) (fun hb60 => ?_)
    · exact absurd hb60 (by decide)
    · refine lv_aload_n hx hb dX1_insert_63 rfl (lv_at hl 3 rfl) ?_
      refine va_get (D := D) (ci := 1) (v := .ref q) (C := RX1) (T := TX1) (N := 3) hx hb hts hinX1 hown hK hP 0 rfl rfl 1 (by decide) hf9 (fun _ h9 => h9) rfl dX1_insert_64 ?_
      refine lv_iload hx hb dX1_insert_67 (lv_at hl 1 rfl) ?_
      refine lv_iload hx hb dX1_insert_69 (lv_at hl 0 rfl) ?_
      refine lv_iadd hx hb dX1_insert_71 ?_
      refine tt_rei (show ((nI (3 * r)) + 0) = nI (3 * r + 0) from nI_add (3 * r) 0) ?_
      refine lv_aload_n hx hb dX1_insert_72 rfl (lv_at hl 3 rfl) ?_
      refine lv_iload hx hb dX1_insert_73 (lv_at hl 0 rfl) ?_
      refine lv_iload_n hx hb dX1_insert_75 rfl (lv_at hl 4 rfl) ?_
      refine lv_iload_n hx hb dX1_insert_76 rfl (lv_at hl 5 rfl) ?_
      refine lv_iload_n hx hb dX1_insert_77 rfl (lv_at hl 6 rfl) ?_
      have hPc := hP.sub (ws' := [(h, .inr (1, [.int (nI k), .ref q, .int (nI n)])), (q, .inl (cI, 2100, .inl (va_cpy f f (3 * r) (3 * r + 3) (3 * (n - r)))))]) [0, 1] rfl
      refine tt_calli (va_runV (As := [.int 0, .int s1, .int p1, .int o1]) (rest := [.int (nI (3 * r + 0)), .ref q]) hfix (c_X1_turned l D cI cZ cO cC h q k n _ 0 s1 p1 o1 hk (by omega)) (cwV 4 hts gX1_insert_X1_turned rfl rfl rfl (by decide +kernel) ⟨Nat.le_of_ble_eq_true rfl, Nat.le_of_ble_eq_true rfl⟩) (tt_preV (q0 := 0) (ci := 1) hK hPc tt_E.no rfl rfl) rfl rfl hl.1 rfl (lv_room (Nat.le_of_ble_eq_true rfl)) dX1_insert_78 ⟨Nat.zero_le _, Nat.zero_le _⟩) hP hS (fun H locs hP hS => ?_)
      refine va_iast hx hb hK hP hD hS 1 0 rfl rfl (vp_in_nI (n := 3 * r + 0) (by omega) (by omega)) dX1_insert_81 (fun H locs hP hD hS => ?_)
      rw [nI_clamp (n := 3 * r + 0) (by omega)] at hP hD
      have hP : va_P D vwCl [(h, .inr (1, [.int (nI k), .ref q, .int (nI n)])), (q, .inl (cI, 2100, .inl (upd (va_cpy f f (3 * r) (3 * r + 3) (3 * (n - r))) (3 * r + 0) (tt_pt ((k + 0) % 3) s1 p1 o1))))] H := hP
      have hD : va_D A [(h, .inr (1, [.int (nI k), .ref q, .int (nI n)])), (q, .inl (cI, 2100, .inl (upd (va_cpy f f (3 * r) (3 * r + 3) (3 * (n - r))) (3 * r + 0) (tt_pt ((k + 0) % 3) s1 p1 o1))))] := hD
      refine lv_iinc (v := 1) (lv' := [(6, .int 1), (5, .int (nI (3 * r))), (4, .int (nI r)), (0, .ref h), (1, .int s1), (2, .int p1), (3, .int o1)]) hx hb dX1_insert_82 hl (k := 0) rfl (rfl) (by decide) rfl (fun ls hl => ?_)
      refine lv_goto (tgt := 57) hx hb dX1_insert_85 (by decide) ?_
      refine lv_iload hx hb dX1_insert_57 (lv_at hl 0 rfl) ?_
      refine lv_iconst (v := 3) hx hb dX1_insert_59 (by decide) ?_
      refine lv_icmp_ge (tgt := 88) hx hb dX1_insert_60 (by decide) (fun hb60 => ?_) (fun hb60 => ?_)
      · exact absurd hb60 (by decide)
      · refine lv_aload_n hx hb dX1_insert_63 rfl (lv_at hl 3 rfl) ?_
        refine va_get (D := D) (ci := 1) (v := .ref q) (C := RX1) (T := TX1) (N := 3) hx hb hts hinX1 hown hK hP 0 rfl rfl 1 (by decide) hf9 (fun _ h9 => h9) rfl dX1_insert_64 ?_
        refine lv_iload hx hb dX1_insert_67 (lv_at hl 1 rfl) ?_
        refine lv_iload hx hb dX1_insert_69 (lv_at hl 0 rfl) ?_
        refine lv_iadd hx hb dX1_insert_71 ?_
        refine tt_rei (show ((nI (3 * r)) + 1) = nI (3 * r + 1) from nI_add (3 * r) 1) ?_
        refine lv_aload_n hx hb dX1_insert_72 rfl (lv_at hl 3 rfl) ?_
        refine lv_iload hx hb dX1_insert_73 (lv_at hl 0 rfl) ?_
        refine lv_iload_n hx hb dX1_insert_75 rfl (lv_at hl 4 rfl) ?_
        refine lv_iload_n hx hb dX1_insert_76 rfl (lv_at hl 5 rfl) ?_
        refine lv_iload_n hx hb dX1_insert_77 rfl (lv_at hl 6 rfl) ?_
        have hPc := hP.sub (ws' := [(h, .inr (1, [.int (nI k), .ref q, .int (nI n)])), (q, .inl (cI, 2100, .inl (upd (va_cpy f f (3 * r) (3 * r + 3) (3 * (n - r))) (3 * r + 0) (tt_pt ((k + 0) % 3) s1 p1 o1))))]) [0, 1] rfl
        refine tt_calli (va_runV (As := [.int 1, .int s1, .int p1, .int o1]) (rest := [.int (nI (3 * r + 1)), .ref q]) hfix (c_X1_turned l D cI cZ cO cC h q k n _ 1 s1 p1 o1 hk (by omega)) (cwV 4 hts gX1_insert_X1_turned rfl rfl rfl (by decide +kernel) ⟨Nat.le_of_ble_eq_true rfl, Nat.le_of_ble_eq_true rfl⟩) (tt_preV (q0 := 0) (ci := 1) hK hPc tt_E.no rfl rfl) rfl rfl hl.1 rfl (lv_room (Nat.le_of_ble_eq_true rfl)) dX1_insert_78 ⟨Nat.zero_le _, Nat.zero_le _⟩) hP hS (fun H locs hP hS => ?_)
        refine va_iast hx hb hK hP hD hS 1 0 rfl rfl (vp_in_nI (n := 3 * r + 1) (by omega) (by omega)) dX1_insert_81 (fun H locs hP hD hS => ?_)
        rw [nI_clamp (n := 3 * r + 1) (by omega)] at hP hD
        have hP : va_P D vwCl [(h, .inr (1, [.int (nI k), .ref q, .int (nI n)])), (q, .inl (cI, 2100, .inl (upd (upd (va_cpy f f (3 * r) (3 * r + 3) (3 * (n - r))) (3 * r + 0) (tt_pt ((k + 0) % 3) s1 p1 o1)) (3 * r + 1) (tt_pt ((k + 1) % 3) s1 p1 o1))))] H := hP
        have hD : va_D A [(h, .inr (1, [.int (nI k), .ref q, .int (nI n)])), (q, .inl (cI, 2100, .inl (upd (upd (va_cpy f f (3 * r) (3 * r + 3) (3 * (n - r))) (3 * r + 0) (tt_pt ((k + 0) % 3) s1 p1 o1)) (3 * r + 1) (tt_pt ((k + 1) % 3) s1 p1 o1))))] := hD
        refine lv_iinc (v := 2) (lv' := [(6, .int 2), (5, .int (nI (3 * r))), (4, .int (nI r)), (0, .ref h), (1, .int s1), (2, .int p1), (3, .int o1)]) hx hb dX1_insert_82 hl (k := 0) rfl (rfl) (by decide) rfl (fun ls hl => ?_)
        refine lv_goto (tgt := 57) hx hb dX1_insert_85 (by decide) ?_
        refine lv_iload hx hb dX1_insert_57 (lv_at hl 0 rfl) ?_
        refine lv_iconst (v := 3) hx hb dX1_insert_59 (by decide) ?_
        refine lv_icmp_ge (tgt := 88) hx hb dX1_insert_60 (by decide) (fun hb60 => ?_) (fun hb60 => ?_)
        · exact absurd hb60 (by decide)
        · refine lv_aload_n hx hb dX1_insert_63 rfl (lv_at hl 3 rfl) ?_
          refine va_get (D := D) (ci := 1) (v := .ref q) (C := RX1) (T := TX1) (N := 3) hx hb hts hinX1 hown hK hP 0 rfl rfl 1 (by decide) hf9 (fun _ h9 => h9) rfl dX1_insert_64 ?_
          refine lv_iload hx hb dX1_insert_67 (lv_at hl 1 rfl) ?_
          refine lv_iload hx hb dX1_insert_69 (lv_at hl 0 rfl) ?_
          refine lv_iadd hx hb dX1_insert_71 ?_
          refine tt_rei (show ((nI (3 * r)) + 2) = nI (3 * r + 2) from nI_add (3 * r) 2) ?_
          refine lv_aload_n hx hb dX1_insert_72 rfl (lv_at hl 3 rfl) ?_
          refine lv_iload hx hb dX1_insert_73 (lv_at hl 0 rfl) ?_
          refine lv_iload_n hx hb dX1_insert_75 rfl (lv_at hl 4 rfl) ?_
          refine lv_iload_n hx hb dX1_insert_76 rfl (lv_at hl 5 rfl) ?_
          refine lv_iload_n hx hb dX1_insert_77 rfl (lv_at hl 6 rfl) ?_
          have hPc := hP.sub (ws' := [(h, .inr (1, [.int (nI k), .ref q, .int (nI n)])), (q, .inl (cI, 2100, .inl (upd (upd (va_cpy f f (3 * r) (3 * r + 3) (3 * (n - r))) (3 * r + 0) (tt_pt ((k + 0) % 3) s1 p1 o1)) (3 * r + 1) (tt_pt ((k + 1) % 3) s1 p1 o1))))]) [0, 1] rfl
          refine tt_calli (va_runV (As := [.int 2, .int s1, .int p1, .int o1]) (rest := [.int (nI (3 * r + 2)), .ref q]) hfix (c_X1_turned l D cI cZ cO cC h q k n _ 2 s1 p1 o1 hk (by omega)) (cwV 4 hts gX1_insert_X1_turned rfl rfl rfl (by decide +kernel) ⟨Nat.le_of_ble_eq_true rfl, Nat.le_of_ble_eq_true rfl⟩) (tt_preV (q0 := 0) (ci := 1) hK hPc tt_E.no rfl rfl) rfl rfl hl.1 rfl (lv_room (Nat.le_of_ble_eq_true rfl)) dX1_insert_78 ⟨Nat.zero_le _, Nat.zero_le _⟩) hP hS (fun H locs hP hS => ?_)
          refine va_iast hx hb hK hP hD hS 1 0 rfl rfl (vp_in_nI (n := 3 * r + 2) (by omega) (by omega)) dX1_insert_81 (fun H locs hP hD hS => ?_)
          rw [nI_clamp (n := 3 * r + 2) (by omega)] at hP hD
          have hP : va_P D vwCl [(h, .inr (1, [.int (nI k), .ref q, .int (nI n)])), (q, .inl (cI, 2100, .inl (upd (upd (upd (va_cpy f f (3 * r) (3 * r + 3) (3 * (n - r))) (3 * r + 0) (tt_pt ((k + 0) % 3) s1 p1 o1)) (3 * r + 1) (tt_pt ((k + 1) % 3) s1 p1 o1)) (3 * r + 2) (tt_pt ((k + 2) % 3) s1 p1 o1))))] H := hP
          have hD : va_D A [(h, .inr (1, [.int (nI k), .ref q, .int (nI n)])), (q, .inl (cI, 2100, .inl (upd (upd (upd (va_cpy f f (3 * r) (3 * r + 3) (3 * (n - r))) (3 * r + 0) (tt_pt ((k + 0) % 3) s1 p1 o1)) (3 * r + 1) (tt_pt ((k + 1) % 3) s1 p1 o1)) (3 * r + 2) (tt_pt ((k + 2) % 3) s1 p1 o1))))] := hD
          refine lv_iinc (v := 3) (lv' := [(6, .int 3), (5, .int (nI (3 * r))), (4, .int (nI r)), (0, .ref h), (1, .int s1), (2, .int p1), (3, .int o1)]) hx hb dX1_insert_82 hl (k := 0) rfl (rfl) (by decide) rfl (fun ls hl => ?_)
          refine lv_goto (tgt := 57) hx hb dX1_insert_85 (by decide) ?_
          refine lv_iload hx hb dX1_insert_57 (lv_at hl 0 rfl) ?_
          refine lv_iconst (v := 3) hx hb dX1_insert_59 (by decide) ?_
          refine lv_icmp_ge (tgt := 88) hx hb dX1_insert_60 (by decide) (fun hb60 => ?_) (fun hb60 => ?_)
          · refine lv_aload_n hx hb dX1_insert_88 rfl (lv_at hl 3 rfl) ?_
            refine lv_dup hx hb dX1_insert_89 rfl ?_
            refine va_get (D := D) (ci := 1) (v := .int (nI n)) (C := RX1) (T := TX1) (N := 3) hx hb hts hinX1 hown hK hP 0 rfl rfl 2 (by decide) hf19 (fun _ h9 => h9) rfl dX1_insert_90 ?_
            refine lv_iconst (v := 1) hx hb dX1_insert_93 (by decide) ?_
            refine lv_iadd hx hb dX1_insert_94 ?_
            refine tt_rei (show ((nI n) + 1) = nI (n + 1) from nI_add n 1) ?_
            refine va_put (D := D) (ci := 1) (v := .int (nI (n + 1))) (ty := .int) (C := RX1) (T := TX1) (N := 3) hx hb hts hinX1 tyX1 tyX1_ok nmX1 hown hK hP hD hS 0 rfl rfl 2 (by decide) hf19 (fun _ h9 => h9) rfl (by decide +kernel) rfl rfl (Nat.le_of_ble_eq_true rfl) dX1_insert_95 (fun H locs hP hD hS => ?_)
            have hP : va_P D vwCl [(h, .inr (1, [.int (nI k), .ref q, .int (nI (n + 1))])), (q, .inl (cI, 2100, .inl (upd (upd (upd (va_cpy f f (3 * r) (3 * r + 3) (3 * (n - r))) (3 * r + 0) (tt_pt ((k + 0) % 3) s1 p1 o1)) (3 * r + 1) (tt_pt ((k + 1) % 3) s1 p1 o1)) (3 * r + 2) (tt_pt ((k + 2) % 3) s1 p1 o1))))] H := hP
            have hD : va_D A [(h, .inr (1, [.int (nI k), .ref q, .int (nI (n + 1))])), (q, .inl (cI, 2100, .inl (upd (upd (upd (va_cpy f f (3 * r) (3 * r + 3) (3 * (n - r))) (3 * r + 0) (tt_pt ((k + 0) % 3) s1 p1 o1)) (3 * r + 1) (tt_pt ((k + 1) % 3) s1 p1 o1)) (3 * r + 2) (tt_pt ((k + 2) % 3) s1 p1 o1))))] := hD
            exact kr _ _ _ _ _ (tt_ins_g f r n hr1 (fun i => tt_pt ((k + i) % 3) s1 p1 o1)) hP hS dX1_insert_98
          · exact absurd (by decide) hb60
  · have hb7 : ¬ n < 700 := fun hz9 => hb7 ((nI_ltI (a := n) (b := 700) (by omega) (by omega)).mpr hz9)
    exact absurd (show n < 700 from hn) hb7
set_option maxHeartbeats 4000000 in
set_option maxRecDepth 100000 in
theorem c_X1_cut (l : Launch) (D : va_G) (cI cZ cO cC : ClassId) (h q k n : Nat) (f : Nat → Int32) (j : Nat) (hj : j < n) (hn : n ≤ 700) : tt_Mutv (S := (Nat → Int32)) l yX1_cut wsX1_cut ({ frames := 1, cells := 0, slots := 0, locals := 40 } : Room) D (tt_tys cI cZ cO cC) false [(h, .inr (1, [.int (nI k), .ref q, .int (nI n)])), (q, .inl (cI, 2100, .inl f))] [.ref h, .int (nI j)] (fun g => ∀ i, g i = if 3 * j ≤ i ∧ i < 3 * (n - 1) then f (i + 3) else f i) (fun g => [(h, .inr (1, [.int (nI k), .ref q, .int (nI (n - 1))])), (q, .inl (cI, 2100, .inl g))]) := by
  refine tt_mutv (cc := cX1_cut) (maxL := 3) (by decide) rfl (Nat.le_of_ble_eq_true rfl) ?_
  intro p e s m below meth c Q ls A hfix hK hP hD hA hE hl kr
  obtain ⟨hx, hb, hml, hown, hts⟩ := id hfix
  have hown : s.vm.findClass RX1 = some m.cls := hown
  have hfix : CallFix p m c cX1_cut 3 s ([.ref h, .int (nI j)] : List Value).toArray wsX1_cut RX1 := hfix
  have hl : lv_has ls 3 [(0, .ref h), (1, .int (nI j))] := hl
  have hf19 := hts (.fieldLink RX1 19 "TripleTrees$Order" "count" "I") (by decide +kernel)
  have hf9 := hts (.fieldLink RX1 9 "TripleTrees$Order" "parts" "[I") (by decide +kernel)
  have hinX1 : ∀ w ∈ u_ws RX1 TX1 3, w ∈ wsX1_cut := by decide +kernel
  have hS : va_S A s.heap s.heap [] := va_S.rf
  refine lv_iload_n hx hb dX1_cut_0 rfl (lv_at hl 1 rfl) ?_
  refine lv_if_lt (tgt := 12) hx hb dX1_cut_1 (by decide) (fun hb1 => ?_) (fun hb1 => ?_)
  · have hb1 : j < 0 := (nI_ltI (a := j) (b := 0) (by omega) (by omega)).mp hb1
    exact absurd hb1 (by omega)
  · have hb1 : ¬ j < 0 := fun hz9 => hb1 ((nI_ltI (a := j) (b := 0) (by omega) (by omega)).mpr hz9)
    refine lv_iload_n hx hb dX1_cut_4 rfl (lv_at hl 1 rfl) ?_
    refine lv_aload_n hx hb dX1_cut_5 rfl (lv_at hl 0 rfl) ?_
    refine va_get (D := D) (ci := 1) (v := .int (nI n)) (C := RX1) (T := TX1) (N := 3) hx hb hts hinX1 hown hK hP 0 rfl rfl 2 (by decide) hf19 (fun _ h9 => h9) rfl dX1_cut_6 ?_
    refine lv_icmp_lt (tgt := 13) hx hb dX1_cut_9 (by decide) (fun hb9 => ?_) (fun hb9 => ?_)
    · have hb9 : j < n := (nI_ltI (a := j) (b := n) (by omega) (by omega)).mp hb9
      refine lv_iconst (v := 3) hx hb dX1_cut_13 (by decide) ?_
      refine lv_iload_n hx hb dX1_cut_14 rfl (lv_at hl 1 rfl) ?_
      refine lv_imul hx hb dX1_cut_15 ?_
      refine tt_rei (show (3 * (nI j)) = nI (3 * j) from pk_mul 3 j) ?_
      refine lv_istore_n (lv' := [(2, .int (nI (3 * j))), (0, .ref h), (1, .int (nI j))]) hx hb dX1_cut_16 rfl hl (by decide) rfl (fun ls hl => ?_)
      refine lv_aload_n hx hb dX1_cut_17 rfl (lv_at hl 1 rfl) ?_
      refine va_get (D := D) (ci := 1) (v := .ref q) (C := RX1) (T := TX1) (N := 3) hx hb hts hinX1 hown hK hP 0 rfl rfl 1 (by decide) hf9 (fun _ h9 => h9) rfl dX1_cut_18 ?_
      refine lv_iload_n hx hb dX1_cut_21 rfl (lv_at hl 0 rfl) ?_
      refine lv_iconst (v := 3) hx hb dX1_cut_22 (by decide) ?_
      refine lv_iadd hx hb dX1_cut_23 ?_
      refine tt_rei (show ((nI (3 * j)) + 3) = nI (3 * j + 3) from nI_add (3 * j) 3) ?_
      refine lv_aload_n hx hb dX1_cut_24 rfl (lv_at hl 1 rfl) ?_
      refine va_get (D := D) (ci := 1) (v := .ref q) (C := RX1) (T := TX1) (N := 3) hx hb hts hinX1 hown hK hP 0 rfl rfl 1 (by decide) hf9 (fun _ h9 => h9) rfl dX1_cut_25 ?_
      refine lv_iload_n hx hb dX1_cut_28 rfl (lv_at hl 0 rfl) ?_
      refine lv_iconst (v := 3) hx hb dX1_cut_29 (by decide) ?_
      refine lv_aload_n hx hb dX1_cut_30 rfl (lv_at hl 1 rfl) ?_
      refine va_get (D := D) (ci := 1) (v := .int (nI n)) (C := RX1) (T := TX1) (N := 3) hx hb hts hinX1 hown hK hP 0 rfl rfl 2 (by decide) hf19 (fun _ h9 => h9) rfl dX1_cut_31 ?_
      refine lv_iload_n hx hb dX1_cut_34 rfl (lv_at hl 2 rfl) ?_
      refine lv_isub hx hb dX1_cut_35 ?_
      refine tt_rei (show ((nI n) - (nI j)) = nI (n - j) from pk_sub (a := n) (b := j) (by omega)) ?_
      refine lv_iconst (v := 1) hx hb dX1_cut_36 (by decide) ?_
      refine lv_isub hx hb dX1_cut_37 ?_
      refine tt_rei (show ((nI (n - j)) - 1) = nI (n - j - 1) from pk_sub (a := n - j) (b := 1) (by omega)) ?_
      refine lv_imul hx hb dX1_cut_38 ?_
      refine tt_rei (show (3 * (nI (n - j - 1))) = nI (3 * (n - j - 1)) from pk_mul 3 (n - j - 1)) ?_
      refine va_copyi (ty := .int) hx hb (hml.trans hl.1.symm) hown (hts (.methodLink RX1 36 arraycopyName) (by decide +kernel)) (hts (.native arraycopyName) (by decide +kernel)) (hts (.static arraycopyName) (by decide +kernel)) (hts (.initialized "java/lang/System") (by decide +kernel)) hK hP hD hS 1 1 0 0 rfl rfl rfl rfl rfl (nI_pos (by omega)) (nI_pos (by omega)) (nI_pos (by omega)) (by rw [nI_clamp (by omega), nI_clamp (by omega)]; omega) (by rw [nI_clamp (by omega), nI_clamp (by omega)]; omega) (fun _ _ => rfl) (Nat.le_of_ble_eq_true rfl) (by decide +kernel) dX1_cut_39 (fun H locs hP hD hS => ?_)
      rw [nI_clamp (n := 3 * j + 3) (by omega), nI_clamp (n := 3 * j) (by omega), nI_clamp (n := 3 * (n - j - 1)) (by omega)] at hP hD
      have hP : va_P D vwCl [(h, .inr (1, [.int (nI k), .ref q, .int (nI n)])), (q, .inl (cI, 2100, .inl (va_cpy f f (3 * j + 3) (3 * j) (3 * (n - j - 1)))))] H := hP
      have hD : va_D A [(h, .inr (1, [.int (nI k), .ref q, .int (nI n)])), (q, .inl (cI, 2100, .inl (va_cpy f f (3 * j + 3) (3 * j) (3 * (n - j - 1)))))] := hD
      refine lv_aload_n hx hb dX1_cut_42 rfl (lv_at hl 1 rfl) ?_
      refine lv_dup hx hb dX1_cut_43 rfl ?_
      refine va_get (D := D) (ci := 1) (v := .int (nI n)) (C := RX1) (T := TX1) (N := 3) hx hb hts hinX1 hown hK hP 0 rfl rfl 2 (by decide) hf19 (fun _ h9 => h9) rfl dX1_cut_44 ?_
      refine lv_iconst (v := 1) hx hb dX1_cut_47 (by decide) ?_
      refine lv_isub hx hb dX1_cut_48 ?_
      refine tt_rei (show ((nI n) - 1) = nI (n - 1) from pk_sub (a := n) (b := 1) (by omega)) ?_
      refine va_put (D := D) (ci := 1) (v := .int (nI (n - 1))) (ty := .int) (C := RX1) (T := TX1) (N := 3) hx hb hts hinX1 tyX1 tyX1_ok nmX1 hown hK hP hD hS 0 rfl rfl 2 (by decide) hf19 (fun _ h9 => h9) rfl (by decide +kernel) rfl rfl (Nat.le_of_ble_eq_true rfl) dX1_cut_49 (fun H locs hP hD hS => ?_)
      have hP : va_P D vwCl [(h, .inr (1, [.int (nI k), .ref q, .int (nI (n - 1))])), (q, .inl (cI, 2100, .inl (va_cpy f f (3 * j + 3) (3 * j) (3 * (n - j - 1)))))] H := hP
      have hD : va_D A [(h, .inr (1, [.int (nI k), .ref q, .int (nI (n - 1))])), (q, .inl (cI, 2100, .inl (va_cpy f f (3 * j + 3) (3 * j) (3 * (n - j - 1)))))] := hD
      exact kr _ _ _ _ _ (tt_cut_g f j n hj) hP hS dX1_cut_52
    · have hb9 : ¬ j < n := fun hz9 => hb9 ((nI_ltI (a := j) (b := n) (by omega) (by omega)).mpr hz9)
      exact absurd hj hb9
set_option maxHeartbeats 4000000 in
set_option maxRecDepth 100000 in
theorem c_X0_begin (l : Launch) (D : va_G) (cI cZ cO cC : ClassId) (h : Nat) (io hc od oa : Int32) (fo en a1 a2 a3 a4 : Int32) : tt_Mutv (S := Unit) l yX0_begin wsX0_begin ({ frames := 0, cells := 0, slots := 0, locals := 0 } : Room) D (tt_tys cI cZ cO cC) false [(h, .inr (0, [.int io, .int hc, .int od, .int oa, .int fo, .int en]))] [.ref h, .int a1, .int a2, .int a3, .int a4] (fun _ => True) (fun _ => [(h, .inr (0, [.int 1, .int 0, .int a1, .int a4, .int a2, .int a3]))]) := by
  refine tt_mutv (cc := cX0_begin) (maxL := 5) (by decide) rfl (Nat.le_of_ble_eq_true rfl) ?_
  intro p e s m below meth c Q ls A hfix hK hP hD hA hE hl kr
  obtain ⟨hx, hb, hml, hown, hts⟩ := id hfix
  have hown : s.vm.findClass RX0 = some m.cls := hown
  have hfix : CallFix p m c cX0_begin 5 s ([.ref h, .int a1, .int a2, .int a3, .int a4] : List Value).toArray wsX0_begin RX0 := hfix
  have hl : lv_has ls 5 [(0, .ref h), (1, .int a1), (2, .int a2), (3, .int a3), (4, .int a4)] := hl
  have hf7 := hts (.fieldLink RX0 7 "TripleTrees$Cursor" "order" "I") (by decide +kernel)
  have hf13 := hts (.fieldLink RX0 13 "TripleTrees$Cursor" "following" "I") (by decide +kernel)
  have hf16 := hts (.fieldLink RX0 16 "TripleTrees$Cursor" "end" "I") (by decide +kernel)
  have hf19 := hts (.fieldLink RX0 19 "TripleTrees$Cursor" "openedAt" "I") (by decide +kernel)
  have hf22 := hts (.fieldLink RX0 22 "TripleTrees$Cursor" "isOpen" "Z") (by decide +kernel)
  have hf26 := hts (.fieldLink RX0 26 "TripleTrees$Cursor" "hasCurrent" "Z") (by decide +kernel)
  have hinX0 : ∀ w ∈ u_ws RX0 TX0 6, w ∈ wsX0_begin := by decide +kernel
  have hS : va_S A s.heap s.heap [] := va_S.rf
  refine lv_aload_n hx hb dX0_begin_0 rfl (lv_at hl 0 rfl) ?_
  refine lv_iload_n hx hb dX0_begin_1 rfl (lv_at hl 1 rfl) ?_
  refine va_put (D := D) (ci := 0) (v := .int a1) (ty := .int) (C := RX0) (T := TX0) (N := 6) hx hb hts hinX0 tyX0 tyX0_ok nmX0 hown hK hP hD hS 0 rfl rfl 2 (by decide) hf7 (fun _ h9 => h9) rfl (by decide +kernel) rfl rfl (Nat.le_of_ble_eq_true rfl) dX0_begin_2 (fun H locs hP hD hS => ?_)
  have hP : va_P D vwCl [(h, .inr (0, [.int io, .int hc, .int a1, .int oa, .int fo, .int en]))] H := hP
  have hD : va_D A [(h, .inr (0, [.int io, .int hc, .int a1, .int oa, .int fo, .int en]))] := hD
  refine lv_aload_n hx hb dX0_begin_5 rfl (lv_at hl 0 rfl) ?_
  refine lv_iload_n hx hb dX0_begin_6 rfl (lv_at hl 2 rfl) ?_
  refine va_put (D := D) (ci := 0) (v := .int a2) (ty := .int) (C := RX0) (T := TX0) (N := 6) hx hb hts hinX0 tyX0 tyX0_ok nmX0 hown hK hP hD hS 0 rfl rfl 4 (by decide) hf13 (fun _ h9 => h9) rfl (by decide +kernel) rfl rfl (Nat.le_of_ble_eq_true rfl) dX0_begin_7 (fun H locs hP hD hS => ?_)
  have hP : va_P D vwCl [(h, .inr (0, [.int io, .int hc, .int a1, .int oa, .int a2, .int en]))] H := hP
  have hD : va_D A [(h, .inr (0, [.int io, .int hc, .int a1, .int oa, .int a2, .int en]))] := hD
  refine lv_aload_n hx hb dX0_begin_10 rfl (lv_at hl 0 rfl) ?_
  refine lv_iload_n hx hb dX0_begin_11 rfl (lv_at hl 3 rfl) ?_
  refine va_put (D := D) (ci := 0) (v := .int a3) (ty := .int) (C := RX0) (T := TX0) (N := 6) hx hb hts hinX0 tyX0 tyX0_ok nmX0 hown hK hP hD hS 0 rfl rfl 5 (by decide) hf16 (fun _ h9 => h9) rfl (by decide +kernel) rfl rfl (Nat.le_of_ble_eq_true rfl) dX0_begin_12 (fun H locs hP hD hS => ?_)
  have hP : va_P D vwCl [(h, .inr (0, [.int io, .int hc, .int a1, .int oa, .int a2, .int a3]))] H := hP
  have hD : va_D A [(h, .inr (0, [.int io, .int hc, .int a1, .int oa, .int a2, .int a3]))] := hD
  refine lv_aload_n hx hb dX0_begin_15 rfl (lv_at hl 0 rfl) ?_
  refine lv_iload hx hb dX0_begin_16 (lv_at hl 4 rfl) ?_
  refine va_put (D := D) (ci := 0) (v := .int a4) (ty := .int) (C := RX0) (T := TX0) (N := 6) hx hb hts hinX0 tyX0 tyX0_ok nmX0 hown hK hP hD hS 0 rfl rfl 3 (by decide) hf19 (fun _ h9 => h9) rfl (by decide +kernel) rfl rfl (Nat.le_of_ble_eq_true rfl) dX0_begin_18 (fun H locs hP hD hS => ?_)
  have hP : va_P D vwCl [(h, .inr (0, [.int io, .int hc, .int a1, .int a4, .int a2, .int a3]))] H := hP
  have hD : va_D A [(h, .inr (0, [.int io, .int hc, .int a1, .int a4, .int a2, .int a3]))] := hD
  refine lv_aload_n hx hb dX0_begin_21 rfl (lv_at hl 0 rfl) ?_
  refine lv_iconst (v := 1) hx hb dX0_begin_22 (by decide) ?_
  refine va_put (D := D) (ci := 0) (v := .int 1) (ty := .boolean) (C := RX0) (T := TX0) (N := 6) hx hb hts hinX0 tyX0 tyX0_ok nmX0 hown hK hP hD hS 0 rfl rfl 0 (by decide) hf22 (fun _ h9 => h9) rfl (by decide +kernel) rfl rfl (Nat.le_of_ble_eq_true rfl) dX0_begin_23 (fun H locs hP hD hS => ?_)
  have hP : va_P D vwCl [(h, .inr (0, [.int 1, .int hc, .int a1, .int a4, .int a2, .int a3]))] H := hP
  have hD : va_D A [(h, .inr (0, [.int 1, .int hc, .int a1, .int a4, .int a2, .int a3]))] := hD
  refine lv_aload_n hx hb dX0_begin_26 rfl (lv_at hl 0 rfl) ?_
  refine lv_iconst (v := 0) hx hb dX0_begin_27 (by decide) ?_
  refine va_put (D := D) (ci := 0) (v := .int 0) (ty := .boolean) (C := RX0) (T := TX0) (N := 6) hx hb hts hinX0 tyX0 tyX0_ok nmX0 hown hK hP hD hS 0 rfl rfl 1 (by decide) hf26 (fun _ h9 => h9) rfl (by decide +kernel) rfl rfl (Nat.le_of_ble_eq_true rfl) dX0_begin_28 (fun H locs hP hD hS => ?_)
  have hP : va_P D vwCl [(h, .inr (0, [.int 1, .int 0, .int a1, .int a4, .int a2, .int a3]))] H := hP
  have hD : va_D A [(h, .inr (0, [.int 1, .int 0, .int a1, .int a4, .int a2, .int a3]))] := hD
  exact kr _ _ _ _ () trivial hP hS dX0_begin_31
set_option maxHeartbeats 4000000 in
set_option maxRecDepth 100000 in
theorem c_X0_skipTo (l : Launch) (D : va_G) (cI cZ cO cC : ClassId) (h : Nat) (io hc od oa : Int32) (fo en pl : Nat) (h1 : fo < 2 ^ 31) (h2 : en < 2 ^ 31) (h3 : pl < 2 ^ 31) : tt_Mutv (S := Unit) l yX0_skipTo wsX0_skipTo ({ frames := 1, cells := 0, slots := 0, locals := 40 } : Room) D (tt_tys cI cZ cO cC) false [(h, .inr (0, [.int io, .int hc, .int od, .int oa, .int (nI fo), .int (nI en)]))] [.ref h, .int (nI pl)] (fun _ => True) (fun _ => [(h, .inr (0, [.int io, .int hc, .int od, .int oa, .int (nI (min (max fo pl) en)), .int (nI en)]))]) := by
  refine tt_mutv (cc := cX0_skipTo) (maxL := 2) (by decide) rfl (Nat.le_of_ble_eq_true rfl) ?_
  intro p e s m below meth c Q ls A hfix hK hP hD hA hE hl kr
  obtain ⟨hx, hb, hml, hown, hts⟩ := id hfix
  have hown : s.vm.findClass RX0 = some m.cls := hown
  have hfix : CallFix p m c cX0_skipTo 2 s ([.ref h, .int (nI pl)] : List Value).toArray wsX0_skipTo RX0 := hfix
  have hl : lv_has ls 2 [(0, .ref h), (1, .int (nI pl))] := hl
  have hf13 := hts (.fieldLink RX0 13 "TripleTrees$Cursor" "following" "I") (by decide +kernel)
  have hf16 := hts (.fieldLink RX0 16 "TripleTrees$Cursor" "end" "I") (by decide +kernel)
  have hinX0 : ∀ w ∈ u_ws RX0 TX0 6, w ∈ wsX0_skipTo := by decide +kernel
  have hS : va_S A s.heap s.heap [] := va_S.rf
  refine lv_aload_n hx hb dX0_skipTo_0 rfl (lv_at hl 0 rfl) ?_
  refine lv_aload_n hx hb dX0_skipTo_1 rfl (lv_at hl 0 rfl) ?_
  refine va_get (D := D) (ci := 0) (v := .int (nI fo)) (C := RX0) (T := TX0) (N := 6) hx hb hts hinX0 hown hK hP 0 rfl rfl 4 (by decide) hf13 (fun _ h9 => h9) rfl dX0_skipTo_2 ?_
  refine lv_iload_n hx hb dX0_skipTo_5 rfl (lv_at hl 1 rfl) ?_
  refine va_mmax hx hb (hml.trans hl.1.symm) hown (hts (.methodLink RX0 29 Lib.Math.max.name) (by decide +kernel)) (hts (.static Lib.Math.max.name) (by decide +kernel)) (hts (.initialized "java/lang/Math") (by decide +kernel)) (hts (.code Lib.Math.max.name Lib.Math.max.code 2 (some .int)) (by decide +kernel)) (Nat.le_of_ble_eq_true rfl) (Nat.le_of_ble_eq_true rfl) (Nat.zero_le _) (Nat.zero_le _) dX0_skipTo_6 ?_
  refine tt_rei (show (if nI fo < nI pl then nI pl else nI fo) = nI (max fo pl) from tt_max h1 h3) ?_
  refine lv_aload_n hx hb dX0_skipTo_9 rfl (lv_at hl 0 rfl) ?_
  refine va_get (D := D) (ci := 0) (v := .int (nI en)) (C := RX0) (T := TX0) (N := 6) hx hb hts hinX0 hown hK hP 0 rfl rfl 5 (by decide) hf16 (fun _ h9 => h9) rfl dX0_skipTo_10 ?_
  refine va_mmin hx hb (hml.trans hl.1.symm) hown (hts (.methodLink RX0 35 Lib.Math.min.name) (by decide +kernel)) (hts (.static Lib.Math.min.name) (by decide +kernel)) (hts (.initialized "java/lang/Math") (by decide +kernel)) (hts (.code Lib.Math.min.name Lib.Math.min.code 2 (some .int)) (by decide +kernel)) (Nat.le_of_ble_eq_true rfl) (Nat.le_of_ble_eq_true rfl) (Nat.zero_le _) (Nat.zero_le _) dX0_skipTo_13 ?_
  refine tt_rei (show (if nI en < nI (max fo pl) then nI en else nI (max fo pl)) = nI (min (max fo pl) en) from tt_min (by omega) h2) ?_
  refine va_put (D := D) (ci := 0) (v := .int (nI (min (max fo pl) en))) (ty := .int) (C := RX0) (T := TX0) (N := 6) hx hb hts hinX0 tyX0 tyX0_ok nmX0 hown hK hP hD hS 0 rfl rfl 4 (by decide) hf13 (fun _ h9 => h9) rfl (by decide +kernel) rfl rfl (Nat.le_of_ble_eq_true rfl) dX0_skipTo_16 (fun H locs hP hD hS => ?_)
  have hP : va_P D vwCl [(h, .inr (0, [.int io, .int hc, .int od, .int oa, .int (nI (min (max fo pl) en)), .int (nI en)]))] H := hP
  have hD : va_D A [(h, .inr (0, [.int io, .int hc, .int od, .int oa, .int (nI (min (max fo pl) en)), .int (nI en)]))] := hD
  exact kr _ _ _ _ () trivial hP hS dX0_skipTo_19
set_option maxHeartbeats 4000000 in
set_option maxRecDepth 100000 in
theorem c_X0_goOn (l : Launch) (D : va_G) (cI cZ cO cC : ClassId) (h : Nat) (io hc od oa : Int32) (fo en : Nat) (h1 : fo < 2 ^ 31) (h2 : en < 2 ^ 31) : tt_Muti (S := Unit) l yX0_goOn wsX0_goOn ({ frames := 0, cells := 0, slots := 0, locals := 0 } : Room) D (tt_tys cI cZ cO cC) false [(h, .inr (0, [.int io, .int hc, .int od, .int oa, .int (nI fo), .int (nI en)]))] [.ref h] (fun r _ => r = if fo < en then 1 else 0) (fun _ => [(h, .inr (0, [.int io, .int (if fo < en then 1 else 0), .int od, .int oa, .int (nI (if fo < en then fo + 1 else fo)), .int (nI en)]))]) := by
  refine tt_muti (cc := cX0_goOn) (maxL := 1) (rt := .int) (by decide) rfl (fun _ _ _ => rfl) (Nat.le_of_ble_eq_true rfl) ?_
  intro p e s m below meth c Q ls A hfix hK hP hD hA hE hl kr
  obtain ⟨hx, hb, hml, hown, hts⟩ := id hfix
  have hown : s.vm.findClass RX0 = some m.cls := hown
  have hfix : CallFix p m c cX0_goOn 1 s ([.ref h] : List Value).toArray wsX0_goOn RX0 := hfix
  have hl : lv_has ls 1 [(0, .ref h)] := hl
  have hf13 := hts (.fieldLink RX0 13 "TripleTrees$Cursor" "following" "I") (by decide +kernel)
  have hf16 := hts (.fieldLink RX0 16 "TripleTrees$Cursor" "end" "I") (by decide +kernel)
  have hf26 := hts (.fieldLink RX0 26 "TripleTrees$Cursor" "hasCurrent" "Z") (by decide +kernel)
  have hinX0 : ∀ w ∈ u_ws RX0 TX0 6, w ∈ wsX0_goOn := by decide +kernel
  have hS : va_S A s.heap s.heap [] := va_S.rf
  refine lv_aload_n hx hb dX0_goOn_0 rfl (lv_at hl 0 rfl) ?_
  refine lv_aload_n hx hb dX0_goOn_1 rfl (lv_at hl 0 rfl) ?_
  refine va_get (D := D) (ci := 0) (v := .int (nI fo)) (C := RX0) (T := TX0) (N := 6) hx hb hts hinX0 hown hK hP 0 rfl rfl 4 (by decide) hf13 (fun _ h9 => h9) rfl dX0_goOn_2 ?_
  refine lv_aload_n hx hb dX0_goOn_5 rfl (lv_at hl 0 rfl) ?_
  refine va_get (D := D) (ci := 0) (v := .int (nI en)) (C := RX0) (T := TX0) (N := 6) hx hb hts hinX0 hown hK hP 0 rfl rfl 5 (by decide) hf16 (fun _ h9 => h9) rfl dX0_goOn_6 ?_
  refine lv_icmp_ge (tgt := 16) hx hb dX0_goOn_9 (by decide) (fun hb9 => ?_) (fun hb9 => ?_)
  · have hb9 : en ≤ fo := (nI_leI (a := en) (b := fo) (by omega) (by omega)).mp hb9
    refine lv_iconst (v := 0) hx hb dX0_goOn_16 (by decide) ?_
    refine va_put (D := D) (ci := 0) (v := .int 0) (ty := .boolean) (C := RX0) (T := TX0) (N := 6) hx hb hts hinX0 tyX0 tyX0_ok nmX0 hown hK hP hD hS 0 rfl rfl 1 (by decide) hf26 (fun _ h9 => h9) rfl (by decide +kernel) rfl rfl (Nat.le_of_ble_eq_true rfl) dX0_goOn_17 (fun H locs hP hD hS => ?_)
    have hP : va_P D vwCl [(h, .inr (0, [.int io, .int 0, .int od, .int oa, .int (nI fo), .int (nI en)]))] H := hP
    have hD : va_D A [(h, .inr (0, [.int io, .int 0, .int od, .int oa, .int (nI fo), .int (nI en)]))] := hD
    refine lv_aload_n hx hb dX0_goOn_20 rfl (lv_at hl 0 rfl) ?_
    refine va_get (D := D) (ci := 0) (v := .int 0) (C := RX0) (T := TX0) (N := 6) hx hb hts hinX0 hown hK hP 0 rfl rfl 1 (by decide) hf26 (fun _ h9 => h9) rfl dX0_goOn_21 ?_
    refine lv_if_ne (tgt := 29) hx hb dX0_goOn_24 (by decide) (fun hb24 => ?_) (fun hb24 => ?_)
    · exact absurd rfl hb24
    · refine lv_iconst (v := 0) hx hb dX0_goOn_27 (by decide) ?_
      have hlt : ¬ fo < en := by omega
      refine kr _ _ _ _ _ () (by rw [if_neg hlt]) ?_ hS dX0_goOn_28
      rw [if_neg hlt, if_neg hlt]
      exact hP
  · have hb9 : ¬ en ≤ fo := fun hz9 => hb9 ((nI_leI (a := en) (b := fo) (by omega) (by omega)).mpr hz9)
    refine lv_iconst (v := 1) hx hb dX0_goOn_12 (by decide) ?_
    refine lv_goto (tgt := 17) hx hb dX0_goOn_13 (by decide) ?_
    refine va_put (D := D) (ci := 0) (v := .int 1) (ty := .boolean) (C := RX0) (T := TX0) (N := 6) hx hb hts hinX0 tyX0 tyX0_ok nmX0 hown hK hP hD hS 0 rfl rfl 1 (by decide) hf26 (fun _ h9 => h9) rfl (by decide +kernel) rfl rfl (Nat.le_of_ble_eq_true rfl) dX0_goOn_17 (fun H locs hP hD hS => ?_)
    have hP : va_P D vwCl [(h, .inr (0, [.int io, .int 1, .int od, .int oa, .int (nI fo), .int (nI en)]))] H := hP
    have hD : va_D A [(h, .inr (0, [.int io, .int 1, .int od, .int oa, .int (nI fo), .int (nI en)]))] := hD
    refine lv_aload_n hx hb dX0_goOn_20 rfl (lv_at hl 0 rfl) ?_
    refine va_get (D := D) (ci := 0) (v := .int 1) (C := RX0) (T := TX0) (N := 6) hx hb hts hinX0 hown hK hP 0 rfl rfl 1 (by decide) hf26 (fun _ h9 => h9) rfl dX0_goOn_21 ?_
    refine lv_if_ne (tgt := 29) hx hb dX0_goOn_24 (by decide) (fun hb24 => ?_) (fun hb24 => ?_)
    · refine lv_aload_n hx hb dX0_goOn_29 rfl (lv_at hl 0 rfl) ?_
      refine lv_dup hx hb dX0_goOn_30 rfl ?_
      refine va_get (D := D) (ci := 0) (v := .int (nI fo)) (C := RX0) (T := TX0) (N := 6) hx hb hts hinX0 hown hK hP 0 rfl rfl 4 (by decide) hf13 (fun _ h9 => h9) rfl dX0_goOn_31 ?_
      refine lv_iconst (v := 1) hx hb dX0_goOn_34 (by decide) ?_
      refine lv_iadd hx hb dX0_goOn_35 ?_
      refine tt_rei (show ((nI fo) + 1) = nI (fo + 1) from nI_add fo 1) ?_
      refine va_put (D := D) (ci := 0) (v := .int (nI (fo + 1))) (ty := .int) (C := RX0) (T := TX0) (N := 6) hx hb hts hinX0 tyX0 tyX0_ok nmX0 hown hK hP hD hS 0 rfl rfl 4 (by decide) hf13 (fun _ h9 => h9) rfl (by decide +kernel) rfl rfl (Nat.le_of_ble_eq_true rfl) dX0_goOn_36 (fun H locs hP hD hS => ?_)
      have hP : va_P D vwCl [(h, .inr (0, [.int io, .int 1, .int od, .int oa, .int (nI (fo + 1)), .int (nI en)]))] H := hP
      have hD : va_D A [(h, .inr (0, [.int io, .int 1, .int od, .int oa, .int (nI (fo + 1)), .int (nI en)]))] := hD
      refine lv_iconst (v := 1) hx hb dX0_goOn_39 (by decide) ?_
      have hlt : fo < en := by omega
      refine kr _ _ _ _ _ () (by rw [if_pos hlt]) ?_ hS dX0_goOn_40
      rw [if_pos hlt, if_pos hlt]
      exact hP
    · exact absurd hb24 (by decide)
set_option maxHeartbeats 4000000 in
set_option maxRecDepth 100000 in
theorem c_X2_clear (l : Launch) (D : va_G) (cI cZ cO cC : ClassId) (h q1 q2 q3 wc : Nat) (wi wst wm : Nat → Int32) (a1 b1 : Nat) (h1 : a1 ≤ 700) (h2 : b1 ≤ 700) : tt_Mutv (S := (Nat → Int32)) l yX2_clear wsX2_clear ({ frames := 1, cells := 0, slots := 0, locals := 40 } : Room) D (tt_tys cI cZ cO cC) false [(h, .inr (2, [.ref q1, .ref q2, .ref q3, .int (nI wc)])), (q1, .inl (cI, 701, .inl wi)), (q2, .inl (cI, 701, .inl wst)), (q3, .inl (cZ, 700, .inl wm))] [.ref h, .int (nI a1), .int (nI b1)] (fun g => ∀ i, g i = if a1 ≤ i ∧ i < b1 then 0 else wm i) (fun g => [(h, .inr (2, [.ref q1, .ref q2, .ref q3, .int (nI 0)])), (q1, .inl (cI, 701, .inl wi)), (q2, .inl (cI, 701, .inl wst)), (q3, .inl (cZ, 700, .inl g))]) := by
  refine tt_mutv (cc := cX2_clear) (maxL := 4) (by decide) rfl (Nat.le_of_ble_eq_true rfl) ?_
  intro p e s m below meth c Q ls A hfix hK hP hD hA hE hl kr
  obtain ⟨hx, hb, hml, hown, hts⟩ := id hfix
  have hown : s.vm.findClass RX2 = some m.cls := hown
  have hfix : CallFix p m c cX2_clear 4 s ([.ref h, .int (nI a1), .int (nI b1)] : List Value).toArray wsX2_clear RX2 := hfix
  have hl : lv_has ls 4 [(0, .ref h), (1, .int (nI a1)), (2, .int (nI b1))] := hl
  have hf22 := hts (.fieldLink RX2 22 "TripleTrees$Walk" "count" "I") (by decide +kernel)
  have hf18 := hts (.fieldLink RX2 18 "TripleTrees$Walk" "marked" "[Z") (by decide +kernel)
  have hinX2 : ∀ w ∈ u_ws RX2 TX2 4, w ∈ wsX2_clear := by decide +kernel
  have hS : va_S A s.heap s.heap [] := va_S.rf
  have loop : ∀ (d i : Nat) (g : Nat → Int32), (d + i = max a1 b1) → (a1 ≤ i) → (∀ j, g j = if a1 ≤ j ∧ j < i then 0 else wm j) → ∀ (H : Heap) (locs : List Loc) (ls : Array Slot), va_P D vwCl [(h, .inr (2, [.ref q1, .ref q2, .ref q3, .int 0])), (q1, .inl (cI, 701, .inl wi)), (q2, .inl (cI, 701, .inl wst)), (q3, .inl (cZ, 700, .inl g))] H → va_D A [(h, .inr (2, [.ref q1, .ref q2, .ref q3, .int 0])), (q1, .inl (cI, 701, .inl wi)), (q2, .inl (cI, 701, .inl wst)), (q3, .inl (cZ, 700, .inl g))] → va_S A s.heap H locs → lv_has ls 4 [(3, .int (nI i)), (0, .ref h), (1, .int (nI a1)), (2, .int (nI b1))] → W p l e ({ frames := 1, cells := 0, slots := 0, locals := 40 } : Room) s m ([.ref h, .int (nI a1), .int (nI b1)] : List Value).toArray below meth c H locs 0 0 Q (F0 m 11 ls []) := by
    intro d
    induction d with
    | zero =>
      intro i g hd hi hg H locs ls hP hD hS hl
      refine lv_iload_n hx hb dX2_clear_11 rfl (lv_at hl 0 rfl) ?_
      refine lv_iload_n hx hb dX2_clear_12 rfl (lv_at hl 3 rfl) ?_
      refine lv_icmp_ge (tgt := 36) hx hb dX2_clear_13 (by decide) (fun hb13 => ?_) (fun hb13 => ?_)
      · have hb13 : b1 ≤ i := (nI_leI (a := b1) (b := i) (by omega) (by omega)).mp hb13
        refine kr _ _ _ _ g (fun j => ?_) hP hS dX2_clear_36
        rw [hg j]
        by_cases hj : a1 ≤ j ∧ j < b1
        · rw [if_pos hj, if_pos (by omega)]
        · rw [if_neg hj, if_neg (by omega)]
      · have hb13 : ¬ b1 ≤ i := fun hz9 => hb13 ((nI_leI (a := b1) (b := i) (by omega) (by omega)).mpr hz9)
        exact absurd hb13 (by omega)
    | succ d ih =>
      intro i g hd hi hg H locs ls hP hD hS hl
      refine lv_iload_n hx hb dX2_clear_11 rfl (lv_at hl 0 rfl) ?_
      refine lv_iload_n hx hb dX2_clear_12 rfl (lv_at hl 3 rfl) ?_
      refine lv_icmp_ge (tgt := 36) hx hb dX2_clear_13 (by decide) (fun hb13 => ?_) (fun hb13 => ?_)
      · have hb13 : b1 ≤ i := (nI_leI (a := b1) (b := i) (by omega) (by omega)).mp hb13
        exact absurd hb13 (by omega)
      · have hb13 : ¬ b1 ≤ i := fun hz9 => hb13 ((nI_leI (a := b1) (b := i) (by omega) (by omega)).mpr hz9)
        refine lv_iload_n hx hb dX2_clear_16 rfl (lv_at hl 0 rfl) ?_
        refine lv_sipush (v := 700) hx hb dX2_clear_17 (by decide) ?_
        refine lv_icmp_ge (tgt := 36) hx hb dX2_clear_20 (by decide) (fun hb20 => ?_) (fun hb20 => ?_)
        · have hb20 : 700 ≤ i := (nI_leI (a := 700) (b := i) (by omega) (by omega)).mp hb20
          exact absurd hb20 (by omega)
        · have hb20 : ¬ 700 ≤ i := fun hz9 => hb20 ((nI_leI (a := 700) (b := i) (by omega) (by omega)).mpr hz9)
          refine lv_aload_n hx hb dX2_clear_23 rfl (lv_at hl 1 rfl) ?_
          refine va_get (D := D) (ci := 2) (v := .ref q3) (C := RX2) (T := TX2) (N := 4) hx hb hts hinX2 hown hK hP 0 rfl rfl 2 (by decide) hf18 (fun _ h9 => h9) rfl dX2_clear_24 ?_
          refine lv_iload_n hx hb dX2_clear_27 rfl (lv_at hl 0 rfl) ?_
          refine lv_iconst (v := 0) hx hb dX2_clear_28 (by decide) ?_
          refine va_zast hx hb hK hP hD hS 3 1 rfl rfl (vp_in_nI (n := i) (by omega) (by omega)) dX2_clear_29 (fun H locs hP hD hS => ?_)
          rw [nI_clamp (n := i) (by omega)] at hP hD
          have hP : va_P D vwCl [(h, .inr (2, [.ref q1, .ref q2, .ref q3, .int 0])), (q1, .inl (cI, 701, .inl wi)), (q2, .inl (cI, 701, .inl wst)), (q3, .inl (cZ, 700, .inl (upd g i 0)))] H := hP
          have hD : va_D A [(h, .inr (2, [.ref q1, .ref q2, .ref q3, .int 0])), (q1, .inl (cI, 701, .inl wi)), (q2, .inl (cI, 701, .inl wst)), (q3, .inl (cZ, 700, .inl (upd g i 0)))] := hD
          refine lv_iinc (v := nI (i + 1)) (lv' := [(3, .int (nI (i + 1))), (0, .ref h), (1, .int (nI a1)), (2, .int (nI b1))]) hx hb dX2_clear_30 hl (k := 0) rfl (nI_add i 1) (by decide) rfl (fun ls hl => ?_)
          refine lv_goto (tgt := 11) hx hb dX2_clear_33 (by decide) ?_
          exact ih (i + 1) _ (by omega) (by omega) (tt_clear_g hg (by omega)) H locs ls hP hD hS (lv_sub hl [0, 1, 2, 3] rfl)
  refine lv_aload_n hx hb dX2_clear_0 rfl (lv_at hl 0 rfl) ?_
  refine lv_iconst (v := 0) hx hb dX2_clear_1 (by decide) ?_
  refine va_put (D := D) (ci := 2) (v := .int 0) (ty := .int) (C := RX2) (T := TX2) (N := 4) hx hb hts hinX2 tyX2 tyX2_ok nmX2 hown hK hP hD hS 0 rfl rfl 3 (by decide) hf22 (fun _ h9 => h9) rfl (by decide +kernel) rfl rfl (Nat.le_of_ble_eq_true rfl) dX2_clear_2 (fun H locs hP hD hS => ?_)
  have hP : va_P D vwCl [(h, .inr (2, [.ref q1, .ref q2, .ref q3, .int 0])), (q1, .inl (cI, 701, .inl wi)), (q2, .inl (cI, 701, .inl wst)), (q3, .inl (cZ, 700, .inl wm))] H := hP
  have hD : va_D A [(h, .inr (2, [.ref q1, .ref q2, .ref q3, .int 0])), (q1, .inl (cI, 701, .inl wi)), (q2, .inl (cI, 701, .inl wst)), (q3, .inl (cZ, 700, .inl wm))] := hD
  refine lv_iload_n hx hb dX2_clear_5 rfl (lv_at hl 1 rfl) ?_
  refine lv_iconst (v := 0) hx hb dX2_clear_6 (by decide) ?_
  refine va_mmax hx hb (hml.trans hl.1.symm) hown (hts (.methodLink RX2 26 Lib.Math.max.name) (by decide +kernel)) (hts (.static Lib.Math.max.name) (by decide +kernel)) (hts (.initialized "java/lang/Math") (by decide +kernel)) (hts (.code Lib.Math.max.name Lib.Math.max.code 2 (some .int)) (by decide +kernel)) (Nat.le_of_ble_eq_true rfl) (Nat.le_of_ble_eq_true rfl) (Nat.zero_le _) (Nat.zero_le _) dX2_clear_7 ?_
  refine tt_rei (show (if nI a1 < 0 then 0 else nI a1) = nI a1 from if_neg (nI_pos (by omega))) ?_
  refine lv_istore_n (lv' := [(3, .int (nI a1)), (0, .ref h), (1, .int (nI a1)), (2, .int (nI b1))]) hx hb dX2_clear_10 rfl hl (by decide) rfl (fun ls hl => ?_)
  exact loop (max a1 b1 - a1) a1 wm (by omega) (by omega) (fun j => by rw [if_neg (by omega)]) _ _ ls hP hD hS (lv_sub hl [0, 1, 2, 3] rfl)
set_option maxHeartbeats 4000000 in
set_option maxRecDepth 100000 in
theorem c_X2_mark (l : Launch) (D : va_G) (cI cZ cO cC : ClassId) (h q1 q2 q3 wc : Nat) (wi wst wm : Nat → Int32) (pl : Nat) (h1 : pl < 700) : tt_Muti (S := Unit) l yX2_mark wsX2_mark ({ frames := 0, cells := 0, slots := 0, locals := 0 } : Room) D (tt_tys cI cZ cO cC) false [(h, .inr (2, [.ref q1, .ref q2, .ref q3, .int (nI wc)])), (q1, .inl (cI, 701, .inl wi)), (q2, .inl (cI, 701, .inl wst)), (q3, .inl (cZ, 700, .inl wm))] [.ref h, .int (nI pl)] (fun r _ => r = if wm pl = 0 then 1 else 0) (fun _ => [(h, .inr (2, [.ref q1, .ref q2, .ref q3, .int (nI wc)])), (q1, .inl (cI, 701, .inl wi)), (q2, .inl (cI, 701, .inl wst)), (q3, .inl (cZ, 700, .inl (if wm pl = 0 then upd wm pl 1 else wm)))]) := by
  refine tt_muti (cc := cX2_mark) (maxL := 2) (rt := .boolean) (by decide) rfl (fun r _ h => by rw [h]; exact tt_nbi _) (Nat.le_of_ble_eq_true rfl) ?_
  intro p e s m below meth c Q ls A hfix hK hP hD hA hE hl kr
  obtain ⟨hx, hb, hml, hown, hts⟩ := id hfix
  have hown : s.vm.findClass RX2 = some m.cls := hown
  have hfix : CallFix p m c cX2_mark 2 s ([.ref h, .int (nI pl)] : List Value).toArray wsX2_mark RX2 := hfix
  have hl : lv_has ls 2 [(0, .ref h), (1, .int (nI pl))] := hl
  have hf18 := hts (.fieldLink RX2 18 "TripleTrees$Walk" "marked" "[Z") (by decide +kernel)
  have hinX2 : ∀ w ∈ u_ws RX2 TX2 4, w ∈ wsX2_mark := by decide +kernel
  have hS : va_S A s.heap s.heap [] := va_S.rf
  refine lv_iload_n hx hb dX2_mark_0 rfl (lv_at hl 1 rfl) ?_
  refine lv_if_lt (tgt := 20) hx hb dX2_mark_1 (by decide) (fun hb1 => ?_) (fun hb1 => ?_)
  · have hb1 : pl < 0 := (nI_ltI (a := pl) (b := 0) (by omega) (by omega)).mp hb1
    exact absurd hb1 (by omega)
  · have hb1 : ¬ pl < 0 := fun hz9 => hb1 ((nI_ltI (a := pl) (b := 0) (by omega) (by omega)).mpr hz9)
    refine lv_iload_n hx hb dX2_mark_4 rfl (lv_at hl 1 rfl) ?_
    refine lv_sipush (v := 700) hx hb dX2_mark_5 (by decide) ?_
    refine lv_icmp_ge (tgt := 20) hx hb dX2_mark_8 (by decide) (fun hb8 => ?_) (fun hb8 => ?_)
    · have hb8 : 700 ≤ pl := (nI_leI (a := 700) (b := pl) (by omega) (by omega)).mp hb8
      exact absurd hb8 (by omega)
    · have hb8 : ¬ 700 ≤ pl := fun hz9 => hb8 ((nI_leI (a := 700) (b := pl) (by omega) (by omega)).mpr hz9)
      refine lv_aload_n hx hb dX2_mark_11 rfl (lv_at hl 0 rfl) ?_
      refine va_get (D := D) (ci := 2) (v := .ref q3) (C := RX2) (T := TX2) (N := 4) hx hb hts hinX2 hown hK hP 0 rfl rfl 2 (by decide) hf18 (fun _ h9 => h9) rfl dX2_mark_12 ?_
      refine lv_iload_n hx hb dX2_mark_15 rfl (lv_at hl 1 rfl) ?_
      refine va_zald hx hb hK hP 3 1 rfl rfl (vp_in_nI (n := pl) (by omega) (by omega)) dX2_mark_16 ?_
      refine tt_rei (show (wm (nI pl).toNatClampNeg) = wm pl from congrArg wm (nI_clamp (n := pl) (by omega))) ?_
      refine lv_if_eq (tgt := 22) hx hb dX2_mark_17 (by decide) (fun hb17 => ?_) (fun hb17 => ?_)
      · refine lv_aload_n hx hb dX2_mark_22 rfl (lv_at hl 0 rfl) ?_
        refine va_get (D := D) (ci := 2) (v := .ref q3) (C := RX2) (T := TX2) (N := 4) hx hb hts hinX2 hown hK hP 0 rfl rfl 2 (by decide) hf18 (fun _ h9 => h9) rfl dX2_mark_23 ?_
        refine lv_iload_n hx hb dX2_mark_26 rfl (lv_at hl 1 rfl) ?_
        refine lv_iconst (v := 1) hx hb dX2_mark_27 (by decide) ?_
        refine va_zast hx hb hK hP hD hS 3 1 rfl rfl (vp_in_nI (n := pl) (by omega) (by omega)) dX2_mark_28 (fun H locs hP hD hS => ?_)
        rw [nI_clamp (n := pl) (by omega)] at hP hD
        have hP : va_P D vwCl [(h, .inr (2, [.ref q1, .ref q2, .ref q3, .int (nI wc)])), (q1, .inl (cI, 701, .inl wi)), (q2, .inl (cI, 701, .inl wst)), (q3, .inl (cZ, 700, .inl (upd wm pl 1)))] H := hP
        have hD : va_D A [(h, .inr (2, [.ref q1, .ref q2, .ref q3, .int (nI wc)])), (q1, .inl (cI, 701, .inl wi)), (q2, .inl (cI, 701, .inl wst)), (q3, .inl (cZ, 700, .inl (upd wm pl 1)))] := hD
        refine lv_iconst (v := 1) hx hb dX2_mark_29 (by decide) ?_
        refine kr _ _ _ _ _ () (by rw [if_pos hb17]) ?_ hS dX2_mark_30
        rw [if_pos hb17]
        exact hP
      · refine lv_iconst (v := 0) hx hb dX2_mark_20 (by decide) ?_
        refine kr _ _ _ _ _ () (by rw [if_neg hb17]) ?_ hS dX2_mark_21
        rw [if_neg hb17]
        exact hP
set_option maxHeartbeats 4000000 in
set_option maxRecDepth 100000 in
theorem c_X2_comeTo (l : Launch) (D : va_G) (cI cZ cO cC : ClassId) (h q1 q2 q3 wc : Nat) (wi wst wm : Nat → Int32) (x1 x2 : Int32) (h1 : wc ≤ 700) : tt_Mutv (S := Unit) l yX2_comeTo wsX2_comeTo ({ frames := 0, cells := 0, slots := 0, locals := 0 } : Room) D (tt_tys cI cZ cO cC) false [(h, .inr (2, [.ref q1, .ref q2, .ref q3, .int (nI wc)])), (q1, .inl (cI, 701, .inl wi)), (q2, .inl (cI, 701, .inl wst)), (q3, .inl (cZ, 700, .inl wm))] [.ref h, .int x1, .int x2] (fun _ => True) (fun _ => [(h, .inr (2, [.ref q1, .ref q2, .ref q3, .int (nI (wc + 1))])), (q1, .inl (cI, 701, .inl (upd wi wc x1))), (q2, .inl (cI, 701, .inl (upd wst wc x2))), (q3, .inl (cZ, 700, .inl wm))]) := by
  refine tt_mutv (cc := cX2_comeTo) (maxL := 3) (by decide) rfl (Nat.le_of_ble_eq_true rfl) ?_
  intro p e s m below meth c Q ls A hfix hK hP hD hA hE hl kr
  obtain ⟨hx, hb, hml, hown, hts⟩ := id hfix
  have hown : s.vm.findClass RX2 = some m.cls := hown
  have hfix : CallFix p m c cX2_comeTo 3 s ([.ref h, .int x1, .int x2] : List Value).toArray wsX2_comeTo RX2 := hfix
  have hl : lv_has ls 3 [(0, .ref h), (1, .int x1), (2, .int x2)] := hl
  have hf22 := hts (.fieldLink RX2 22 "TripleTrees$Walk" "count" "I") (by decide +kernel)
  have hf9 := hts (.fieldLink RX2 9 "TripleTrees$Walk" "ints" "[I") (by decide +kernel)
  have hf15 := hts (.fieldLink RX2 15 "TripleTrees$Walk" "steps" "[I") (by decide +kernel)
  have hinX2 : ∀ w ∈ u_ws RX2 TX2 4, w ∈ wsX2_comeTo := by decide +kernel
  have hS : va_S A s.heap s.heap [] := va_S.rf
  refine lv_aload_n hx hb dX2_comeTo_0 rfl (lv_at hl 0 rfl) ?_
  refine va_get (D := D) (ci := 2) (v := .int (nI wc)) (C := RX2) (T := TX2) (N := 4) hx hb hts hinX2 hown hK hP 0 rfl rfl 3 (by decide) hf22 (fun _ h9 => h9) rfl dX2_comeTo_1 ?_
  refine lv_sipush (v := 700) hx hb dX2_comeTo_4 (by decide) ?_
  refine lv_icmp_gt (tgt := 40) hx hb dX2_comeTo_7 (by decide) (fun hb7 => ?_) (fun hb7 => ?_)
  · have hb7 : 700 < wc := (nI_ltI (a := 700) (b := wc) (by omega) (by omega)).mp hb7
    exact absurd hb7 (by omega)
  · have hb7 : ¬ 700 < wc := fun hz9 => hb7 ((nI_ltI (a := 700) (b := wc) (by omega) (by omega)).mpr hz9)
    refine lv_aload_n hx hb dX2_comeTo_10 rfl (lv_at hl 0 rfl) ?_
    refine va_get (D := D) (ci := 2) (v := .ref q1) (C := RX2) (T := TX2) (N := 4) hx hb hts hinX2 hown hK hP 0 rfl rfl 0 (by decide) hf9 (fun _ h9 => h9) rfl dX2_comeTo_11 ?_
    refine lv_aload_n hx hb dX2_comeTo_14 rfl (lv_at hl 0 rfl) ?_
    refine va_get (D := D) (ci := 2) (v := .int (nI wc)) (C := RX2) (T := TX2) (N := 4) hx hb hts hinX2 hown hK hP 0 rfl rfl 3 (by decide) hf22 (fun _ h9 => h9) rfl dX2_comeTo_15 ?_
    refine lv_iload_n hx hb dX2_comeTo_18 rfl (lv_at hl 1 rfl) ?_
    refine va_iast hx hb hK hP hD hS 1 0 rfl rfl (vp_in_nI (n := wc) (by omega) (by omega)) dX2_comeTo_19 (fun H locs hP hD hS => ?_)
    rw [nI_clamp (n := wc) (by omega)] at hP hD
    have hP : va_P D vwCl [(h, .inr (2, [.ref q1, .ref q2, .ref q3, .int (nI wc)])), (q1, .inl (cI, 701, .inl (upd wi wc x1))), (q2, .inl (cI, 701, .inl wst)), (q3, .inl (cZ, 700, .inl wm))] H := hP
    have hD : va_D A [(h, .inr (2, [.ref q1, .ref q2, .ref q3, .int (nI wc)])), (q1, .inl (cI, 701, .inl (upd wi wc x1))), (q2, .inl (cI, 701, .inl wst)), (q3, .inl (cZ, 700, .inl wm))] := hD
    refine lv_aload_n hx hb dX2_comeTo_20 rfl (lv_at hl 0 rfl) ?_
    refine va_get (D := D) (ci := 2) (v := .ref q2) (C := RX2) (T := TX2) (N := 4) hx hb hts hinX2 hown hK hP 0 rfl rfl 1 (by decide) hf15 (fun _ h9 => h9) rfl dX2_comeTo_21 ?_
    refine lv_aload_n hx hb dX2_comeTo_24 rfl (lv_at hl 0 rfl) ?_
    refine va_get (D := D) (ci := 2) (v := .int (nI wc)) (C := RX2) (T := TX2) (N := 4) hx hb hts hinX2 hown hK hP 0 rfl rfl 3 (by decide) hf22 (fun _ h9 => h9) rfl dX2_comeTo_25 ?_
    refine lv_iload_n hx hb dX2_comeTo_28 rfl (lv_at hl 2 rfl) ?_
    refine va_iast hx hb hK hP hD hS 2 0 rfl rfl (vp_in_nI (n := wc) (by omega) (by omega)) dX2_comeTo_29 (fun H locs hP hD hS => ?_)
    rw [nI_clamp (n := wc) (by omega)] at hP hD
    have hP : va_P D vwCl [(h, .inr (2, [.ref q1, .ref q2, .ref q3, .int (nI wc)])), (q1, .inl (cI, 701, .inl (upd wi wc x1))), (q2, .inl (cI, 701, .inl (upd wst wc x2))), (q3, .inl (cZ, 700, .inl wm))] H := hP
    have hD : va_D A [(h, .inr (2, [.ref q1, .ref q2, .ref q3, .int (nI wc)])), (q1, .inl (cI, 701, .inl (upd wi wc x1))), (q2, .inl (cI, 701, .inl (upd wst wc x2))), (q3, .inl (cZ, 700, .inl wm))] := hD
    refine lv_aload_n hx hb dX2_comeTo_30 rfl (lv_at hl 0 rfl) ?_
    refine lv_dup hx hb dX2_comeTo_31 rfl ?_
    refine va_get (D := D) (ci := 2) (v := .int (nI wc)) (C := RX2) (T := TX2) (N := 4) hx hb hts hinX2 hown hK hP 0 rfl rfl 3 (by decide) hf22 (fun _ h9 => h9) rfl dX2_comeTo_32 ?_
    refine lv_iconst (v := 1) hx hb dX2_comeTo_35 (by decide) ?_
    refine lv_iadd hx hb dX2_comeTo_36 ?_
    refine tt_rei (show ((nI wc) + 1) = nI (wc + 1) from nI_add wc 1) ?_
    refine va_put (D := D) (ci := 2) (v := .int (nI (wc + 1))) (ty := .int) (C := RX2) (T := TX2) (N := 4) hx hb hts hinX2 tyX2 tyX2_ok nmX2 hown hK hP hD hS 0 rfl rfl 3 (by decide) hf22 (fun _ h9 => h9) rfl (by decide +kernel) rfl rfl (Nat.le_of_ble_eq_true rfl) dX2_comeTo_37 (fun H locs hP hD hS => ?_)
    have hP : va_P D vwCl [(h, .inr (2, [.ref q1, .ref q2, .ref q3, .int (nI (wc + 1))])), (q1, .inl (cI, 701, .inl (upd wi wc x1))), (q2, .inl (cI, 701, .inl (upd wst wc x2))), (q3, .inl (cZ, 700, .inl wm))] H := hP
    have hD : va_D A [(h, .inr (2, [.ref q1, .ref q2, .ref q3, .int (nI (wc + 1))])), (q1, .inl (cI, 701, .inl (upd wi wc x1))), (q2, .inl (cI, 701, .inl (upd wst wc x2))), (q3, .inl (cZ, 700, .inl wm))] := hD
    exact kr _ _ _ _ () trivial hP hS dX2_comeTo_40
set_option maxHeartbeats 4000000 in
set_option maxRecDepth 100000 in
theorem c_X2_stepsTo (l : Launch) (D : va_G) (cI cZ cO cC : ClassId) (h q1 q2 q3 wc : Nat) (wi wst wm : Nat → Int32) (x1 : Int32) (r : Nat) (h1 : wc ≤ 701) (hr : tt_ff wi wc x1 r) : tt_Pure l yX2_stepsTo wsX2_stepsTo ({ frames := 0, cells := 0, slots := 0, locals := 0 } : Room) D (tt_tys cI cZ cO cC) false [(h, .inr (2, [.ref q1, .ref q2, .ref q3, .int (nI wc)])), (q1, .inl (cI, 701, .inl wi)), (q2, .inl (cI, 701, .inl wst)), (q3, .inl (cZ, 700, .inl wm))] [.ref h, .int x1] (if r < wc then wst r else (-1)) := by
  refine tt_pure (cc := cX2_stepsTo) (maxL := 3) (rt := .int) (by decide) rfl (rfl) (Nat.le_of_ble_eq_true rfl) ?_
  intro p e s m below meth c Q ls hfix hK hP hE hl kr
  obtain ⟨hx, hb, hml, hown, hts⟩ := id hfix
  have hown : s.vm.findClass RX2 = some m.cls := hown
  have hfix : CallFix p m c cX2_stepsTo 3 s ([.ref h, .int x1] : List Value).toArray wsX2_stepsTo RX2 := hfix
  have hl : lv_has ls 3 [(0, .ref h), (1, .int x1)] := hl
  have hf22 := hts (.fieldLink RX2 22 "TripleTrees$Walk" "count" "I") (by decide +kernel)
  have hf9 := hts (.fieldLink RX2 9 "TripleTrees$Walk" "ints" "[I") (by decide +kernel)
  have hf15 := hts (.fieldLink RX2 15 "TripleTrees$Walk" "steps" "[I") (by decide +kernel)
  have hinX2 : ∀ w ∈ u_ws RX2 TX2 4, w ∈ wsX2_stepsTo := by decide +kernel
  have hS : va_S (fun _ => False) s.heap s.heap [] := va_S.rf
  have loop : ∀ (d i : Nat), (d + i = wc) → (i ≤ r) → ∀ (H : Heap) (locs : List Loc) (ls : Array Slot), va_P D vwCl [(h, .inr (2, [.ref q1, .ref q2, .ref q3, .int (nI wc)])), (q1, .inl (cI, 701, .inl wi)), (q2, .inl (cI, 701, .inl wst)), (q3, .inl (cZ, 700, .inl wm))] H → va_S (fun _ => False) s.heap H locs → lv_has ls 3 [(2, .int (nI i)), (0, .ref h), (1, .int x1)] → W p l e ({ frames := 0, cells := 0, slots := 0, locals := 0 } : Room) s m ([.ref h, .int x1] : List Value).toArray below meth c H locs 0 0 Q (F0 m 2 ls []) := by
    intro d
    induction d with
    | zero =>
      intro i hd hi H locs ls hP hS hl
      refine lv_iload_n hx hb dX2_stepsTo_2 rfl (lv_at hl 0 rfl) ?_
      refine lv_aload_n hx hb dX2_stepsTo_3 rfl (lv_at hl 1 rfl) ?_
      refine va_get (D := D) (ci := 2) (v := .int (nI wc)) (C := RX2) (T := TX2) (N := 4) hx hb hts hinX2 hown hK hP 0 rfl rfl 3 (by decide) hf22 (fun _ h9 => h9) rfl dX2_stepsTo_4 ?_
      refine lv_icmp_ge (tgt := 40) hx hb dX2_stepsTo_7 (by decide) (fun hb7 => ?_) (fun hb7 => ?_)
      · have hb7 : wc ≤ i := (nI_leI (a := wc) (b := i) (by omega) (by omega)).mp hb7
        refine lv_iconst (v := (-1)) hx hb dX2_stepsTo_40 (by decide) ?_
        have hr1 := hr.1
        have hnr : ¬ r < wc := by omega
        refine tt_rei (show (-1 : Int32) = if r < wc then wst r else (-1) from (if_neg hnr).symm) ?_
        exact kr _ _ _ _ hS dX2_stepsTo_41
      · have hb7 : ¬ wc ≤ i := fun hz9 => hb7 ((nI_leI (a := wc) (b := i) (by omega) (by omega)).mpr hz9)
        exact absurd hb7 (by omega)
    | succ d ih =>
      intro i hd hi H locs ls hP hS hl
      refine lv_iload_n hx hb dX2_stepsTo_2 rfl (lv_at hl 0 rfl) ?_
      refine lv_aload_n hx hb dX2_stepsTo_3 rfl (lv_at hl 1 rfl) ?_
      refine va_get (D := D) (ci := 2) (v := .int (nI wc)) (C := RX2) (T := TX2) (N := 4) hx hb hts hinX2 hown hK hP 0 rfl rfl 3 (by decide) hf22 (fun _ h9 => h9) rfl dX2_stepsTo_4 ?_
      refine lv_icmp_ge (tgt := 40) hx hb dX2_stepsTo_7 (by decide) (fun hb7 => ?_) (fun hb7 => ?_)
      · have hb7 : wc ≤ i := (nI_leI (a := wc) (b := i) (by omega) (by omega)).mp hb7
        exact absurd hb7 (by omega)
      · have hb7 : ¬ wc ≤ i := fun hz9 => hb7 ((nI_leI (a := wc) (b := i) (by omega) (by omega)).mpr hz9)
        refine lv_iload_n hx hb dX2_stepsTo_10 rfl (lv_at hl 0 rfl) ?_
        refine lv_sipush (v := 700) hx hb dX2_stepsTo_11 (by decide) ?_
        refine lv_icmp_gt (tgt := 40) hx hb dX2_stepsTo_14 (by decide) (fun hb14 => ?_) (fun hb14 => ?_)
        · have hb14 : 700 < i := (nI_ltI (a := 700) (b := i) (by omega) (by omega)).mp hb14
          exact absurd hb14 (by omega)
        · have hb14 : ¬ 700 < i := fun hz9 => hb14 ((nI_ltI (a := 700) (b := i) (by omega) (by omega)).mpr hz9)
          refine lv_aload_n hx hb dX2_stepsTo_17 rfl (lv_at hl 1 rfl) ?_
          refine va_get (D := D) (ci := 2) (v := .ref q1) (C := RX2) (T := TX2) (N := 4) hx hb hts hinX2 hown hK hP 0 rfl rfl 0 (by decide) hf9 (fun _ h9 => h9) rfl dX2_stepsTo_18 ?_
          refine lv_iload_n hx hb dX2_stepsTo_21 rfl (lv_at hl 0 rfl) ?_
          refine va_iald hx hb hK hP 1 0 rfl rfl (vp_in_nI (n := i) (by omega) (by omega)) dX2_stepsTo_22 ?_
          refine tt_rei (show (wi (nI i).toNatClampNeg) = wi i from congrArg wi (nI_clamp (n := i) (by omega))) ?_
          refine lv_iload_n hx hb dX2_stepsTo_23 rfl (lv_at hl 2 rfl) ?_
          refine lv_icmp_ne (tgt := 34) hx hb dX2_stepsTo_24 (by decide) (fun hb24 => ?_) (fun hb24 => ?_)
          · refine lv_iinc (v := nI (i + 1)) (lv' := [(2, .int (nI (i + 1))), (0, .ref h), (1, .int x1)]) hx hb dX2_stepsTo_34 hl (k := 0) rfl (nI_add i 1) (by decide) rfl (fun ls hl => ?_)
            refine lv_goto (tgt := 2) hx hb dX2_stepsTo_37 (by decide) ?_
            exact ih (i + 1) (by omega) (tt_ff_lt hr hi (by omega) hb24) H locs ls hP hS (lv_sub hl [0, 1, 2] rfl)
          · refine lv_aload_n hx hb dX2_stepsTo_27 rfl (lv_at hl 1 rfl) ?_
            refine va_get (D := D) (ci := 2) (v := .ref q2) (C := RX2) (T := TX2) (N := 4) hx hb hts hinX2 hown hK hP 0 rfl rfl 1 (by decide) hf15 (fun _ h9 => h9) rfl dX2_stepsTo_28 ?_
            refine lv_iload_n hx hb dX2_stepsTo_31 rfl (lv_at hl 0 rfl) ?_
            refine va_iald hx hb hK hP 2 0 rfl rfl (vp_in_nI (n := i) (by omega) (by omega)) dX2_stepsTo_32 ?_
            refine tt_rei (show (wst (nI i).toNatClampNeg) = wst i from congrArg wst (nI_clamp (n := i) (by omega))) ?_
            have hir : i = r := tt_ff_eq hr hi (by omega) hb24
            subst hir
            refine tt_rei (show wst i = if i < wc then wst i else (-1) from (if_pos (by omega)).symm) ?_
            exact kr _ _ _ _ hS dX2_stepsTo_33
  refine lv_iconst (v := 0) hx hb dX2_stepsTo_0 (by decide) ?_
  refine lv_istore_n (lv' := [(2, .int 0), (0, .ref h), (1, .int x1)]) hx hb dX2_stepsTo_1 rfl hl (by decide) rfl (fun ls hl => ?_)
  exact loop wc 0 (by omega) (Nat.zero_le _) _ _ ls hP hS (lv_sub hl [0, 1, 2] rfl)

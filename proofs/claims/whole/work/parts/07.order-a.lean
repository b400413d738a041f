/-! own words for the order's rows -/
abbrev tt_tys (cI cZ cO cC : ClassId) : List (ClassId × FieldType) := [(cI, .int), (cZ, .boolean), (cO, .object RX1), (cC, .object RX0)]
/-- part i of a triple told as s, p, o -/
def tt_pt (i : Nat) (s p o : Int32) : Int32 := if i = 0 then s else if i = 1 then p else o
/-- -1, 0 or 1 by the first told parts alone -/
def tt_cmp (told x y z a b c : Int32) : Int32 := if ¬ told ≤ 0 ∧ ¬ x = a then (if a ≤ x then 1 else -1) else if ¬ told ≤ 1 ∧ ¬ y = b then (if b ≤ y then 1 else -1) else if ¬ told ≤ 2 ∧ ¬ z = c then (if c ≤ z then 1 else -1) else 0
/-- r is where the places with P end -/
def tt_bd (n : Nat) (P : Nat → Prop) (r : Nat) : Prop := r ≤ n ∧ (∀ j, j < r → P j) ∧ ∀ j, r ≤ j → j < n → ¬ P j
/-- part i of the triple at a place, of an order with turn k; 0 where there is none such -/
def tt_pa (n k : Nat) (f : Nat → Int32) (pl i : Int32) : Int32 := if pl < 0 ∨ nI n ≤ pl ∨ i < 0 ∨ 3 ≤ i then 0 else f (3 * pl.toNatClampNeg + (i.toNatClampNeg + 3 - k) % 3)
theorem tt_pa_in {n k j t : Nat} (f : Nat → Int32) (hj : j < n) (ht : t < 3) (hn : n ≤ 2000000) : tt_pa n k f (nI j) (nI t) = f (3 * j + (t + 3 - k) % 3) := by
  have h1 : ¬ nI j < 0 := nI_pos (by omega)
  have h2 : ¬ nI n ≤ nI j := nI_ge hj (by omega)
  have h3 : ¬ nI t < 0 := nI_pos (by omega)
  have h4 : ¬ (3 : Int32) ≤ nI t := nI_ge (b := 3) ht (by omega)
  unfold tt_pa
  rw [if_neg (by rintro (h | h | h | h) <;> contradiction), nI_clamp (by omega), nI_clamp (by omega)]
theorem tt_s3 {t k : Nat} (hk : k < 3) : nI t - nI k + 3 = nI (t + 3 - k) := by
  rw [← pk_sub (by omega), show nI (t + 3) = nI t + 3 from (nI_add t 3).symm]
  simp only [Int32.sub_eq_add_neg]
  rw [Int32.add_assoc, Int32.add_assoc, Int32.add_comm (-nI k)]
set_option maxHeartbeats 4000000 in
set_option maxRecDepth 100000 in
theorem c_X1_turned (l : Launch) (D : va_G) (cI cZ cO cC : ClassId) (h q k n : Nat) (f : Nat → Int32) (t : Nat) (s1 p1 o1 : Int32) (hk : k < 3) (ht : t < 3) : tt_Pure l yX1_turned wsX1_turned ({ frames := 0, cells := 0, slots := 0, locals := 0 } : Room) D (tt_tys cI cZ cO cC) false [(h, .inr (1, [.int (nI k), .ref q, .int (nI n)])), (q, .inl (cI, 2100, .inl f))] [.ref h, .int (nI t), .int s1, .int p1, .int o1] (tt_pt ((k + t) % 3) s1 p1 o1) := by
  refine tt_pure (cc := cX1_turned) (maxL := 6) (rt := .int) (by decide) rfl (rfl) (Nat.le_of_ble_eq_true rfl) ?_
  intro p e s m below meth c Q ls hfix hK hP hE hl kr
  obtain ⟨hx, hb, hml, hown, hts⟩ := id hfix
  have hown : s.vm.findClass RX1 = some m.cls := hown
  have hfix : CallFix p m c cX1_turned 6 s ([.ref h, .int (nI t), .int s1, .int p1, .int o1] : List Value).toArray wsX1_turned RX1 := hfix
  have hl : lv_has ls 6 [(0, .ref h), (1, .int (nI t)), (2, .int s1), (3, .int p1), (4, .int o1)] := hl
  have hf15 := hts (.fieldLink RX1 15 "TripleTrees$Order" "turn" "I") (by decide +kernel)
  have hinX1 : ∀ w ∈ u_ws RX1 TX1 3, w ∈ wsX1_turned := by decide +kernel
  have hS : va_S (fun _ => False) s.heap s.heap [] := va_S.rf
  refine lv_aload_n hx hb dX1_turned_0 rfl (lv_at hl 0 rfl) ?_
  refine va_get (D := D) (ci := 1) (v := .int (nI k)) (C := RX1) (T := TX1) (N := 3) hx hb hts hinX1 hown hK hP 0 rfl rfl 0 (by decide) hf15 (fun _ h9 => h9) rfl dX1_turned_1 ?_
  refine lv_iload_n hx hb dX1_turned_4 rfl (lv_at hl 1 rfl) ?_
  refine lv_iadd hx hb dX1_turned_5 ?_
  refine tt_rei (show ((nI k) + (nI t)) = nI (k + t) from nI_add k t) ?_
  refine lv_iconst (v := 3) hx hb dX1_turned_6 (by decide) ?_
  refine lv_irem hx hb dX1_turned_7 (by decide) ?_
  refine tt_rei (show ((nI (k + t)) - (nI (k + t)) / 3 * 3) = nI ((k + t) % 3) from pk_rem (a := k + t) (d := 3) (by omega) (by omega) (by omega)) ?_
  refine lv_istore (lv' := [(5, .int (nI ((k + t) % 3))), (0, .ref h), (1, .int (nI t)), (2, .int s1), (3, .int p1), (4, .int o1)]) hx hb dX1_turned_8 hl (by decide) rfl (fun ls hl => ?_)
  refine lv_iload hx hb dX1_turned_10 (lv_at hl 0 rfl) ?_
  refine lv_if_ne (tgt := 17) hx hb dX1_turned_12 (by decide) (fun hb12 => ?_) (fun hb12 => ?_)
  · have hb12 : ¬ (k + t) % 3 = 0 := fun hz9 => hb12 ((nI_eq (a := (k + t) % 3) (b := 0) (by omega) (by omega)).mpr hz9)
    refine lv_iload hx hb dX1_turned_17 (lv_at hl 0 rfl) ?_
    refine lv_iconst (v := 1) hx hb dX1_turned_19 (by decide) ?_
    refine lv_icmp_ne (tgt := 27) hx hb dX1_turned_20 (by decide) (fun hb20 => ?_) (fun hb20 => ?_)
    · have hb20 : ¬ (k + t) % 3 = 1 := fun hz9 => hb20 ((nI_eq (a := (k + t) % 3) (b := 1) (by omega) (by omega)).mpr hz9)
      refine lv_iload hx hb dX1_turned_27 (lv_at hl 5 rfl) ?_
      refine tt_rei (show o1 = tt_pt ((k + t) % 3) s1 p1 o1 from by simp [tt_pt, hb12, hb20]) ?_
      exact kr _ _ _ _ hS dX1_turned_29
    · have hb20 : (k + t) % 3 = 1 := (nI_eq (a := (k + t) % 3) (b := 1) (by omega) (by omega)).mp hb20
      refine lv_iload_n hx hb dX1_turned_23 rfl (lv_at hl 4 rfl) ?_
      refine lv_goto (tgt := 29) hx hb dX1_turned_24 (by decide) ?_
      refine tt_rei (show p1 = tt_pt ((k + t) % 3) s1 p1 o1 from by simp [tt_pt, hb12, hb20]) ?_
      exact kr _ _ _ _ hS dX1_turned_29
  · have hb12 : (k + t) % 3 = 0 := (nI_eq (a := (k + t) % 3) (b := 0) (by omega) (by omega)).mp hb12
    refine lv_iload_n hx hb dX1_turned_15 rfl (lv_at hl 3 rfl) ?_
    refine tt_rei (show s1 = tt_pt ((k + t) % 3) s1 p1 o1 from by simp [tt_pt, hb12]) ?_
    exact kr _ _ _ _ hS dX1_turned_16
set_option maxHeartbeats 4000000 in
set_option maxRecDepth 100000 in
theorem c_X1_compareAt (l : Launch) (D : va_G) (cI cZ cO cC : ClassId) (h q k n : Nat) (f : Nat → Int32) (j : Nat) (told a b c1 : Int32) (hj : j < 700) : tt_Pure l yX1_compareAt wsX1_compareAt ({ frames := 0, cells := 0, slots := 0, locals := 0 } : Room) D (tt_tys cI cZ cO cC) false [(h, .inr (1, [.int (nI k), .ref q, .int (nI n)])), (q, .inl (cI, 2100, .inl f))] [.ref h, .int (nI j), .int told, .int a, .int b, .int c1] (tt_cmp told (f (3 * j)) (f (3 * j + 1)) (f (3 * j + 2)) a b c1) := by
  refine tt_pure (cc := cX1_compareAt) (maxL := 7) (rt := .int) (by decide) rfl (rfl) (Nat.le_of_ble_eq_true rfl) ?_
  intro p e s m below meth c Q ls hfix hK hP hE hl kr
  obtain ⟨hx, hb, hml, hown, hts⟩ := id hfix
  have hown : s.vm.findClass RX1 = some m.cls := hown
  have hfix : CallFix p m c cX1_compareAt 7 s ([.ref h, .int (nI j), .int told, .int a, .int b, .int c1] : List Value).toArray wsX1_compareAt RX1 := hfix
  have hl : lv_has ls 7 [(0, .ref h), (1, .int (nI j)), (2, .int told), (3, .int a), (4, .int b), (5, .int c1)] := hl
  have hf9 := hts (.fieldLink RX1 9 "TripleTrees$Order" "parts" "[I") (by decide +kernel)
  have hinX1 : ∀ w ∈ u_ws RX1 TX1 3, w ∈ wsX1_compareAt := by decide +kernel
  have hS : va_S (fun _ => False) s.heap s.heap [] := va_S.rf
  refine lv_iconst (v := 3) hx hb dX1_compareAt_0 (by decide) ?_
  refine lv_iload_n hx hb dX1_compareAt_1 rfl (lv_at hl 1 rfl) ?_
  refine lv_imul hx hb dX1_compareAt_2 ?_
  refine tt_rei (show (3 * (nI j)) = nI (3 * j) from pk_mul 3 j) ?_
  refine lv_istore (lv' := [(6, .int (nI (3 * j))), (0, .ref h), (1, .int (nI j)), (2, .int told), (3, .int a), (4, .int b), (5, .int c1)]) hx hb dX1_compareAt_3 hl (by decide) rfl (fun ls hl => ?_)
  refine lv_iload_n hx hb dX1_compareAt_5 rfl (lv_at hl 3 rfl) ?_
  refine lv_if_le (tgt := 37) hx hb dX1_compareAt_6 (by decide) (fun hb6 => ?_) (fun hb6 => ?_)
  · refine lv_iload_n hx hb dX1_compareAt_37 rfl (lv_at hl 3 rfl) ?_
    refine lv_iconst (v := 1) hx hb dX1_compareAt_38 (by decide) ?_
    refine lv_icmp_le (tgt := 76) hx hb dX1_compareAt_39 (by decide) (fun hb39 => ?_) (fun hb39 => ?_)
    · refine lv_iload_n hx hb dX1_compareAt_76 rfl (lv_at hl 3 rfl) ?_
      refine lv_iconst (v := 2) hx hb dX1_compareAt_77 (by decide) ?_
      refine lv_icmp_le (tgt := 115) hx hb dX1_compareAt_78 (by decide) (fun hb78 => ?_) (fun hb78 => ?_)
      · refine lv_iconst (v := 0) hx hb dX1_compareAt_115 (by decide) ?_
        refine tt_rei (show 0 = tt_cmp told (f (3 * j)) (f (3 * j + 1)) (f (3 * j + 2)) a b c1 from by simp [tt_cmp, hb6, hb39, hb78]) ?_
        exact kr _ _ _ _ hS dX1_compareAt_116
      · refine lv_aload_n hx hb dX1_compareAt_81 rfl (lv_at hl 1 rfl) ?_
        refine va_get (D := D) (ci := 1) (v := .ref q) (C := RX1) (T := TX1) (N := 3) hx hb hts hinX1 hown hK hP 0 rfl rfl 1 (by decide) hf9 (fun _ h9 => h9) rfl dX1_compareAt_82 ?_
        refine lv_iload hx hb dX1_compareAt_85 (lv_at hl 0 rfl) ?_
        refine lv_iconst (v := 2) hx hb dX1_compareAt_87 (by decide) ?_
        refine lv_iadd hx hb dX1_compareAt_88 ?_
        refine tt_rei (show ((nI (3 * j)) + 2) = nI (3 * j + 2) from nI_add (3 * j) 2) ?_
        refine va_iald hx hb hK hP 1 0 rfl rfl (vp_in_nI (n := 3 * j + 2) (by omega) (by omega)) dX1_compareAt_89 ?_
        refine tt_rei (show (f (nI (3 * j + 2)).toNatClampNeg) = f (3 * j + 2) from congrArg f (nI_clamp (n := 3 * j + 2) (by omega))) ?_
        refine lv_iload hx hb dX1_compareAt_90 (lv_at hl 6 rfl) ?_
        refine lv_icmp_eq (tgt := 115) hx hb dX1_compareAt_92 (by decide) (fun hb92 => ?_) (fun hb92 => ?_)
        · refine lv_iconst (v := 0) hx hb dX1_compareAt_115 (by decide) ?_
          refine tt_rei (show 0 = tt_cmp told (f (3 * j)) (f (3 * j + 1)) (f (3 * j + 2)) a b c1 from by simp [tt_cmp, hb6, hb39, hb78, hb92]) ?_
          exact kr _ _ _ _ hS dX1_compareAt_116
        · refine lv_aload_n hx hb dX1_compareAt_95 rfl (lv_at hl 1 rfl) ?_
          refine va_get (D := D) (ci := 1) (v := .ref q) (C := RX1) (T := TX1) (N := 3) hx hb hts hinX1 hown hK hP 0 rfl rfl 1 (by decide) hf9 (fun _ h9 => h9) rfl dX1_compareAt_96 ?_
          refine lv_iload hx hb dX1_compareAt_99 (lv_at hl 0 rfl) ?_
          refine lv_iconst (v := 2) hx hb dX1_compareAt_101 (by decide) ?_
          refine lv_iadd hx hb dX1_compareAt_102 ?_
          refine tt_rei (show ((nI (3 * j)) + 2) = nI (3 * j + 2) from nI_add (3 * j) 2) ?_
          refine va_iald hx hb hK hP 1 0 rfl rfl (vp_in_nI (n := 3 * j + 2) (by omega) (by omega)) dX1_compareAt_103 ?_
          refine tt_rei (show (f (nI (3 * j + 2)).toNatClampNeg) = f (3 * j + 2) from congrArg f (nI_clamp (n := 3 * j + 2) (by omega))) ?_
          refine lv_iload hx hb dX1_compareAt_104 (lv_at hl 6 rfl) ?_
          refine lv_icmp_ge (tgt := 113) hx hb dX1_compareAt_106 (by decide) (fun hb106 => ?_) (fun hb106 => ?_)
          · refine lv_iconst (v := 1) hx hb dX1_compareAt_113 (by decide) ?_
            refine tt_rei (show 1 = tt_cmp told (f (3 * j)) (f (3 * j + 1)) (f (3 * j + 2)) a b c1 from by simp [tt_cmp, hb6, hb39, hb78, hb92, hb106]) ?_
            exact kr _ _ _ _ hS dX1_compareAt_114
          · refine lv_iconst (v := (-1)) hx hb dX1_compareAt_109 (by decide) ?_
            refine lv_goto (tgt := 114) hx hb dX1_compareAt_110 (by decide) ?_
            refine tt_rei (show (-1) = tt_cmp told (f (3 * j)) (f (3 * j + 1)) (f (3 * j + 2)) a b c1 from by simp [tt_cmp, hb6, hb39, hb78, hb92, hb106]) ?_
            exact kr _ _ _ _ hS dX1_compareAt_114
    · refine lv_aload_n hx hb dX1_compareAt_42 rfl (lv_at hl 1 rfl) ?_
      refine va_get (D := D) (ci := 1) (v := .ref q) (C := RX1) (T := TX1) (N := 3) hx hb hts hinX1 hown hK hP 0 rfl rfl 1 (by decide) hf9 (fun _ h9 => h9) rfl dX1_compareAt_43 ?_
      refine lv_iload hx hb dX1_compareAt_46 (lv_at hl 0 rfl) ?_
      refine lv_iconst (v := 1) hx hb dX1_compareAt_48 (by decide) ?_
      refine lv_iadd hx hb dX1_compareAt_49 ?_
      refine tt_rei (show ((nI (3 * j)) + 1) = nI (3 * j + 1) from nI_add (3 * j) 1) ?_
      refine va_iald hx hb hK hP 1 0 rfl rfl (vp_in_nI (n := 3 * j + 1) (by omega) (by omega)) dX1_compareAt_50 ?_
      refine tt_rei (show (f (nI (3 * j + 1)).toNatClampNeg) = f (3 * j + 1) from congrArg f (nI_clamp (n := 3 * j + 1) (by omega))) ?_
      refine lv_iload hx hb dX1_compareAt_51 (lv_at hl 5 rfl) ?_
      refine lv_icmp_eq (tgt := 76) hx hb dX1_compareAt_53 (by decide) (fun hb53 => ?_) (fun hb53 => ?_)
      · refine lv_iload_n hx hb dX1_compareAt_76 rfl (lv_at hl 3 rfl) ?_
        refine lv_iconst (v := 2) hx hb dX1_compareAt_77 (by decide) ?_
        refine lv_icmp_le (tgt := 115) hx hb dX1_compareAt_78 (by decide) (fun hb78 => ?_) (fun hb78 => ?_)
        · refine lv_iconst (v := 0) hx hb dX1_compareAt_115 (by decide) ?_
          refine tt_rei (show 0 = tt_cmp told (f (3 * j)) (f (3 * j + 1)) (f (3 * j + 2)) a b c1 from by simp [tt_cmp, hb6, hb39, hb53, hb78]) ?_
          exact kr _ _ _ _ hS dX1_compareAt_116
        · refine lv_aload_n hx hb dX1_compareAt_81 rfl (lv_at hl 1 rfl) ?_
          refine va_get (D := D) (ci := 1) (v := .ref q) (C := RX1) (T := TX1) (N := 3) hx hb hts hinX1 hown hK hP 0 rfl rfl 1 (by decide) hf9 (fun _ h9 => h9) rfl dX1_compareAt_82 ?_
          refine lv_iload hx hb dX1_compareAt_85 (lv_at hl 0 rfl) ?_
          refine lv_iconst (v := 2) hx hb dX1_compareAt_87 (by decide) ?_
          refine lv_iadd hx hb dX1_compareAt_88 ?_
          refine tt_rei (show ((nI (3 * j)) + 2) = nI (3 * j + 2) from nI_add (3 * j) 2) ?_
          refine va_iald hx hb hK hP 1 0 rfl rfl (vp_in_nI (n := 3 * j + 2) (by omega) (by omega)) dX1_compareAt_89 ?_
          refine tt_rei (show (f (nI (3 * j + 2)).toNatClampNeg) = f (3 * j + 2) from congrArg f (nI_clamp (n := 3 * j + 2) (by omega))) ?_
          refine lv_iload hx hb dX1_compareAt_90 (lv_at hl 6 rfl) ?_
          refine lv_icmp_eq (tgt := 115) hx hb dX1_compareAt_92 (by decide) (fun hb92 => ?_) (fun hb92 => ?_)
          · refine lv_iconst (v := 0) hx hb dX1_compareAt_115 (by decide) ?_
            refine tt_rei (show 0 = tt_cmp told (f (3 * j)) (f (3 * j + 1)) (f (3 * j + 2)) a b c1 from by simp [tt_cmp, hb6, hb39, hb53, hb78, hb92]) ?_
            exact kr _ _ _ _ hS dX1_compareAt_116
          · refine lv_aload_n hx hb dX1_compareAt_95 rfl (lv_at hl 1 rfl) ?_
            refine va_get (D := D) (ci := 1) (v := .ref q) (C := RX1) (T := TX1) (N := 3) hx hb hts hinX1 hown hK hP 0 rfl rfl 1 (by decide) hf9 (fun _ h9 => h9) rfl dX1_compareAt_96 ?_
            refine lv_iload hx hb dX1_compareAt_99 (lv_at hl 0 rfl) ?_
            refine lv_iconst (v := 2) hx hb dX1_compareAt_101 (by decide) ?_
            refine lv_iadd hx hb dX1_compareAt_102 ?_
            refine tt_rei (show ((nI (3 * j)) + 2) = nI (3 * j + 2) from nI_add (3 * j) 2) ?_
            refine va_iald hx hb hK hP 1 0 rfl rfl (vp_in_nI (n := 3 * j + 2) (by omega) (by omega)) dX1_compareAt_103 ?_
            refine tt_rei (show (f (nI (3 * j + 2)).toNatClampNeg) = f (3 * j + 2) from congrArg f (nI_clamp (n := 3 * j + 2) (by omega))) ?_
            refine lv_iload hx hb dX1_compareAt_104 (lv_at hl 6 rfl) ?_
            refine lv_icmp_ge (tgt := 113) hx hb dX1_compareAt_106 (by decide) (fun hb106 => ?_) (fun hb106 => ?_)
            · refine lv_iconst (v := 1) hx hb dX1_compareAt_113 (by decide) ?_
              refine tt_rei (show 1 = tt_cmp told (f (3 * j)) (f (3 * j + 1)) (f (3 * j + 2)) a b c1 from by simp [tt_cmp, hb6, hb39, hb53, hb78, hb92, hb106]) ?_
              exact kr _ _ _ _ hS dX1_compareAt_114
            · refine lv_iconst (v := (-1)) hx hb dX1_compareAt_109 (by decide) ?_
              refine lv_goto (tgt := 114) hx hb dX1_compareAt_110 (by decide) ?_
              refine tt_rei (show (-1) = tt_cmp told (f (3 * j)) (f (3 * j + 1)) (f (3 * j + 2)) a b c1 from by simp [tt_cmp, hb6, hb39, hb53, hb78, hb92, hb106]) ?_
              exact kr _ _ _ _ hS dX1_compareAt_114
      · refine lv_aload_n hx hb dX1_compareAt_56 rfl (lv_at hl 1 rfl) ?_
        refine va_get (D := D) (ci := 1) (v := .ref q) (C := RX1) (T := TX1) (N := 3) hx hb hts hinX1 hown hK hP 0 rfl rfl 1 (by decide) hf9 (fun _ h9 => h9) rfl dX1_compareAt_57 ?_
        refine lv_iload hx hb dX1_compareAt_60 (lv_at hl 0 rfl) ?_
        refine lv_iconst (v := 1) hx hb dX1_compareAt_62 (by decide) ?_
        refine lv_iadd hx hb dX1_compareAt_63 ?_
        refine tt_rei (show ((nI (3 * j)) + 1) = nI (3 * j + 1) from nI_add (3 * j) 1) ?_
        refine va_iald hx hb hK hP 1 0 rfl rfl (vp_in_nI (n := 3 * j + 1) (by omega) (by omega)) dX1_compareAt_64 ?_
        refine tt_rei (show (f (nI (3 * j + 1)).toNatClampNeg) = f (3 * j + 1) from congrArg f (nI_clamp (n := 3 * j + 1) (by omega))) ?_
        refine lv_iload hx hb dX1_compareAt_65 (lv_at hl 5 rfl) ?_
        refine lv_icmp_ge (tgt := 74) hx hb dX1_compareAt_67 (by decide) (fun hb67 => ?_) (fun hb67 => ?_)
        · refine lv_iconst (v := 1) hx hb dX1_compareAt_74 (by decide) ?_
          refine tt_rei (show 1 = tt_cmp told (f (3 * j)) (f (3 * j + 1)) (f (3 * j + 2)) a b c1 from by simp [tt_cmp, hb6, hb39, hb53, hb67]) ?_
          exact kr _ _ _ _ hS dX1_compareAt_75
        · refine lv_iconst (v := (-1)) hx hb dX1_compareAt_70 (by decide) ?_
          refine lv_goto (tgt := 75) hx hb dX1_compareAt_71 (by decide) ?_
          refine tt_rei (show (-1) = tt_cmp told (f (3 * j)) (f (3 * j + 1)) (f (3 * j + 2)) a b c1 from by simp [tt_cmp, hb6, hb39, hb53, hb67]) ?_
          exact kr _ _ _ _ hS dX1_compareAt_75
  · refine lv_aload_n hx hb dX1_compareAt_9 rfl (lv_at hl 1 rfl) ?_
    refine va_get (D := D) (ci := 1) (v := .ref q) (C := RX1) (T := TX1) (N := 3) hx hb hts hinX1 hown hK hP 0 rfl rfl 1 (by decide) hf9 (fun _ h9 => h9) rfl dX1_compareAt_10 ?_
    refine lv_iload hx hb dX1_compareAt_13 (lv_at hl 0 rfl) ?_
    refine va_iald hx hb hK hP 1 0 rfl rfl (vp_in_nI (n := 3 * j) (by omega) (by omega)) dX1_compareAt_15 ?_
    refine tt_rei (show (f (nI (3 * j)).toNatClampNeg) = f (3 * j) from congrArg f (nI_clamp (n := 3 * j) (by omega))) ?_
    refine lv_iload_n hx hb dX1_compareAt_16 rfl (lv_at hl 4 rfl) ?_
    refine lv_icmp_eq (tgt := 37) hx hb dX1_compareAt_17 (by decide) (fun hb17 => ?_) (fun hb17 => ?_)
    · refine lv_iload_n hx hb dX1_compareAt_37 rfl (lv_at hl 3 rfl) ?_
      refine lv_iconst (v := 1) hx hb dX1_compareAt_38 (by decide) ?_
      refine lv_icmp_le (tgt := 76) hx hb dX1_compareAt_39 (by decide) (fun hb39 => ?_) (fun hb39 => ?_)
      · refine lv_iload_n hx hb dX1_compareAt_76 rfl (lv_at hl 3 rfl) ?_
        refine lv_iconst (v := 2) hx hb dX1_compareAt_77 (by decide) ?_
        refine lv_icmp_le (tgt := 115) hx hb dX1_compareAt_78 (by decide) (fun hb78 => ?_) (fun hb78 => ?_)
        · refine lv_iconst (v := 0) hx hb dX1_compareAt_115 (by decide) ?_
          refine tt_rei (show 0 = tt_cmp told (f (3 * j)) (f (3 * j + 1)) (f (3 * j + 2)) a b c1 from by simp [tt_cmp, hb6, hb17, hb39, hb78]) ?_
          exact kr _ _ _ _ hS dX1_compareAt_116
        · refine lv_aload_n hx hb dX1_compareAt_81 rfl (lv_at hl 1 rfl) ?_
          refine va_get (D := D) (ci := 1) (v := .ref q) (C := RX1) (T := TX1) (N := 3) hx hb hts hinX1 hown hK hP 0 rfl rfl 1 (by decide) hf9 (fun _ h9 => h9) rfl dX1_compareAt_82 ?_
          refine lv_iload hx hb dX1_compareAt_85 (lv_at hl 0 rfl) ?_
          refine lv_iconst (v := 2) hx hb dX1_compareAt_87 (by decide) ?_
          refine lv_iadd hx hb dX1_compareAt_88 ?_
          refine tt_rei (show ((nI (3 * j)) + 2) = nI (3 * j + 2) from nI_add (3 * j) 2) ?_
          refine va_iald hx hb hK hP 1 0 rfl rfl (vp_in_nI (n := 3 * j + 2) (by omega) (by omega)) dX1_compareAt_89 ?_
          refine tt_rei (show (f (nI (3 * j + 2)).toNatClampNeg) = f (3 * j + 2) from congrArg f (nI_clamp (n := 3 * j + 2) (by omega))) ?_
          refine lv_iload hx hb dX1_compareAt_90 (lv_at hl 6 rfl) ?_
          refine lv_icmp_eq (tgt := 115) hx hb dX1_compareAt_92 (by decide) (fun hb92 => ?_) (fun hb92 => ?_)
          · refine lv_iconst (v := 0) hx hb dX1_compareAt_115 (by decide) ?_
            refine tt_rei (show 0 = tt_cmp told (f (3 * j)) (f (3 * j + 1)) (f (3 * j + 2)) a b c1 from by simp [tt_cmp, hb6, hb17, hb39, hb78, hb92]) ?_
            exact kr _ _ _ _ hS dX1_compareAt_116
          · refine lv_aload_n hx hb dX1_compareAt_95 rfl (lv_at hl 1 rfl) ?_
            refine va_get (D := D) (ci := 1) (v := .ref q) (C := RX1) (T := TX1) (N := 3) hx hb hts hinX1 hown hK hP 0 rfl rfl 1 (by decide) hf9 (fun _ h9 => h9) rfl dX1_compareAt_96 ?_
            refine lv_iload hx hb dX1_compareAt_99 (lv_at hl 0 rfl) ?_
            refine lv_iconst (v := 2) hx hb dX1_compareAt_101 (by decide) ?_
            refine lv_iadd hx hb dX1_compareAt_102 ?_
            refine tt_rei (show ((nI (3 * j)) + 2) = nI (3 * j + 2) from nI_add (3 * j) 2) ?_
            refine va_iald hx hb hK hP 1 0 rfl rfl (vp_in_nI (n := 3 * j + 2) (by omega) (by omega)) dX1_compareAt_103 ?_
            refine tt_rei (show (f (nI (3 * j + 2)).toNatClampNeg) = f (3 * j + 2) from congrArg f (nI_clamp (n := 3 * j + 2) (by omega))) ?_
            refine lv_iload hx hb dX1_compareAt_104 (lv_at hl 6 rfl) ?_
            refine lv_icmp_ge (tgt := 113) hx hb dX1_compareAt_106 (by decide) (fun hb106 => ?_) (fun hb106 => ?_)
            · refine lv_iconst (v := 1) hx hb dX1_compareAt_113 (by decide) ?_
              refine tt_rei (show 1 = tt_cmp told (f (3 * j)) (f (3 * j + 1)) (f (3 * j + 2)) a b c1 from by simp [tt_cmp, hb6, hb17, hb39, hb78, hb92, hb106]) ?_
              exact kr _ _ _ _ hS dX1_compareAt_114
            · refine lv_iconst (v := (-1)) hx hb dX1_compareAt_109 (by decide) ?_
              refine lv_goto (tgt := 114) hx hb dX1_compareAt_110 (by decide) ?_
              refine tt_rei (show (-1) = tt_cmp told (f (3 * j)) (f (3 * j + 1)) (f (3 * j + 2)) a b c1 from by simp [tt_cmp, hb6, hb17, hb39, hb78, hb92, hb106]) ?_
              exact kr _ _ _ _ hS dX1_compareAt_114
      · refine lv_aload_n hx hb dX1_compareAt_42 rfl (lv_at hl 1 rfl) ?_
        refine va_get (D := D) (ci := 1) (v := .ref q) (C := RX1) (T := TX1) (N := 3) hx hb hts hinX1 hown hK hP 0 rfl rfl 1 (by decide) hf9 (fun _ h9 => h9) rfl dX1_compareAt_43 ?_
        refine lv_iload hx hb dX1_compareAt_46 (lv_at hl 0 rfl) ?_
        refine lv_iconst (v := 1) hx hb dX1_compareAt_48 (by decide) ?_
        refine lv_iadd hx hb dX1_compareAt_49 ?_
        refine tt_rei (show ((nI (3 * j)) + 1) = nI (3 * j + 1) from nI_add (3 * j) 1) ?_
        refine va_iald hx hb hK hP 1 0 rfl rfl (vp_in_nI (n := 3 * j + 1) (by omega) (by omega)) dX1_compareAt_50 ?_
        refine tt_rei (show (f (nI (3 * j + 1)).toNatClampNeg) = f (3 * j + 1) from congrArg f (nI_clamp (n := 3 * j + 1) (by omega))) ?_
        refine lv_iload hx hb dX1_compareAt_51 (lv_at hl 5 rfl) ?_
        refine lv_icmp_eq (tgt := 76) hx hb dX1_compareAt_53 (by decide) (fun hb53 => ?_) (fun hb53 => ?_)
        · refine lv_iload_n hx hb dX1_compareAt_76 rfl (lv_at hl 3 rfl) ?_
          refine lv_iconst (v := 2) hx hb dX1_compareAt_77 (by decide) ?_
          refine lv_icmp_le (tgt := 115) hx hb dX1_compareAt_78 (by decide) (fun hb78 => ?_) (fun hb78 => ?_)
          · refine lv_iconst (v := 0) hx hb dX1_compareAt_115 (by decide) ?_
            refine tt_rei (show 0 = tt_cmp told (f (3 * j)) (f (3 * j + 1)) (f (3 * j + 2)) a b c1 from by simp [tt_cmp, hb6, hb17, hb39, hb53, hb78]) ?_
            exact kr _ _ _ _ hS dX1_compareAt_116
          · refine lv_aload_n hx hb dX1_compareAt_81 rfl (lv_at hl 1 rfl) ?_
            refine va_get (D := D) (ci := 1) (v := .ref q) (C := RX1) (T := TX1) (N := 3) hx hb hts hinX1 hown hK hP 0 rfl rfl 1 (by decide) hf9 (fun _ h9 => h9) rfl dX1_compareAt_82 ?_
            refine lv_iload hx hb dX1_compareAt_85 (lv_at hl 0 rfl) ?_
            refine lv_iconst (v := 2) hx hb dX1_compareAt_87 (by decide) ?_
            refine lv_iadd hx hb dX1_compareAt_88 ?_
            refine tt_rei (show ((nI (3 * j)) + 2) = nI (3 * j + 2) from nI_add (3 * j) 2) ?_
            refine va_iald hx hb hK hP 1 0 rfl rfl (vp_in_nI (n := 3 * j + 2) (by omega) (by omega)) dX1_compareAt_89 ?_
            refine tt_rei (show (f (nI (3 * j + 2)).toNatClampNeg) = f (3 * j + 2) from congrArg f (nI_clamp (n := 3 * j + 2) (by omega))) ?_
            refine lv_iload hx hb dX1_compareAt_90 (lv_at hl 6 rfl) ?_
            refine lv_icmp_eq (tgt := 115) hx hb dX1_compareAt_92 (by decide) (fun hb92 => ?_) (fun hb92 => ?_)
            · refine lv_iconst (v := 0) hx hb dX1_compareAt_115 (by decide) ?_
              refine tt_rei (show 0 = tt_cmp told (f (3 * j)) (f (3 * j + 1)) (f (3 * j + 2)) a b c1 from by simp [tt_cmp, hb6, hb17, hb39, hb53, hb78, hb92]) ?_
              exact kr _ _ _ _ hS dX1_compareAt_116
            · refine lv_aload_n hx hb dX1_compareAt_95 rfl (lv_at hl 1 rfl) ?_
              refine va_get (D := D) (ci := 1) (v := .ref q) (C := RX1) (T := TX1) (N := 3) hx hb hts hinX1 hown hK hP 0 rfl rfl 1 (by decide) hf9 (fun _ h9 => h9) rfl dX1_compareAt_96 ?_
              refine lv_iload hx hb dX1_compareAt_99 (lv_at hl 0 rfl) ?_
              refine lv_iconst (v := 2) hx hb dX1_compareAt_101 (by decide) ?_
              refine lv_iadd hx hb dX1_compareAt_102 ?_
              refine tt_rei (show ((nI (3 * j)) + 2) = nI (3 * j + 2) from nI_add (3 * j) 2) ?_
              refine va_iald hx hb hK hP 1 0 rfl rfl (vp_in_nI (n := 3 * j + 2) (by omega) (by omega)) dX1_compareAt_103 ?_
              refine tt_rei (show (f (nI (3 * j + 2)).toNatClampNeg) = f (3 * j + 2) from congrArg f (nI_clamp (n := 3 * j + 2) (by omega))) ?_
              refine lv_iload hx hb dX1_compareAt_104 (lv_at hl 6 rfl) ?_
              refine lv_icmp_ge (tgt := 113) hx hb dX1_compareAt_106 (by decide) (fun hb106 => ?_) (fun hb106 => ?_)
              · refine lv_iconst (v := 1) hx hb dX1_compareAt_113 (by decide) ?_
                refine tt_rei (show 1 = tt_cmp told (f (3 * j)) (f (3 * j + 1)) (f (3 * j + 2)) a b c1 from by simp [tt_cmp, hb6, hb17, hb39, hb53, hb78, hb92, hb106]) ?_
                exact kr _ _ _ _ hS dX1_compareAt_114
              · refine lv_iconst (v := (-1)) hx hb dX1_compareAt_109 (by decide) ?_
                refine lv_goto (tgt := 114) hx hb dX1_compareAt_110 (by decide) ?_
                refine tt_rei (show (-1) = tt_cmp told (f (3 * j)) (f (3 * j + 1)) (f (3 * j + 2)) a b c1 from by simp [tt_cmp, hb6, hb17, hb39, hb53, hb78, hb92, hb106]) ?_
                exact kr _ _ _ _ hS dX1_compareAt_114
        · refine lv_aload_n hx hb dX1_compareAt_56 rfl (lv_at hl 1 rfl) ?_
          refine va_get (D := D) (ci := 1) (v := .ref q) (C := RX1) (T := TX1) (N := 3) hx hb hts hinX1 hown hK hP 0 rfl rfl 1 (by decide) hf9 (fun _ h9 => h9) rfl dX1_compareAt_57 ?_
          refine lv_iload hx hb dX1_compareAt_60 (lv_at hl 0 rfl) ?_
          refine lv_iconst (v := 1) hx hb dX1_compareAt_62 (by decide) ?_
          refine lv_iadd hx hb dX1_compareAt_63 ?_
          refine tt_rei (show ((nI (3 * j)) + 1) = nI (3 * j + 1) from nI_add (3 * j) 1) ?_
          refine va_iald hx hb hK hP 1 0 rfl rfl (vp_in_nI (n := 3 * j + 1) (by omega) (by omega)) dX1_compareAt_64 ?_
          refine tt_rei (show (f (nI (3 * j + 1)).toNatClampNeg) = f (3 * j + 1) from congrArg f (nI_clamp (n := 3 * j + 1) (by omega))) ?_
          refine lv_iload hx hb dX1_compareAt_65 (lv_at hl 5 rfl) ?_
          refine lv_icmp_ge (tgt := 74) hx hb dX1_compareAt_67 (by decide) (fun hb67 => ?_) (fun hb67 => ?_)
          · refine lv_iconst (v := 1) hx hb dX1_compareAt_74 (by decide) ?_
            refine tt_rei (show 1 = tt_cmp told (f (3 * j)) (f (3 * j + 1)) (f (3 * j + 2)) a b c1 from by simp [tt_cmp, hb6, hb17, hb39, hb53, hb67]) ?_
            exact kr _ _ _ _ hS dX1_compareAt_75
          · refine lv_iconst (v := (-1)) hx hb dX1_compareAt_70 (by decide) ?_
            refine lv_goto (tgt := 75) hx hb dX1_compareAt_71 (by decide) ?_
            refine tt_rei (show (-1) = tt_cmp told (f (3 * j)) (f (3 * j + 1)) (f (3 * j + 2)) a b c1 from by simp [tt_cmp, hb6, hb17, hb39, hb53, hb67]) ?_
            exact kr _ _ _ _ hS dX1_compareAt_75
    · refine lv_aload_n hx hb dX1_compareAt_20 rfl (lv_at hl 1 rfl) ?_
      refine va_get (D := D) (ci := 1) (v := .ref q) (C := RX1) (T := TX1) (N := 3) hx hb hts hinX1 hown hK hP 0 rfl rfl 1 (by decide) hf9 (fun _ h9 => h9) rfl dX1_compareAt_21 ?_
      refine lv_iload hx hb dX1_compareAt_24 (lv_at hl 0 rfl) ?_
      refine va_iald hx hb hK hP 1 0 rfl rfl (vp_in_nI (n := 3 * j) (by omega) (by omega)) dX1_compareAt_26 ?_
      refine tt_rei (show (f (nI (3 * j)).toNatClampNeg) = f (3 * j) from congrArg f (nI_clamp (n := 3 * j) (by omega))) ?_
      refine lv_iload_n hx hb dX1_compareAt_27 rfl (lv_at hl 4 rfl) ?_
      refine lv_icmp_ge (tgt := 35) hx hb dX1_compareAt_28 (by decide) (fun hb28 => ?_) (fun hb28 => ?_)
      · refine lv_iconst (v := 1) hx hb dX1_compareAt_35 (by decide) ?_
        refine tt_rei (show 1 = tt_cmp told (f (3 * j)) (f (3 * j + 1)) (f (3 * j + 2)) a b c1 from by simp [tt_cmp, hb6, hb17, hb28]) ?_
        exact kr _ _ _ _ hS dX1_compareAt_36
      · refine lv_iconst (v := (-1)) hx hb dX1_compareAt_31 (by decide) ?_
        refine lv_goto (tgt := 36) hx hb dX1_compareAt_32 (by decide) ?_
        refine tt_rei (show (-1) = tt_cmp told (f (3 * j)) (f (3 * j + 1)) (f (3 * j + 2)) a b c1 from by simp [tt_cmp, hb6, hb17, hb28]) ?_
        exact kr _ _ _ _ hS dX1_compareAt_36
set_option maxHeartbeats 4000000 in
set_option maxRecDepth 100000 in
theorem c_X1_placeTold (l : Launch) (D : va_G) (cI cZ cO cC : ClassId) (h q k n : Nat) (f : Nat → Int32) (told a b c1 least : Int32) (r : Nat) (hn : n ≤ 700) (hr : tt_bd n (fun j => ¬ least ≤ tt_cmp told (f (3 * j)) (f (3 * j + 1)) (f (3 * j + 2)) a b c1) r) : tt_Pure l yX1_placeTold wsX1_placeTold ({ frames := 1, cells := 0, slots := 0, locals := 26 } : Room) D (tt_tys cI cZ cO cC) false [(h, .inr (1, [.int (nI k), .ref q, .int (nI n)])), (q, .inl (cI, 2100, .inl f))] [.ref h, .int told, .int a, .int b, .int c1, .int least] (nI r) := by
  refine tt_pure (cc := cX1_placeTold) (maxL := 10) (rt := .int) (by decide) rfl (rfl) (Nat.le_of_ble_eq_true rfl) ?_
  intro p e s m below meth c Q ls hfix hK hP hE hl kr
  obtain ⟨hx, hb, hml, hown, hts⟩ := id hfix
  have hown : s.vm.findClass RX1 = some m.cls := hown
  have hfix : CallFix p m c cX1_placeTold 10 s ([.ref h, .int told, .int a, .int b, .int c1, .int least] : List Value).toArray wsX1_placeTold RX1 := hfix
  have hl : lv_has ls 10 [(0, .ref h), (1, .int told), (2, .int a), (3, .int b), (4, .int c1), (5, .int least)] := hl
  have hf19 := hts (.fieldLink RX1 19 "TripleTrees$Order" "count" "I") (by decide +kernel)
  have hinX1 : ∀ w ∈ u_ws RX1 TX1 3, w ∈ wsX1_placeTold := by decide +kernel
  have hS : va_S (fun _ => False) s.heap s.heap [] := va_S.rf
  have loop : ∀ (d lo hi i : Nat), d + i = 10 → lo ≤ r → r ≤ hi → hi ≤ n → hi - lo < 2 ^ d → ∀ (H : Heap) (locs : List Loc) (ls : Array Slot), va_P D vwCl [(h, .inr (1, [.int (nI k), .ref q, .int (nI n)])), (q, .inl (cI, 2100, .inl f))] H → va_S (fun _ => False) s.heap H locs → lv_has ls 10 [(8, .int (nI i)), (7, .int (nI hi)), (6, .int (nI lo)), (0, .ref h), (1, .int told), (2, .int a), (3, .int b), (4, .int c1), (5, .int least)] → W p l e ({ frames := 1, cells := 0, slots := 0, locals := 26 } : Room) s m ([.ref h, .int told, .int a, .int b, .int c1, .int least] : List Value).toArray below meth c H locs 0 0 Q (F0 m 12 ls []) := by
    intro d
    induction d with
    | zero =>
      intro lo hi i hd h_lo h_hi h_n h_w H locs ls hP hS hl
      refine lv_iload hx hb dX1_placeTold_12 (lv_at hl 0 rfl) ?_
      refine lv_bipush (v := 32) hx hb dX1_placeTold_14 (by decide) ?_
      refine lv_icmp_ge (tgt := 70) hx hb dX1_placeTold_16 (by decide) (fun hb16 => ?_) (fun hb16 => ?_)
      · have hb16 : 32 ≤ i := (nI_leI (a := 32) (b := i) (by omega) (by omega)).mp hb16
        exact absurd hb16 (by omega)
      · have hb16 : ¬ 32 ≤ i := fun hz9 => hb16 ((nI_leI (a := 32) (b := i) (by omega) (by omega)).mpr hz9)
        refine lv_iload hx hb dX1_placeTold_19 (lv_at hl 2 rfl) ?_
        refine lv_iload hx hb dX1_placeTold_21 (lv_at hl 1 rfl) ?_
        refine lv_icmp_ge (tgt := 70) hx hb dX1_placeTold_23 (by decide) (fun hb23 => ?_) (fun hb23 => ?_)
        · have hb23 : hi ≤ lo := (nI_leI (a := hi) (b := lo) (by omega) (by omega)).mp hb23
          refine lv_iload hx hb dX1_placeTold_70 (lv_at hl 2 rfl) ?_
          refine tt_rei (show nI lo = nI r from congrArg nI (by omega)) ?_
          exact kr _ _ _ _ hS dX1_placeTold_72
        · have hb23 : ¬ hi ≤ lo := fun hz9 => hb23 ((nI_leI (a := hi) (b := lo) (by omega) (by omega)).mpr hz9)
          exact absurd hb23 (by omega)
    | succ d ih =>
      intro lo hi i hd h_lo h_hi h_n h_w H locs ls hP hS hl
      refine lv_iload hx hb dX1_placeTold_12 (lv_at hl 0 rfl) ?_
      refine lv_bipush (v := 32) hx hb dX1_placeTold_14 (by decide) ?_
      refine lv_icmp_ge (tgt := 70) hx hb dX1_placeTold_16 (by decide) (fun hb16 => ?_) (fun hb16 => ?_)
      · have hb16 : 32 ≤ i := (nI_leI (a := 32) (b := i) (by omega) (by omega)).mp hb16
        exact absurd hb16 (by omega)
      · have hb16 : ¬ 32 ≤ i := fun hz9 => hb16 ((nI_leI (a := 32) (b := i) (by omega) (by omega)).mpr hz9)
        refine lv_iload hx hb dX1_placeTold_19 (lv_at hl 2 rfl) ?_
        refine lv_iload hx hb dX1_placeTold_21 (lv_at hl 1 rfl) ?_
        refine lv_icmp_ge (tgt := 70) hx hb dX1_placeTold_23 (by decide) (fun hb23 => ?_) (fun hb23 => ?_)
        · have hb23 : hi ≤ lo := (nI_leI (a := hi) (b := lo) (by omega) (by omega)).mp hb23
          refine lv_iload hx hb dX1_placeTold_70 (lv_at hl 2 rfl) ?_
          refine tt_rei (show nI lo = nI r from congrArg nI (by omega)) ?_
          exact kr _ _ _ _ hS dX1_placeTold_72
        · have hb23 : ¬ hi ≤ lo := fun hz9 => hb23 ((nI_leI (a := hi) (b := lo) (by omega) (by omega)).mpr hz9)
          refine lv_iload hx hb dX1_placeTold_26 (lv_at hl 2 rfl) ?_
          refine lv_iload hx hb dX1_placeTold_28 (lv_at hl 1 rfl) ?_
          refine lv_iadd hx hb dX1_placeTold_30 ?_
          refine tt_rei (show ((nI lo) + (nI hi)) = nI (lo + hi) from nI_add lo hi) ?_
          refine lv_iconst (v := 2) hx hb dX1_placeTold_31 (by decide) ?_
          refine lv_idiv hx hb dX1_placeTold_32 (by decide) ?_
          refine tt_rei (show ((nI (lo + hi)) / 2) = nI ((lo + hi) / 2) from pk_div (a := lo + hi) (d := 2) (by omega) (by omega) (by omega)) ?_
          refine lv_istore (lv' := [(9, .int (nI ((lo + hi) / 2))), (8, .int (nI i)), (7, .int (nI hi)), (6, .int (nI lo)), (0, .ref h), (1, .int told), (2, .int a), (3, .int b), (4, .int c1), (5, .int least)]) hx hb dX1_placeTold_33 hl (by decide) rfl (fun ls hl => ?_)
          refine lv_aload_n hx hb dX1_placeTold_35 rfl (lv_at hl 4 rfl) ?_
          refine lv_iload hx hb dX1_placeTold_36 (lv_at hl 0 rfl) ?_
          refine lv_iload_n hx hb dX1_placeTold_38 rfl (lv_at hl 5 rfl) ?_
          refine lv_iload_n hx hb dX1_placeTold_39 rfl (lv_at hl 6 rfl) ?_
          refine lv_iload_n hx hb dX1_placeTold_40 rfl (lv_at hl 7 rfl) ?_
          refine lv_iload hx hb dX1_placeTold_41 (lv_at hl 8 rfl) ?_
          have hPc := hP.sub (ws' := [(h, .inr (1, [.int (nI k), .ref q, .int (nI n)])), (q, .inl (cI, 2100, .inl f))]) [0, 1] rfl
          refine tt_calli (va_runV (As := [.int (nI ((lo + hi) / 2)), .int told, .int a, .int b, .int c1]) (rest := []) hfix (c_X1_compareAt l D cI cZ cO cC h q k n f ((lo + hi) / 2) told a b c1 (by omega)) (cwV 5 hts gX1_placeTold_X1_compareAt rfl rfl rfl (by decide +kernel) ⟨Nat.le_of_ble_eq_true rfl, Nat.le_of_ble_eq_true rfl⟩) (tt_preV (q0 := 0) (ci := 1) hK hPc tt_E.no rfl rfl) rfl rfl hl.1 rfl (lv_room (Nat.le_of_ble_eq_true rfl)) dX1_placeTold_43 ⟨Nat.zero_le _, Nat.zero_le _⟩) hP hS (fun H locs hP hS => ?_)
          refine lv_iload hx hb dX1_placeTold_46 (lv_at hl 9 rfl) ?_
          refine lv_icmp_ge (tgt := 60) hx hb dX1_placeTold_48 (by decide) (fun hb48 => ?_) (fun hb48 => ?_)
          · refine lv_iload hx hb dX1_placeTold_60 (lv_at hl 0 rfl) ?_
            refine lv_istore (lv' := [(7, .int (nI ((lo + hi) / 2))), (9, .int (nI ((lo + hi) / 2))), (8, .int (nI i)), (6, .int (nI lo)), (0, .ref h), (1, .int told), (2, .int a), (3, .int b), (4, .int c1), (5, .int least)]) hx hb dX1_placeTold_62 hl (by decide) rfl (fun ls hl => ?_)
            refine lv_iinc (v := nI (i + 1)) (lv' := [(8, .int (nI (i + 1))), (7, .int (nI ((lo + hi) / 2))), (9, .int (nI ((lo + hi) / 2))), (6, .int (nI lo)), (0, .ref h), (1, .int told), (2, .int a), (3, .int b), (4, .int c1), (5, .int least)]) hx hb dX1_placeTold_64 hl (k := 2) rfl (nI_add i 1) (by decide) rfl (fun ls hl => ?_)
            refine lv_goto (tgt := 12) hx hb dX1_placeTold_67 (by decide) ?_
            have h2 : 2 ^ (d + 1) = 2 * 2 ^ d := by rw [Nat.pow_succ]; omega
            have h3 : r ≤ (lo + hi) / 2 := Nat.le_of_not_lt (fun h4 => hr.2.1 ((lo + hi) / 2) h4 hb48)
            exact ih (lo) ((lo + hi) / 2) (i + 1) (by omega) (by omega) (by omega) (by omega) (by omega) H locs ls hP hS (lv_sub hl [0, 1, 3, 4, 5, 6, 7, 8, 9] rfl)
          · refine lv_iload hx hb dX1_placeTold_51 (lv_at hl 0 rfl) ?_
            refine lv_iconst (v := 1) hx hb dX1_placeTold_53 (by decide) ?_
            refine lv_iadd hx hb dX1_placeTold_54 ?_
            refine tt_rei (show ((nI ((lo + hi) / 2)) + 1) = nI ((lo + hi) / 2 + 1) from nI_add ((lo + hi) / 2) 1) ?_
            refine lv_istore (lv' := [(6, .int (nI ((lo + hi) / 2 + 1))), (9, .int (nI ((lo + hi) / 2))), (8, .int (nI i)), (7, .int (nI hi)), (0, .ref h), (1, .int told), (2, .int a), (3, .int b), (4, .int c1), (5, .int least)]) hx hb dX1_placeTold_55 hl (by decide) rfl (fun ls hl => ?_)
            refine lv_goto (tgt := 64) hx hb dX1_placeTold_57 (by decide) ?_
            refine lv_iinc (v := nI (i + 1)) (lv' := [(8, .int (nI (i + 1))), (6, .int (nI ((lo + hi) / 2 + 1))), (9, .int (nI ((lo + hi) / 2))), (7, .int (nI hi)), (0, .ref h), (1, .int told), (2, .int a), (3, .int b), (4, .int c1), (5, .int least)]) hx hb dX1_placeTold_64 hl (k := 2) rfl (nI_add i 1) (by decide) rfl (fun ls hl => ?_)
            refine lv_goto (tgt := 12) hx hb dX1_placeTold_67 (by decide) ?_
            have h2 : 2 ^ (d + 1) = 2 * 2 ^ d := by rw [Nat.pow_succ]; omega
            have h3 : (lo + hi) / 2 < r := Nat.lt_of_not_le (fun h4 => hr.2.2 ((lo + hi) / 2) h4 (by omega) hb48)
            exact ih ((lo + hi) / 2 + 1) (hi) (i + 1) (by omega) (by omega) (by omega) (by omega) (by omega) H locs ls hP hS (lv_sub hl [0, 3, 1, 4, 5, 6, 7, 8, 9] rfl)
  refine lv_iconst (v := 0) hx hb dX1_placeTold_0 (by decide) ?_
  refine lv_istore (lv' := [(6, .int 0), (0, .ref h), (1, .int told), (2, .int a), (3, .int b), (4, .int c1), (5, .int least)]) hx hb dX1_placeTold_1 hl (by decide) rfl (fun ls hl => ?_)
  refine lv_aload_n hx hb dX1_placeTold_3 rfl (lv_at hl 1 rfl) ?_
  refine va_get (D := D) (ci := 1) (v := .int (nI n)) (C := RX1) (T := TX1) (N := 3) hx hb hts hinX1 hown hK hP 0 rfl rfl 2 (by decide) hf19 (fun _ h9 => h9) rfl dX1_placeTold_4 ?_
  refine lv_istore (lv' := [(7, .int (nI n)), (6, .int 0), (0, .ref h), (1, .int told), (2, .int a), (3, .int b), (4, .int c1), (5, .int least)]) hx hb dX1_placeTold_7 hl (by decide) rfl (fun ls hl => ?_)
  refine lv_iconst (v := 0) hx hb dX1_placeTold_9 (by decide) ?_
  refine lv_istore (lv' := [(8, .int 0), (7, .int (nI n)), (6, .int 0), (0, .ref h), (1, .int told), (2, .int a), (3, .int b), (4, .int c1), (5, .int least)]) hx hb dX1_placeTold_10 hl (by decide) rfl (fun ls hl => ?_)
  exact loop 10 0 n 0 rfl (Nat.zero_le _) hr.1 (Nat.le_refl _) (by omega) _ _ ls hP hS (lv_sub hl [0, 1, 2, 3, 4, 5, 6, 7, 8] rfl)
set_option maxHeartbeats 4000000 in
set_option maxRecDepth 100000 in
theorem c_X1_partAt (l : Launch) (D : va_G) (cI cZ cO cC : ClassId) (h q k n : Nat) (f : Nat → Int32) (pl i : Int32) (hk : k < 3) (hn : n ≤ 700) : tt_Pure l yX1_partAt wsX1_partAt ({ frames := 0, cells := 0, slots := 0, locals := 0 } : Room) D (tt_tys cI cZ cO cC) false [(h, .inr (1, [.int (nI k), .ref q, .int (nI n)])), (q, .inl (cI, 2100, .inl f))] [.ref h, .int pl, .int i] (tt_pa n k f pl i) := by
  refine tt_pure (cc := cX1_partAt) (maxL := 3) (rt := .int) (by decide) rfl (rfl) (Nat.le_of_ble_eq_true rfl) ?_
  intro p e s m below meth c Q ls hfix hK hP hE hl kr
  obtain ⟨hx, hb, hml, hown, hts⟩ := id hfix
  have hown : s.vm.findClass RX1 = some m.cls := hown
  have hfix : CallFix p m c cX1_partAt 3 s ([.ref h, .int pl, .int i] : List Value).toArray wsX1_partAt RX1 := hfix
  have hl : lv_has ls 3 [(0, .ref h), (1, .int pl), (2, .int i)] := hl
  have hf19 := hts (.fieldLink RX1 19 "TripleTrees$Order" "count" "I") (by decide +kernel)
  have hf9 := hts (.fieldLink RX1 9 "TripleTrees$Order" "parts" "[I") (by decide +kernel)
  have hf15 := hts (.fieldLink RX1 15 "TripleTrees$Order" "turn" "I") (by decide +kernel)
  have hinX1 : ∀ w ∈ u_ws RX1 TX1 3, w ∈ wsX1_partAt := by decide +kernel
  have hS : va_S (fun _ => False) s.heap s.heap [] := va_S.rf
  refine lv_iload_n hx hb dX1_partAt_0 rfl (lv_at hl 1 rfl) ?_
  refine lv_if_lt (tgt := 21) hx hb dX1_partAt_1 (by decide) (fun hb1 => ?_) (fun hb1 => ?_)
  · refine lv_iconst (v := 0) hx hb dX1_partAt_21 (by decide) ?_
    refine tt_rei (show 0 = tt_pa n k f pl i from by simp [tt_pa, hb1]) ?_
    exact kr _ _ _ _ hS dX1_partAt_22
  · refine lv_iload_n hx hb dX1_partAt_4 rfl (lv_at hl 1 rfl) ?_
    refine lv_aload_n hx hb dX1_partAt_5 rfl (lv_at hl 0 rfl) ?_
    refine va_get (D := D) (ci := 1) (v := .int (nI n)) (C := RX1) (T := TX1) (N := 3) hx hb hts hinX1 hown hK hP 0 rfl rfl 2 (by decide) hf19 (fun _ h9 => h9) rfl dX1_partAt_6 ?_
    refine lv_icmp_ge (tgt := 21) hx hb dX1_partAt_9 (by decide) (fun hb9 => ?_) (fun hb9 => ?_)
    · refine lv_iconst (v := 0) hx hb dX1_partAt_21 (by decide) ?_
      refine tt_rei (show 0 = tt_pa n k f pl i from by simp [tt_pa, hb1, hb9]) ?_
      exact kr _ _ _ _ hS dX1_partAt_22
    · refine lv_iload_n hx hb dX1_partAt_12 rfl (lv_at hl 2 rfl) ?_
      refine lv_if_lt (tgt := 21) hx hb dX1_partAt_13 (by decide) (fun hb13 => ?_) (fun hb13 => ?_)
      · refine lv_iconst (v := 0) hx hb dX1_partAt_21 (by decide) ?_
        refine tt_rei (show 0 = tt_pa n k f pl i from by simp [tt_pa, hb1, hb9, hb13]) ?_
        exact kr _ _ _ _ hS dX1_partAt_22
      · refine lv_iload_n hx hb dX1_partAt_16 rfl (lv_at hl 2 rfl) ?_
        refine lv_iconst (v := 3) hx hb dX1_partAt_17 (by decide) ?_
        refine lv_icmp_lt (tgt := 23) hx hb dX1_partAt_18 (by decide) (fun hb18 => ?_) (fun hb18 => ?_)
        · obtain ⟨j, hj, e1⟩ : ∃ j : Nat, j < n ∧ pl = nI j := by
            rcases pk_ix pl (n := n) (by omega) with h | h | h
            · exact absurd h hb1
            · exact absurd h hb9
            · exact h
          obtain ⟨t, ht, e2⟩ : ∃ t : Nat, t < 3 ∧ i = nI t := by
            rcases pk_ix i (n := 3) (by omega) with h | h | h
            · exact absurd h hb13
            · exact absurd hb18 (Int32.not_lt.mpr h)
            · exact h
          subst e1
          subst e2
          refine lv_aload_n hx hb dX1_partAt_23 rfl (lv_at hl 0 rfl) ?_
          refine va_get (D := D) (ci := 1) (v := .ref q) (C := RX1) (T := TX1) (N := 3) hx hb hts hinX1 hown hK hP 0 rfl rfl 1 (by decide) hf9 (fun _ h9 => h9) rfl dX1_partAt_24 ?_
          refine lv_iconst (v := 3) hx hb dX1_partAt_27 (by decide) ?_
          refine lv_iload_n hx hb dX1_partAt_28 rfl (lv_at hl 1 rfl) ?_
          refine lv_imul hx hb dX1_partAt_29 ?_
          refine tt_rei (show (3 * (nI j)) = nI (3 * j) from pk_mul 3 j) ?_
          refine lv_iload_n hx hb dX1_partAt_30 rfl (lv_at hl 2 rfl) ?_
          refine lv_aload_n hx hb dX1_partAt_31 rfl (lv_at hl 0 rfl) ?_
          refine va_get (D := D) (ci := 1) (v := .int (nI k)) (C := RX1) (T := TX1) (N := 3) hx hb hts hinX1 hown hK hP 0 rfl rfl 0 (by decide) hf15 (fun _ h9 => h9) rfl dX1_partAt_32 ?_
          refine lv_isub hx hb dX1_partAt_35 ?_
          refine lv_iconst (v := 3) hx hb dX1_partAt_36 (by decide) ?_
          refine lv_iadd hx hb dX1_partAt_37 ?_
          refine tt_rei (show (((nI t) - (nI k)) + 3) = nI (t + 3 - k) from tt_s3 hk) ?_
          refine lv_iconst (v := 3) hx hb dX1_partAt_38 (by decide) ?_
          refine lv_irem hx hb dX1_partAt_39 (by decide) ?_
          refine tt_rei (show ((nI (t + 3 - k)) - (nI (t + 3 - k)) / 3 * 3) = nI ((t + 3 - k) % 3) from pk_rem (a := t + 3 - k) (d := 3) (by omega) (by omega) (by omega)) ?_
          refine lv_iadd hx hb dX1_partAt_40 ?_
          refine tt_rei (show ((nI (3 * j)) + (nI ((t + 3 - k) % 3))) = nI (3 * j + ((t + 3 - k) % 3)) from nI_add (3 * j) ((t + 3 - k) % 3)) ?_
          refine va_iald hx hb hK hP 1 0 rfl rfl (vp_in_nI (n := 3 * j + ((t + 3 - k) % 3)) (by omega) (by omega)) dX1_partAt_41 ?_
          refine tt_rei (show (f (nI (3 * j + ((t + 3 - k) % 3))).toNatClampNeg) = f (3 * j + ((t + 3 - k) % 3)) from congrArg f (nI_clamp (n := 3 * j + ((t + 3 - k) % 3)) (by omega))) ?_
          refine tt_rei (show f (3 * j + ((t + 3 - k) % 3)) = tt_pa n k f (nI j) (nI t) from (tt_pa_in f hj ht (by omega)).symm) ?_
          exact kr _ _ _ _ hS dX1_partAt_42
        · refine lv_iconst (v := 0) hx hb dX1_partAt_21 (by decide) ?_
          refine tt_rei (show 0 = tt_pa n k f pl i from by simp [tt_pa, hb1, hb9, hb13, hb18]) ?_
          exact kr _ _ _ _ hS dX1_partAt_22
set_option maxHeartbeats 4000000 in
set_option maxRecDepth 100000 in
theorem c_X1_placeOf (l : Launch) (D : va_G) (cI cZ cO cC : ClassId) (h q k n : Nat) (f : Nat → Int32) (told s1 p1 o1 least : Int32) (r : Nat) (hk : k < 3) (hn : n ≤ 700) (hr : tt_bd n (fun j => ¬ least ≤ tt_cmp told (f (3 * j)) (f (3 * j + 1)) (f (3 * j + 2)) (tt_pt ((k + 0) % 3) s1 p1 o1) (tt_pt ((k + 1) % 3) s1 p1 o1) (tt_pt ((k + 2) % 3) s1 p1 o1)) r) : tt_Pure l yX1_placeOf wsX1_placeOf ({ frames := 2, cells := 0, slots := 0, locals := 55 } : Room) D (tt_tys cI cZ cO cC) false [(h, .inr (1, [.int (nI k), .ref q, .int (nI n)])), (q, .inl (cI, 2100, .inl f))] [.ref h, .int told, .int s1, .int p1, .int o1, .int least] (nI r) := by
  refine tt_pure (cc := cX1_placeOf) (maxL := 6) (rt := .int) (by decide) rfl (rfl) (Nat.le_of_ble_eq_true rfl) ?_
  intro p e s m below meth c Q ls hfix hK hP hE hl kr
  obtain ⟨hx, hb, hml, hown, hts⟩ := id hfix
  have hown : s.vm.findClass RX1 = some m.cls := hown
  have hfix : CallFix p m c cX1_placeOf 6 s ([.ref h, .int told, .int s1, .int p1, .int o1, .int least] : List Value).toArray wsX1_placeOf RX1 := hfix
  have hl : lv_has ls 6 [(0, .ref h), (1, .int told), (2, .int s1), (3, .int p1), (4, .int o1), (5, .int least)] := hl
  have hS : va_S (fun _ => False) s.heap s.heap [] := va_S.rf
  refine lv_aload_n hx hb dX1_placeOf_0 rfl (lv_at hl 0 rfl) ?_
  refine lv_iload_n hx hb dX1_placeOf_1 rfl (lv_at hl 1 rfl) ?_
  refine lv_aload_n hx hb dX1_placeOf_2 rfl (lv_at hl 0 rfl) ?_
  refine lv_iconst (v := 0) hx hb dX1_placeOf_3 (by decide) ?_
  refine lv_iload_n hx hb dX1_placeOf_4 rfl (lv_at hl 2 rfl) ?_
  refine lv_iload_n hx hb dX1_placeOf_5 rfl (lv_at hl 3 rfl) ?_
  refine lv_iload hx hb dX1_placeOf_6 (lv_at hl 4 rfl) ?_
  have hPc := hP.sub (ws' := [(h, .inr (1, [.int (nI k), .ref q, .int (nI n)])), (q, .inl (cI, 2100, .inl f))]) [0, 1] rfl
  refine tt_calli (va_runV (As := [.int 0, .int s1, .int p1, .int o1]) (rest := [.int told, .ref h]) hfix (c_X1_turned l D cI cZ cO cC h q k n f 0 s1 p1 o1 hk (by omega)) (cwV 4 hts gX1_placeOf_X1_turned rfl rfl rfl (by decide +kernel) ⟨Nat.le_of_ble_eq_true rfl, Nat.le_of_ble_eq_true rfl⟩) (tt_preV (q0 := 0) (ci := 1) hK hPc tt_E.no rfl rfl) rfl rfl hl.1 rfl (lv_room (Nat.le_of_ble_eq_true rfl)) dX1_placeOf_8 ⟨Nat.zero_le _, Nat.zero_le _⟩) hP hS (fun H locs hP hS => ?_)
  refine lv_aload_n hx hb dX1_placeOf_11 rfl (lv_at hl 0 rfl) ?_
  refine lv_iconst (v := 1) hx hb dX1_placeOf_12 (by decide) ?_
  refine lv_iload_n hx hb dX1_placeOf_13 rfl (lv_at hl 2 rfl) ?_
  refine lv_iload_n hx hb dX1_placeOf_14 rfl (lv_at hl 3 rfl) ?_
  refine lv_iload hx hb dX1_placeOf_15 (lv_at hl 4 rfl) ?_
  have hPc := hP.sub (ws' := [(h, .inr (1, [.int (nI k), .ref q, .int (nI n)])), (q, .inl (cI, 2100, .inl f))]) [0, 1] rfl
  refine tt_calli (va_runV (As := [.int 1, .int s1, .int p1, .int o1]) (rest := [.int (tt_pt ((k + 0) % 3) s1 p1 o1), .int told, .ref h]) hfix (c_X1_turned l D cI cZ cO cC h q k n f 1 s1 p1 o1 hk (by omega)) (cwV 4 hts gX1_placeOf_X1_turned rfl rfl rfl (by decide +kernel) ⟨Nat.le_of_ble_eq_true rfl, Nat.le_of_ble_eq_true rfl⟩) (tt_preV (q0 := 0) (ci := 1) hK hPc tt_E.no rfl rfl) rfl rfl hl.1 rfl (lv_room (Nat.le_of_ble_eq_true rfl)) dX1_placeOf_17 ⟨Nat.zero_le _, Nat.zero_le _⟩) hP hS (fun H locs hP hS => ?_)
  refine lv_aload_n hx hb dX1_placeOf_20 rfl (lv_at hl 0 rfl) ?_
  refine lv_iconst (v := 2) hx hb dX1_placeOf_21 (by decide) ?_
  refine lv_iload_n hx hb dX1_placeOf_22 rfl (lv_at hl 2 rfl) ?_
  refine lv_iload_n hx hb dX1_placeOf_23 rfl (lv_at hl 3 rfl) ?_
  refine lv_iload hx hb dX1_placeOf_24 (lv_at hl 4 rfl) ?_
  have hPc := hP.sub (ws' := [(h, .inr (1, [.int (nI k), .ref q, .int (nI n)])), (q, .inl (cI, 2100, .inl f))]) [0, 1] rfl
  refine tt_calli (va_runV (As := [.int 2, .int s1, .int p1, .int o1]) (rest := [.int (tt_pt ((k + 1) % 3) s1 p1 o1), .int (tt_pt ((k + 0) % 3) s1 p1 o1), .int told, .ref h]) hfix (c_X1_turned l D cI cZ cO cC h q k n f 2 s1 p1 o1 hk (by omega)) (cwV 4 hts gX1_placeOf_X1_turned rfl rfl rfl (by decide +kernel) ⟨Nat.le_of_ble_eq_true rfl, Nat.le_of_ble_eq_true rfl⟩) (tt_preV (q0 := 0) (ci := 1) hK hPc tt_E.no rfl rfl) rfl rfl hl.1 rfl (lv_room (Nat.le_of_ble_eq_true rfl)) dX1_placeOf_26 ⟨Nat.zero_le _, Nat.zero_le _⟩) hP hS (fun H locs hP hS => ?_)
  refine lv_iload hx hb dX1_placeOf_29 (lv_at hl 5 rfl) ?_
  have hPc := hP.sub (ws' := [(h, .inr (1, [.int (nI k), .ref q, .int (nI n)])), (q, .inl (cI, 2100, .inl f))]) [0, 1] rfl
  refine tt_calli (va_runV (As := [.int told, .int (tt_pt ((k + 0) % 3) s1 p1 o1), .int (tt_pt ((k + 1) % 3) s1 p1 o1), .int (tt_pt ((k + 2) % 3) s1 p1 o1), .int least]) (rest := []) hfix (c_X1_placeTold l D cI cZ cO cC h q k n f told (tt_pt ((k + 0) % 3) s1 p1 o1) (tt_pt ((k + 1) % 3) s1 p1 o1) (tt_pt ((k + 2) % 3) s1 p1 o1) least r hn hr) (cwV 5 hts gX1_placeOf_X1_placeTold rfl rfl rfl (by decide +kernel) ⟨Nat.le_of_ble_eq_true rfl, Nat.le_of_ble_eq_true rfl⟩) (tt_preV (q0 := 0) (ci := 1) hK hPc tt_E.no rfl rfl) rfl rfl hl.1 rfl (lv_room (Nat.le_of_ble_eq_true rfl)) dX1_placeOf_31 ⟨Nat.zero_le _, Nat.zero_le _⟩) hP hS (fun H locs hP hS => ?_)
  exact kr _ _ _ _ hS dX1_placeOf_34

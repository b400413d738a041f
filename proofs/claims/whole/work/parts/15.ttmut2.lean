/-! own words: cursors' moves -/
/-- q is the least closed cursor, or 8 -/
def tt_fc (C : Nat → tt_CU) (q : Nat) : Prop := q ≤ 8 ∧ (∀ i, i < q → (C i).1 = true) ∧ (q < 8 → (C q).1 = false)
theorem tt_fc_eq {C : Nat → tt_CU} {q i : Nat} (h : tt_fc C q) (hi : i ≤ q) (h8 : i < 8) (hc : (C i).1 = false) : i = q := by
  rcases Nat.lt_or_ge i q with h1 | h1
  · rw [h.2.1 i h1] at hc
    cases hc
  · omega
theorem tt_fc_lt {C : Nat → tt_CU} {q i : Nat} (h : tt_fc C q) (hi : i ≤ q) (h8 : i < 8) (hc : (C i).1 = true) : i + 1 ≤ q := by
  rcases Nat.lt_or_ge i q with h1 | h1
  · omega
  · have : i = q := by omega
    subst this
    rw [h.2.2 h8] at hc
    cases hc
/-- a cursor goes on: its answer, its new numbers -/
def tt_gr (u : tt_CU) : Int32 := if u.2.2.2.2.1 < u.2.2.2.2.2 then 1 else 0
def tt_gn (u : tt_CU) : tt_CU := (u.1, decide (u.2.2.2.2.1 < u.2.2.2.2.2), u.2.2.1, u.2.2.2.1, (if u.2.2.2.2.1 < u.2.2.2.2.2 then u.2.2.2.2.1 + 1 else u.2.2.2.2.1), u.2.2.2.2.2)
/-- a cursor skips to a place -/
def tt_sk (u : tt_CU) (pl : Nat) : tt_CU := (u.1, u.2.1, u.2.2.1, u.2.2.2.1, min (max u.2.2.2.2.1 pl) u.2.2.2.2.2, u.2.2.2.2.2)
theorem tt_gn_cv (u : tt_CU) : tt_cv (tt_gn u) = [.int (tt_b u.1), .int (if u.2.2.2.2.1 < u.2.2.2.2.2 then 1 else 0), .int (nI u.2.2.1), .int (nI u.2.2.2.1), .int (nI (if u.2.2.2.2.1 < u.2.2.2.2.2 then u.2.2.2.2.1 + 1 else u.2.2.2.2.1)), .int (nI u.2.2.2.2.2)] := by
  unfold tt_cv tt_gn tt_b
  by_cases h : u.2.2.2.2.1 < u.2.2.2.2.2 <;> simp [h]
set_option maxHeartbeats 4000000 in
set_option maxRecDepth 100000 in
theorem c_X3_remove (l : Launch) (D : va_G) (cI cZ cO cC : ClassId) (ad : Nat → Nat) (cx : Nat → va_E) (L : Nat → List tt_T3) (ch : Nat) (C : Nat → tt_CU) (hR : tt_R cI cZ cO cC ad cx L ch C) (s1 p1 o1 : Int32) (hI : tt_I L) : tt_Muti (S := (Nat → va_E)) l yX3_remove wsX3_remove ({ frames := 5, cells := 0, slots := 0, locals := 132 } : Room) D (tt_tys cI cZ cO cC) true (tt_blk 21 ad cx) [.ref (ad 0), .int s1, .int p1, .int o1] (fun r u => r = (if 0 < tt_mn 7 s1 p1 o1 L then 1 else 0) ∧ tt_R cI cZ cO cC ad u (tt_Lr 7 s1 p1 o1 L) (ch + tt_mn 7 s1 p1 o1 L) C) (fun u => tt_blk 21 ad u) := by
  refine tt_muti (cc := cX3_remove) (maxL := 4) (rt := .boolean) (by decide) rfl (fun r _ h => by rw [h.1]; exact tt_nbi _) (Nat.le_of_ble_eq_true rfl) ?_
  intro p e s m below meth c Q ls A hfix hK hP hD hA hE hl kr
  obtain ⟨hx, hb, hml, hown, hts⟩ := id hfix
  have hown : s.vm.findClass RX3 = some m.cls := hown
  have hfix : CallFix p m c cX3_remove 4 s ([.ref (ad 0), .int s1, .int p1, .int o1] : List Value).toArray wsX3_remove RX3 := hfix
  have hl : lv_has ls 4 [(0, .ref (ad 0)), (1, .int s1), (2, .int p1), (3, .int o1)] := hl
  have hS : va_S A s.heap s.heap [] := va_S.rf
  have hmn := tt_mn_le 7 s1 p1 o1 hI
  refine lv_aload_n hx hb dX3_remove_0 rfl (lv_at hl 0 rfl) ?_
  refine lv_bipush (v := 7) hx hb dX3_remove_1 (by decide) ?_
  refine lv_iload_n hx hb dX3_remove_3 rfl (lv_at hl 1 rfl) ?_
  refine lv_iload_n hx hb dX3_remove_4 rfl (lv_at hl 2 rfl) ?_
  refine lv_iload_n hx hb dX3_remove_5 rfl (lv_at hl 3 rfl) ?_
  refine tt_fulli (va_runV (As := [.int 7, .int s1, .int p1, .int o1]) (rest := []) hfix (c_X3_removeMatching l D cI cZ cO cC ad cx L ch C hR 7 s1 p1 o1 (by omega) hI _) (cwV 4 hts gX3_remove_X3_removeMatching rfl rfl rfl (by decide +kernel) ⟨Nat.le_of_ble_eq_true rfl, Nat.le_of_ble_eq_true rfl⟩) (tt_mpreV (q0 := 0) (ci := 3) hK hP hD ((hE.at hS).narrow (tt_freeF hD hS hA)) (tt_bg (by omega) hR.1) rfl) rfl rfl hl.1 rfl (lv_room (Nat.le_of_ble_eq_true rfl)) dX3_remove_6 ⟨Nat.zero_le _, Nat.zero_le _⟩) hD hS hA (fun r1 cx H locs hu hP hD hS => ?_)
  obtain ⟨e1, hR⟩ := hu
  subst e1
  refine lv_if_le (tgt := 16) hx hb dX3_remove_9 (by decide) (fun hb9 => ?_) (fun hb9 => ?_)
  · have hb9 : tt_mn 7 s1 p1 o1 L ≤ 0 := (nI_leI (a := tt_mn 7 s1 p1 o1 L) (b := 0) (by omega) (by omega)).mp hb9
    refine lv_iconst (v := 0) hx hb dX3_remove_16 (by decide) ?_
    exact kr _ _ _ _ _ cx ⟨(if_neg (by omega)).symm, hR⟩ hP hS dX3_remove_17
  · have hb9 : ¬ tt_mn 7 s1 p1 o1 L ≤ 0 := fun hz9 => hb9 ((nI_leI (a := tt_mn 7 s1 p1 o1 L) (b := 0) (by omega) (by omega)).mpr hz9)
    refine lv_iconst (v := 1) hx hb dX3_remove_12 (by decide) ?_
    refine lv_goto (tgt := 17) hx hb dX3_remove_13 (by decide) ?_
    exact kr _ _ _ _ _ cx ⟨(if_pos (by omega)).symm, hR⟩ hP hS dX3_remove_17
set_option maxHeartbeats 4000000 in
set_option maxRecDepth 100000 in
theorem c_X3_removeAll (l : Launch) (D : va_G) (cI cZ cO cC : ClassId) (ad : Nat → Nat) (cx : Nat → va_E) (L : Nat → List tt_T3) (ch : Nat) (C : Nat → tt_CU) (hR : tt_R cI cZ cO cC ad cx L ch C) (x1 s1 p1 o1 : Int32) (hI : tt_I L) : tt_Muti (S := (Nat → va_E)) l yX3_removeAll wsX3_removeAll ({ frames := 5, cells := 0, slots := 0, locals := 132 } : Room) D (tt_tys cI cZ cO cC) true (tt_blk 21 ad cx) [.ref (ad 0), .int x1, .int s1, .int p1, .int o1] (fun r u => (¬ (¬ x1 < 0 ∧ ¬ 8 ≤ x1) ∧ r = (-1) ∧ tt_R cI cZ cO cC ad u L ch C) ∨ (∃ mk, mk < 8 ∧ x1 = nI mk ∧ r = nI (tt_mn mk s1 p1 o1 L) ∧ tt_R cI cZ cO cC ad u (tt_Lr mk s1 p1 o1 L) (ch + tt_mn mk s1 p1 o1 L) C)) (fun u => tt_blk 21 ad u) := by
  refine tt_muti (cc := cX3_removeAll) (maxL := 5) (rt := .int) (by decide) rfl (fun _ _ _ => rfl) (Nat.le_of_ble_eq_true rfl) ?_
  intro p e s m below meth c Q ls A hfix hK hP hD hA hE hl kr
  obtain ⟨hx, hb, hml, hown, hts⟩ := id hfix
  have hown : s.vm.findClass RX3 = some m.cls := hown
  have hfix : CallFix p m c cX3_removeAll 5 s ([.ref (ad 0), .int x1, .int s1, .int p1, .int o1] : List Value).toArray wsX3_removeAll RX3 := hfix
  have hl : lv_has ls 5 [(0, .ref (ad 0)), (1, .int x1), (2, .int s1), (3, .int p1), (4, .int o1)] := hl
  have hS : va_S A s.heap s.heap [] := va_S.rf
  refine lv_iload_n hx hb dX3_removeAll_0 rfl (lv_at hl 1 rfl) ?_
  refine tt_calli (va_runS (As := [.int x1]) (rest := []) hfix (c_X3_isMask l D cI cZ cO cC x1) (va_cwS 1 hts gX3_removeAll_X3_isMask rfl rfl rfl (by decide +kernel) ⟨Nat.le_of_ble_eq_true rfl, Nat.le_of_ble_eq_true rfl⟩) (tt_preS hK tt_P0 tt_E.no) rfl rfl hl.1 rfl (lv_room (Nat.le_of_ble_eq_true rfl)) dX3_removeAll_1 ⟨Nat.zero_le _, Nat.zero_le _⟩) hP hS (fun H locs hP hS => ?_)
  refine lv_if_eq (tgt := 19) hx hb dX3_removeAll_4 (by decide) (fun hb4 => ?_) (fun hb4 => ?_)
  · refine lv_iconst (v := (-1)) hx hb dX3_removeAll_19 (by decide) ?_
    exact kr _ _ _ _ _ cx (Or.inl ⟨tt_if0 hb4, rfl, hR⟩) hP hS dX3_removeAll_20
  · obtain ⟨mk, hm, e1⟩ : ∃ j : Nat, j < 8 ∧ x1 = nI j := tt_ix (n := 8) (by omega) (tt_if1 hb4).1 (tt_if1 hb4).2
    subst e1
    refine lv_aload_n hx hb dX3_removeAll_7 rfl (lv_at hl 0 rfl) ?_
    refine lv_iload_n hx hb dX3_removeAll_8 rfl (lv_at hl 1 rfl) ?_
    refine lv_iload_n hx hb dX3_removeAll_9 rfl (lv_at hl 2 rfl) ?_
    refine lv_iload_n hx hb dX3_removeAll_10 rfl (lv_at hl 3 rfl) ?_
    refine lv_iload hx hb dX3_removeAll_11 (lv_at hl 4 rfl) ?_
    refine tt_fulli (va_runV (As := [.int (nI mk), .int s1, .int p1, .int o1]) (rest := []) hfix (c_X3_removeMatching l D cI cZ cO cC ad cx L ch C hR mk s1 p1 o1 hm hI _) (cwV 4 hts gX3_removeAll_X3_removeMatching rfl rfl rfl (by decide +kernel) ⟨Nat.le_of_ble_eq_true rfl, Nat.le_of_ble_eq_true rfl⟩) (tt_mpreV (q0 := 0) (ci := 3) hK hP hD ((hE.at hS).narrow (tt_freeF hD hS hA)) (tt_bg (by omega) hR.1) rfl) rfl rfl hl.1 rfl (lv_room (Nat.le_of_ble_eq_true rfl)) dX3_removeAll_13 ⟨Nat.zero_le _, Nat.zero_le _⟩) hD hS hA (fun r1 cx H locs hu hP hD hS => ?_)
    obtain ⟨e1, hR⟩ := hu
    subst e1
    refine lv_goto (tgt := 20) hx hb dX3_removeAll_16 (by decide) ?_
    exact kr _ _ _ _ _ cx (Or.inr ⟨mk, hm, rfl, rfl, hR⟩) hP hS dX3_removeAll_20
set_option maxHeartbeats 4000000 in
set_option maxRecDepth 100000 in
theorem c_X3_open (l : Launch) (D : va_G) (cI cZ cO cC : ClassId) (ad : Nat → Nat) (cx : Nat → va_E) (L : Nat → List tt_T3) (ch : Nat) (C : Nat → tt_CU) (hR : tt_R cI cZ cO cC ad cx L ch C) (x1 s1 p1 o1 : Int32) (q : Nat) (hq : tt_fc C q) (hI : tt_I L) : tt_Muti (S := (Nat → va_E)) l yX3_open wsX3_open ({ frames := 4, cells := 0, slots := 0, locals := 104 } : Room) D (tt_tys cI cZ cO cC) true (tt_blk 21 ad cx) [.ref (ad 0), .int x1, .int s1, .int p1, .int o1] (fun r u => (¬ (¬ x1 < 0 ∧ ¬ 8 ≤ x1) ∧ r = (-1) ∧ tt_R cI cZ cO cC ad u L ch C) ∨ (∃ mk, mk < 8 ∧ x1 = nI mk ∧ ((q = 8 ∧ r = (-2) ∧ tt_R cI cZ cO cC ad u L ch C) ∨ (q < 8 ∧ r = nI q ∧ tt_R cI cZ cO cC ad u L ch (va_up C q (true, false, tt_o mk, ch, tt_st mk s1 p1 o1 L, tt_en mk s1 p1 o1 L)))))) (fun u => tt_blk 21 ad u) := by
  refine tt_muti (cc := cX3_open) (maxL := 8) (rt := .int) (by decide) rfl (fun _ _ _ => rfl) (Nat.le_of_ble_eq_true rfl) ?_
  intro p e s m below meth c Q ls A hfix hK hP hD hA hE hl kr
  obtain ⟨hx, hb, hml, hown, hts⟩ := id hfix
  have hown : s.vm.findClass RX3 = some m.cls := hown
  have hfix : CallFix p m c cX3_open 8 s ([.ref (ad 0), .int x1, .int s1, .int p1, .int o1] : List Value).toArray wsX3_open RX3 := hfix
  have hl : lv_has ls 8 [(0, .ref (ad 0)), (1, .int x1), (2, .int s1), (3, .int p1), (4, .int o1)] := hl
  have hf20 := hts (.fieldLink RX3 20 "TripleTrees" "cursors" "[LTripleTrees$Cursor;") (by decide +kernel)
  have hN54 : (Cond.fieldLinkNest RX3 54 "TripleTrees$Cursor" "isOpen" "Z" "TripleTrees").before ([.ref (ad 0), .int x1, .int s1, .int p1, .int o1] : List Value).toArray s = true := va_Nw.use rfl ((hE rfl).2.1 _ (by decide +kernel))
  have hf64 := hts (.fieldLink RX3 64 "TripleTrees" "ORDER_OF_MASK" "[I") (by decide +kernel)
  have hf44 := hts (.fieldLink RX3 44 "TripleTrees" "changed" "I") (by decide +kernel)
  have hinX0 : ∀ w ∈ u_ws RX0 TX0 6, w ∈ wsX3_open := by decide +kernel
  have hinX3 : ∀ w ∈ u_ws RX3 TX3 4, w ∈ wsX3_open := by decide +kernel
  have hS : va_S A s.heap s.heap [] := va_S.rf
  obtain ⟨⟨tb, hZ, hTb⟩, hNN⟩ := id (hE rfl)
  refine lv_iload_n hx hb dX3_open_0 rfl (lv_at hl 1 rfl) ?_
  refine tt_calli (va_runS (As := [.int x1]) (rest := []) hfix (c_X3_isMask l D cI cZ cO cC x1) (va_cwS 1 hts gX3_open_X3_isMask rfl rfl rfl (by decide +kernel) ⟨Nat.le_of_ble_eq_true rfl, Nat.le_of_ble_eq_true rfl⟩) (tt_preS hK tt_P0 tt_E.no) rfl rfl hl.1 rfl (lv_room (Nat.le_of_ble_eq_true rfl)) dX3_open_1 ⟨Nat.zero_le _, Nat.zero_le _⟩) hP hS (fun H locs hP hS => ?_)
  refine lv_if_ne (tgt := 9) hx hb dX3_open_4 (by decide) (fun hb4 => ?_) (fun hb4 => ?_)
  · obtain ⟨mk, hm, e1⟩ : ∃ j : Nat, j < 8 ∧ x1 = nI j := tt_ix (n := 8) (by omega) (tt_if1 hb4).1 (tt_if1 hb4).2
    subst e1
    have loop : ∀ (d i : Nat), (d + i = 8) → (i ≤ q) → ∀ (H : Heap) (locs : List Loc) (ls : Array Slot), va_P D vwCl (tt_blk 21 ad cx) H → va_D A (tt_blk 21 ad cx) → va_S A s.heap H locs → lv_has ls 8 [(5, .int (nI i)), (0, .ref (ad 0)), (1, .int (nI mk)), (2, .int s1), (3, .int p1), (4, .int o1)] → W p l e ({ frames := 4, cells := 0, slots := 0, locals := 104 } : Room) s m ([.ref (ad 0), .int (nI mk), .int s1, .int p1, .int o1] : List Value).toArray below meth c H locs 0 0 Q (F0 m 12 ls []) := by
      intro d
      induction d with
      | zero =>
        intro i hd hi H locs ls hP hD hS hl
        refine lv_iload hx hb dX3_open_12 (lv_at hl 0 rfl) ?_
        refine lv_aload_n hx hb dX3_open_14 rfl (lv_at hl 1 rfl) ?_
        refine va_get (D := D) (ci := 3) (v := .ref (ad 2)) (C := RX3) (T := TX3) (N := 4) hx hb hts hinX3 hown hK hP 0 (tt_bg (by omega) hR.1) rfl 1 (by decide) hf20 (fun _ h9 => h9) rfl dX3_open_15 ?_
        refine va_alen (v := 8) hx hb hK hP 2 3 (tt_bg (by omega) hR.2.2.1) rfl rfl dX3_open_18 ?_
        refine lv_icmp_ge (tgt := 89) hx hb dX3_open_19 (by decide) (fun hb19 => ?_) (fun hb19 => ?_)
        · have hb19 : 8 ≤ i := (nI_leI (a := 8) (b := i) (by omega) (by omega)).mp hb19
          refine lv_bipush (v := (-2)) hx hb dX3_open_89 (by decide) ?_
          exact kr _ _ _ _ _ cx (Or.inr ⟨mk, hm, rfl, Or.inl ⟨by have := hq.1; omega, rfl, hR⟩⟩) hP hS dX3_open_91
        · have hb19 : ¬ 8 ≤ i := fun hz9 => hb19 ((nI_leI (a := 8) (b := i) (by omega) (by omega)).mpr hz9)
          exact absurd hb19 (by omega)
      | succ d ih =>
        intro i hd hi H locs ls hP hD hS hl
        have hi8 : i < 8 := by omega
        refine lv_iload hx hb dX3_open_12 (lv_at hl 0 rfl) ?_
        refine lv_aload_n hx hb dX3_open_14 rfl (lv_at hl 1 rfl) ?_
        refine va_get (D := D) (ci := 3) (v := .ref (ad 2)) (C := RX3) (T := TX3) (N := 4) hx hb hts hinX3 hown hK hP 0 (tt_bg (by omega) hR.1) rfl 1 (by decide) hf20 (fun _ h9 => h9) rfl dX3_open_15 ?_
        refine va_alen (v := 8) hx hb hK hP 2 3 (tt_bg (by omega) hR.2.2.1) rfl rfl dX3_open_18 ?_
        refine lv_icmp_ge (tgt := 89) hx hb dX3_open_19 (by decide) (fun hb19 => ?_) (fun hb19 => ?_)
        · have hb19 : 8 ≤ i := (nI_leI (a := 8) (b := i) (by omega) (by omega)).mp hb19
          exact absurd hb19 (by omega)
        · have hb19 : ¬ 8 ≤ i := fun hz9 => hb19 ((nI_leI (a := 8) (b := i) (by omega) (by omega)).mpr hz9)
          refine lv_aload_n hx hb dX3_open_22 rfl (lv_at hl 1 rfl) ?_
          refine va_get (D := D) (ci := 3) (v := .ref (ad 2)) (C := RX3) (T := TX3) (N := 4) hx hb hts hinX3 hown hK hP 0 (tt_bg (by omega) hR.1) rfl 1 (by decide) hf20 (fun _ h9 => h9) rfl dX3_open_23 ?_
          refine lv_iload hx hb dX3_open_26 (lv_at hl 0 rfl) ?_
          refine va_aldq hx hb hK hP 2 3 (tt_bg (by omega) hR.2.2.1) rfl (vp_in_nI (n := i) (by omega) (by omega)) dX3_open_28 ?_
          refine tt_rer (show va_rf (some (ad (13 + (nI i).toNatClampNeg))) = .ref (ad (13 + i)) from by rw [nI_clamp (by omega)]; rfl) ?_
          refine va_getN (host := "TripleTrees") (D := D) (ci := 0) (v := .int (tt_b (C i).1)) (C := RX0) (T := TX0) (N := 6) hx hb hts hinX0 hown hK hP (13 + i) (tt_bg (by omega) (hR.2.2.2.2.2 i hi8)) rfl 0 (by decide) hN54 (fun _ h9 => h9) rfl dX3_open_29 ?_
          refine lv_if_ne (tgt := 83) hx hb dX3_open_32 (by decide) (fun hb32 => ?_) (fun hb32 => ?_)
          · refine lv_iinc (v := nI (i + 1)) (lv' := [(5, .int (nI (i + 1))), (0, .ref (ad 0)), (1, .int (nI mk)), (2, .int s1), (3, .int p1), (4, .int o1)]) hx hb dX3_open_83 hl (k := 0) rfl (nI_add i 1) (by decide) rfl (fun ls hl => ?_)
            refine lv_goto (tgt := 12) hx hb dX3_open_86 (by decide) ?_
            exact ih (i + 1) (by omega) (tt_fc_lt hq hi hi8 (tt_b1 hb32)) H locs ls hP hD hS (lv_sub hl [0, 1, 2, 3, 4, 5] rfl)
          · refine lv_aload_n hx hb dX3_open_35 rfl (lv_at hl 1 rfl) ?_
            refine lv_iload_n hx hb dX3_open_36 rfl (lv_at hl 2 rfl) ?_
            refine lv_iload_n hx hb dX3_open_37 rfl (lv_at hl 3 rfl) ?_
            refine lv_iload_n hx hb dX3_open_38 rfl (lv_at hl 4 rfl) ?_
            refine lv_iload hx hb dX3_open_39 (lv_at hl 5 rfl) ?_
            have hPc := hP
            refine tt_calli (va_runV (As := [.int (nI mk), .int s1, .int p1, .int o1]) (rest := []) hfix (c_X3_startOf l D cI cZ cO cC ad cx L ch C hR mk s1 p1 o1 hm hI) (cwV 4 hts gX3_open_X3_startOf rfl rfl rfl (by decide +kernel) ⟨Nat.le_of_ble_eq_true rfl, Nat.le_of_ble_eq_true rfl⟩) (tt_preV (q0 := 0) (ci := 3) hK hPc ((hE.at hS).narrow (fun _ h => h.elim)) (tt_bg (by omega) hR.1) rfl) rfl rfl hl.1 rfl (lv_room (Nat.le_of_ble_eq_true rfl)) dX3_open_41 ⟨Nat.zero_le _, Nat.zero_le _⟩) hP hS (fun H locs hP hS => ?_)
            refine lv_istore (lv' := [(6, .int (nI (tt_st mk s1 p1 o1 L))), (5, .int (nI i)), (0, .ref (ad 0)), (1, .int (nI mk)), (2, .int s1), (3, .int p1), (4, .int o1)]) hx hb dX3_open_44 hl (by decide) rfl (fun ls hl => ?_)
            refine lv_aload_n hx hb dX3_open_46 rfl (lv_at hl 2 rfl) ?_
            refine lv_iload_n hx hb dX3_open_47 rfl (lv_at hl 3 rfl) ?_
            refine lv_iload_n hx hb dX3_open_48 rfl (lv_at hl 4 rfl) ?_
            refine lv_iload_n hx hb dX3_open_49 rfl (lv_at hl 5 rfl) ?_
            refine lv_iload hx hb dX3_open_50 (lv_at hl 6 rfl) ?_
            have hPc := hP
            refine tt_calli (va_runV (As := [.int (nI mk), .int s1, .int p1, .int o1]) (rest := []) hfix (c_X3_endOf l D cI cZ cO cC ad cx L ch C hR mk s1 p1 o1 hm hI) (cwV 4 hts gX3_open_X3_endOf rfl rfl rfl (by decide +kernel) ⟨Nat.le_of_ble_eq_true rfl, Nat.le_of_ble_eq_true rfl⟩) (tt_preV (q0 := 0) (ci := 3) hK hPc ((hE.at hS).narrow (fun _ h => h.elim)) (tt_bg (by omega) hR.1) rfl) rfl rfl hl.1 rfl (lv_room (Nat.le_of_ble_eq_true rfl)) dX3_open_52 ⟨Nat.zero_le _, Nat.zero_le _⟩) hP hS (fun H locs hP hS => ?_)
            refine lv_istore (lv' := [(7, .int (nI (tt_en mk s1 p1 o1 L))), (6, .int (nI (tt_st mk s1 p1 o1 L))), (5, .int (nI i)), (0, .ref (ad 0)), (1, .int (nI mk)), (2, .int s1), (3, .int p1), (4, .int o1)]) hx hb dX3_open_55 hl (by decide) rfl (fun ls hl => ?_)
            refine lv_aload_n hx hb dX3_open_57 rfl (lv_at hl 3 rfl) ?_
            refine va_get (D := D) (ci := 3) (v := .ref (ad 2)) (C := RX3) (T := TX3) (N := 4) hx hb hts hinX3 hown hK hP 0 (tt_bg (by omega) hR.1) rfl 1 (by decide) hf20 (fun _ h9 => h9) rfl dX3_open_58 ?_
            refine lv_iload hx hb dX3_open_61 (lv_at hl 2 rfl) ?_
            refine va_aldq hx hb hK hP 2 3 (tt_bg (by omega) hR.2.2.1) rfl (vp_in_nI (n := i) (by omega) (by omega)) dX3_open_63 ?_
            refine tt_rer (show va_rf (some (ad (13 + (nI i).toNatClampNeg))) = .ref (ad (13 + i)) from by rw [nI_clamp (by omega)]; rfl) ?_
            refine va_gets hx hb hZ hS hown hf64 (fun _ h9 => h9) dX3_open_64 ?_
            refine lv_iload_n hx hb dX3_open_67 rfl (lv_at hl 4 rfl) ?_
            refine va_ti (v := .int (nI (tt_o mk))) hx hb hTb hS (vp_in_nI (n := mk) (by omega) (by omega)) (tt_om_at (by omega)) dX3_open_68 ?_
            refine lv_iload hx hb dX3_open_69 (lv_at hl 1 rfl) ?_
            refine lv_iload hx hb dX3_open_71 (lv_at hl 0 rfl) ?_
            refine lv_aload_n hx hb dX3_open_73 rfl (lv_at hl 3 rfl) ?_
            refine va_get (D := D) (ci := 3) (v := .int (nI ch)) (C := RX3) (T := TX3) (N := 4) hx hb hts hinX3 hown hK hP 0 (tt_bg (by omega) hR.1) rfl 3 (by decide) hf44 (fun _ h9 => h9) rfl dX3_open_74 ?_
            have hCc := tt_C1 (tt_bg (n := 21) (ad := ad) (k := 13 + i) (by omega) (hR.2.2.2.2.2 i hi8))
            have hPc := tt_pick hP hCc
            have hDc := hD.sub [13 + i] (tt_nd1 _) hCc
            refine tt_mcallv (va_runV (As := [.int (nI (tt_o mk)), .int (nI (tt_st mk s1 p1 o1 L)), .int (nI (tt_en mk s1 p1 o1 L)), .int (nI ch)]) (rest := []) hfix (c_X0_begin l D cI cZ cO cC (ad (13 + i)) (tt_b (C i).1) (tt_b (C i).2.1) (nI (C i).2.2.1) (nI (C i).2.2.2.1) (nI (C i).2.2.2.2.1) (nI (C i).2.2.2.2.2) (nI (tt_o mk)) (nI (tt_st mk s1 p1 o1 L)) (nI (tt_en mk s1 p1 o1 L)) (nI ch) _) (cwV 4 hts gX3_open_X0_begin rfl rfl rfl (by decide +kernel) ⟨Nat.le_of_ble_eq_true rfl, Nat.le_of_ble_eq_true rfl⟩) (tt_mpreV (q0 := 0) (ci := 0) hK hPc hDc tt_E.no rfl rfl) rfl rfl hl.1 rfl (lv_room (Nat.le_of_ble_eq_true rfl)) dX3_open_77 ⟨Nat.zero_le _, Nat.zero_le _⟩) hP hD hS hA [13 + i] (tt_nd1 _) hCc (fun _ => rfl) (fun u H locs hu hP hD hS => ?_)
            obtain ⟨cx, hR, hP, hD⟩ := tt_aftC hR hi8 (true, false, tt_o mk, ch, tt_st mk s1 p1 o1 L, tt_en mk s1 p1 o1 L) rfl hP hD
            refine lv_iload hx hb dX3_open_80 (lv_at hl 2 rfl) ?_
            have hiq : i = q := tt_fc_eq hq hi hi8 (tt_b0 hb32)
            subst hiq
            exact kr _ _ _ _ _ cx (Or.inr ⟨mk, hm, rfl, Or.inr ⟨hi8, rfl, hR⟩⟩) hP hS dX3_open_82
    refine lv_iconst (v := 0) hx hb dX3_open_9 (by decide) ?_
    refine lv_istore (lv' := [(5, .int 0), (0, .ref (ad 0)), (1, .int (nI mk)), (2, .int s1), (3, .int p1), (4, .int o1)]) hx hb dX3_open_10 hl (by decide) rfl (fun ls hl => ?_)
    exact loop 8 0 (by omega) (by omega) _ _ ls hP hD hS (lv_sub hl [0, 1, 2, 3, 4, 5] rfl)
  · refine lv_iconst (v := (-1)) hx hb dX3_open_7 (by decide) ?_
    exact kr _ _ _ _ _ cx (Or.inl ⟨tt_if0 hb4, rfl, hR⟩) hP hS dX3_open_8
set_option maxHeartbeats 4000000 in
set_option maxRecDepth 100000 in
theorem c_X3_next (l : Launch) (D : va_G) (cI cZ cO cC : ClassId) (ad : Nat → Nat) (cx : Nat → va_E) (L : Nat → List tt_T3) (ch : Nat) (C : Nat → tt_CU) (hR : tt_R cI cZ cO cC ad cx L ch C) (c1 : Int32) (hCI : tt_CI C ch) (hch : ch < 2 ^ 30) : tt_Muti (S := (Nat → va_E)) l yX3_next wsX3_next ({ frames := 1, cells := 0, slots := 0, locals := 21 } : Room) D (tt_tys cI cZ cO cC) true (tt_blk 21 ad cx) [.ref (ad 0), .int c1] (fun r u => (¬ tt_op C c1 ∧ r = (-1) ∧ tt_R cI cZ cO cC ad u L ch C) ∨ (∃ j, j < 8 ∧ c1 = nI j ∧ (C j).1 = true ∧ ((¬ (C j).2.2.2.1 = ch ∧ r = (-3) ∧ tt_R cI cZ cO cC ad u L ch C) ∨ ((C j).2.2.2.1 = ch ∧ r = tt_gr (C j) ∧ tt_R cI cZ cO cC ad u L ch (va_up C j (tt_gn (C j))))))) (fun u => tt_blk 21 ad u) := by
  refine tt_muti (cc := cX3_next) (maxL := 2) (rt := .int) (by decide) rfl (fun _ _ _ => rfl) (Nat.le_of_ble_eq_true rfl) ?_
  intro p e s m below meth c Q ls A hfix hK hP hD hA hE hl kr
  obtain ⟨hx, hb, hml, hown, hts⟩ := id hfix
  have hown : s.vm.findClass RX3 = some m.cls := hown
  have hfix : CallFix p m c cX3_next 2 s ([.ref (ad 0), .int c1] : List Value).toArray wsX3_next RX3 := hfix
  have hl : lv_has ls 2 [(0, .ref (ad 0)), (1, .int c1)] := hl
  have hf20 := hts (.fieldLink RX3 20 "TripleTrees" "cursors" "[LTripleTrees$Cursor;") (by decide +kernel)
  have hinX3 : ∀ w ∈ u_ws RX3 TX3 4, w ∈ wsX3_next := by decide +kernel
  have hS : va_S A s.heap s.heap [] := va_S.rf
  refine lv_aload_n hx hb dX3_next_0 rfl (lv_at hl 0 rfl) ?_
  refine lv_iload_n hx hb dX3_next_1 rfl (lv_at hl 1 rfl) ?_
  have hPc := hP
  refine tt_calli (va_runV (As := [.int c1]) (rest := []) hfix (c_X3_isOpenCursor l D cI cZ cO cC ad cx L ch C hR c1) (cwV 1 hts gX3_next_X3_isOpenCursor rfl rfl rfl (by decide +kernel) ⟨Nat.le_of_ble_eq_true rfl, Nat.le_of_ble_eq_true rfl⟩) (tt_preV (q0 := 0) (ci := 3) hK hPc ((hE.at hS).narrow (fun _ h => h.elim)) (tt_bg (by omega) hR.1) rfl) rfl rfl hl.1 rfl (lv_room (Nat.le_of_ble_eq_true rfl)) dX3_next_2 ⟨Nat.zero_le _, Nat.zero_le _⟩) hP hS (fun H locs hP hS => ?_)
  refine lv_if_ne (tgt := 10) hx hb dX3_next_5 (by decide) (fun hb5 => ?_) (fun hb5 => ?_)
  · obtain ⟨j, hj, e1⟩ : ∃ j : Nat, j < 8 ∧ c1 = nI j := tt_ix (n := 8) (by omega) (tt_if1 hb5).1 (tt_if1 hb5).2.1
    have hop := tt_if1 hb5
    subst e1
    have hop := (tt_op_in hj).mp hop
    obtain ⟨hq1, hq2, hq3, hq4, hq5⟩ := hCI j hj
    refine lv_aload_n hx hb dX3_next_10 rfl (lv_at hl 0 rfl) ?_
    refine lv_iload_n hx hb dX3_next_11 rfl (lv_at hl 1 rfl) ?_
    have hPc := hP
    refine tt_calli (va_runV (As := [.int (nI j)]) (rest := []) hfix (c_X3_isStale l D cI cZ cO cC ad cx L ch C hR j hj (by omega) (by omega)) (cwV 1 hts gX3_next_X3_isStale rfl rfl rfl (by decide +kernel) ⟨Nat.le_of_ble_eq_true rfl, Nat.le_of_ble_eq_true rfl⟩) (tt_preV (q0 := 0) (ci := 3) hK hPc ((hE.at hS).narrow (fun _ h => h.elim)) (tt_bg (by omega) hR.1) rfl) rfl rfl hl.1 rfl (lv_room (Nat.le_of_ble_eq_true rfl)) dX3_next_12 ⟨Nat.zero_le _, Nat.zero_le _⟩) hP hS (fun H locs hP hS => ?_)
    refine lv_if_eq (tgt := 23) hx hb dX3_next_15 (by decide) (fun hb15 => ?_) (fun hb15 => ?_)
    · refine lv_aload_n hx hb dX3_next_23 rfl (lv_at hl 0 rfl) ?_
      refine va_get (D := D) (ci := 3) (v := .ref (ad 2)) (C := RX3) (T := TX3) (N := 4) hx hb hts hinX3 hown hK hP 0 (tt_bg (by omega) hR.1) rfl 1 (by decide) hf20 (fun _ h9 => h9) rfl dX3_next_24 ?_
      refine lv_iload_n hx hb dX3_next_27 rfl (lv_at hl 1 rfl) ?_
      refine va_aldq hx hb hK hP 2 3 (tt_bg (by omega) hR.2.2.1) rfl (vp_in_nI (n := j) (by omega) (by omega)) dX3_next_28 ?_
      refine tt_rer (show va_rf (some (ad (13 + (nI j).toNatClampNeg))) = .ref (ad (13 + j)) from by rw [nI_clamp (by omega)]; rfl) ?_
      have hCc := tt_C1 (tt_bg (n := 21) (ad := ad) (k := 13 + j) (by omega) (hR.2.2.2.2.2 j hj))
      have hPc := tt_pick hP hCc
      have hDc := hD.sub [13 + j] (tt_nd1 _) hCc
      refine tt_mcalli (va_runV (As := []) (rest := []) hfix (c_X0_goOn l D cI cZ cO cC (ad (13 + j)) (tt_b (C j).1) (tt_b (C j).2.1) (nI (C j).2.2.1) (nI (C j).2.2.2.1) (C j).2.2.2.2.1 (C j).2.2.2.2.2 (by omega) (by omega) _) (cwV 0 hts gX3_next_X0_goOn rfl rfl rfl (by decide +kernel) ⟨Nat.le_of_ble_eq_true rfl, Nat.le_of_ble_eq_true rfl⟩) (tt_mpreV (q0 := 0) (ci := 0) hK hPc hDc tt_E.no rfl rfl) rfl rfl hl.1 rfl (lv_room (Nat.le_of_ble_eq_true rfl)) dX3_next_29 ⟨Nat.zero_le _, Nat.zero_le _⟩) hP hD hS hA [13 + j] (tt_nd1 _) hCc (fun _ => rfl) (fun r1 u H locs hu hP hD hS => ?_)
      obtain ⟨cx, hR, hP, hD⟩ := tt_aftC hR hj (tt_gn (C j)) (tt_gn_cv _) hP hD
      exact kr _ _ _ _ _ cx (Or.inr ⟨j, hj, rfl, hop, Or.inr ⟨Decidable.not_not.mp (tt_if0 hb15), hu, hR⟩⟩) hP hS dX3_next_32
    · refine lv_bipush (v := (-3)) hx hb dX3_next_18 (by decide) ?_
      refine lv_goto (tgt := 32) hx hb dX3_next_20 (by decide) ?_
      exact kr _ _ _ _ _ cx (Or.inr ⟨j, hj, rfl, hop, Or.inl ⟨tt_if1 hb15, rfl, hR⟩⟩) hP hS dX3_next_32
  · refine lv_iconst (v := (-1)) hx hb dX3_next_8 (by decide) ?_
    exact kr _ _ _ _ _ cx (Or.inl ⟨tt_if0 hb5, rfl, hR⟩) hP hS dX3_next_9
set_option maxHeartbeats 4000000 in
set_option maxRecDepth 100000 in
theorem c_X3_seek (l : Launch) (D : va_G) (cI cZ cO cC : ClassId) (ad : Nat → Nat) (cx : Nat → va_E) (L : Nat → List tt_T3) (ch : Nat) (C : Nat → tt_CU) (hR : tt_R cI cZ cO cC ad cx L ch C) (c1 a1 a2 a3 : Int32) (hCI : tt_CI C ch) (hch : ch < 2 ^ 30) (hI : tt_I L) : tt_Muti (S := (Nat → va_E)) l yX3_seek wsX3_seek ({ frames := 2, cells := 0, slots := 0, locals := 61 } : Room) D (tt_tys cI cZ cO cC) true (tt_blk 21 ad cx) [.ref (ad 0), .int c1, .int a1, .int a2, .int a3] (fun r u => (¬ tt_op C c1 ∧ r = (-1) ∧ tt_R cI cZ cO cC ad u L ch C) ∨ (∃ j, j < 8 ∧ c1 = nI j ∧ (C j).1 = true ∧ ((¬ (C j).2.2.2.1 = ch ∧ r = (-3) ∧ tt_R cI cZ cO cC ad u L ch C) ∨ ((C j).2.2.2.1 = ch ∧ r = tt_gr (tt_sk (C j) (tt_pl (C j).2.2.1 3 a1 a2 a3 0 (L (C j).2.2.1))) ∧ tt_R cI cZ cO cC ad u L ch (va_up C j (tt_gn (tt_sk (C j) (tt_pl (C j).2.2.1 3 a1 a2 a3 0 (L (C j).2.2.1))))))))) (fun u => tt_blk 21 ad u) := by
  refine tt_muti (cc := cX3_seek) (maxL := 6) (rt := .int) (by decide) rfl (fun _ _ _ => rfl) (Nat.le_of_ble_eq_true rfl) ?_
  intro p e s m below meth c Q ls A hfix hK hP hD hA hE hl kr
  obtain ⟨hx, hb, hml, hown, hts⟩ := id hfix
  have hown : s.vm.findClass RX3 = some m.cls := hown
  have hfix : CallFix p m c cX3_seek 6 s ([.ref (ad 0), .int c1, .int a1, .int a2, .int a3] : List Value).toArray wsX3_seek RX3 := hfix
  have hl : lv_has ls 6 [(0, .ref (ad 0)), (1, .int c1), (2, .int a1), (3, .int a2), (4, .int a3)] := hl
  have hf20 := hts (.fieldLink RX3 20 "TripleTrees" "cursors" "[LTripleTrees$Cursor;") (by decide +kernel)
  have hf11 := hts (.fieldLink RX3 11 "TripleTrees" "orders" "[LTripleTrees$Order;") (by decide +kernel)
  have hN82 : (Cond.fieldLinkNest RX3 82 "TripleTrees$Cursor" "order" "I" "TripleTrees").before ([.ref (ad 0), .int c1, .int a1, .int a2, .int a3] : List Value).toArray s = true := va_Nw.use rfl ((hE rfl).2.1 _ (by decide +kernel))
  have hinX0 : ∀ w ∈ u_ws RX0 TX0 6, w ∈ wsX3_seek := by decide +kernel
  have hinX3 : ∀ w ∈ u_ws RX3 TX3 4, w ∈ wsX3_seek := by decide +kernel
  have hS : va_S A s.heap s.heap [] := va_S.rf
  refine lv_aload_n hx hb dX3_seek_0 rfl (lv_at hl 0 rfl) ?_
  refine lv_iload_n hx hb dX3_seek_1 rfl (lv_at hl 1 rfl) ?_
  have hPc := hP
  refine tt_calli (va_runV (As := [.int c1]) (rest := []) hfix (c_X3_isOpenCursor l D cI cZ cO cC ad cx L ch C hR c1) (cwV 1 hts gX3_seek_X3_isOpenCursor rfl rfl rfl (by decide +kernel) ⟨Nat.le_of_ble_eq_true rfl, Nat.le_of_ble_eq_true rfl⟩) (tt_preV (q0 := 0) (ci := 3) hK hPc ((hE.at hS).narrow (fun _ h => h.elim)) (tt_bg (by omega) hR.1) rfl) rfl rfl hl.1 rfl (lv_room (Nat.le_of_ble_eq_true rfl)) dX3_seek_2 ⟨Nat.zero_le _, Nat.zero_le _⟩) hP hS (fun H locs hP hS => ?_)
  refine lv_if_ne (tgt := 10) hx hb dX3_seek_5 (by decide) (fun hb5 => ?_) (fun hb5 => ?_)
  · obtain ⟨j, hj, e1⟩ : ∃ j : Nat, j < 8 ∧ c1 = nI j := tt_ix (n := 8) (by omega) (tt_if1 hb5).1 (tt_if1 hb5).2.1
    have hop := tt_if1 hb5
    subst e1
    have hop := (tt_op_in hj).mp hop
    obtain ⟨hq1, hq2, hq3, hq4, hq5⟩ := hCI j hj
    refine lv_aload_n hx hb dX3_seek_10 rfl (lv_at hl 0 rfl) ?_
    refine lv_iload_n hx hb dX3_seek_11 rfl (lv_at hl 1 rfl) ?_
    have hPc := hP
    refine tt_calli (va_runV (As := [.int (nI j)]) (rest := []) hfix (c_X3_isStale l D cI cZ cO cC ad cx L ch C hR j hj (by omega) (by omega)) (cwV 1 hts gX3_seek_X3_isStale rfl rfl rfl (by decide +kernel) ⟨Nat.le_of_ble_eq_true rfl, Nat.le_of_ble_eq_true rfl⟩) (tt_preV (q0 := 0) (ci := 3) hK hPc ((hE.at hS).narrow (fun _ h => h.elim)) (tt_bg (by omega) hR.1) rfl) rfl rfl hl.1 rfl (lv_room (Nat.le_of_ble_eq_true rfl)) dX3_seek_12 ⟨Nat.zero_le _, Nat.zero_le _⟩) hP hS (fun H locs hP hS => ?_)
    refine lv_if_eq (tgt := 21) hx hb dX3_seek_15 (by decide) (fun hb15 => ?_) (fun hb15 => ?_)
    · obtain ⟨f, ho, hp, hf⟩ := hR.2.2.2.2.1 ((C j).2.2.1) hq1
      refine lv_aload_n hx hb dX3_seek_21 rfl (lv_at hl 0 rfl) ?_
      refine va_get (D := D) (ci := 3) (v := .ref (ad 2)) (C := RX3) (T := TX3) (N := 4) hx hb hts hinX3 hown hK hP 0 (tt_bg (by omega) hR.1) rfl 1 (by decide) hf20 (fun _ h9 => h9) rfl dX3_seek_22 ?_
      refine lv_iload_n hx hb dX3_seek_25 rfl (lv_at hl 1 rfl) ?_
      refine va_aldq hx hb hK hP 2 3 (tt_bg (by omega) hR.2.2.1) rfl (vp_in_nI (n := j) (by omega) (by omega)) dX3_seek_26 ?_
      refine tt_rer (show va_rf (some (ad (13 + (nI j).toNatClampNeg))) = .ref (ad (13 + j)) from by rw [nI_clamp (by omega)]; rfl) ?_
      refine lv_astore (lv' := [(5, .ref (ad (13 + j))), (0, .ref (ad 0)), (1, .int (nI j)), (2, .int a1), (3, .int a2), (4, .int a3)]) hx hb dX3_seek_27 hl (by decide) rfl (fun ls hl => ?_)
      refine lv_aload hx hb dX3_seek_29 (lv_at hl 0 rfl) ?_
      refine lv_aload_n hx hb dX3_seek_31 rfl (lv_at hl 1 rfl) ?_
      refine va_get (D := D) (ci := 3) (v := .ref (ad 1)) (C := RX3) (T := TX3) (N := 4) hx hb hts hinX3 hown hK hP 0 (tt_bg (by omega) hR.1) rfl 0 (by decide) hf11 (fun _ h9 => h9) rfl dX3_seek_32 ?_
      refine lv_aload hx hb dX3_seek_35 (lv_at hl 0 rfl) ?_
      refine va_getN (host := "TripleTrees") (D := D) (ci := 0) (v := .int (nI ((C j).2.2.1))) (C := RX0) (T := TX0) (N := 6) hx hb hts hinX0 hown hK hP (13 + j) (tt_bg (by omega) (hR.2.2.2.2.2 j hj)) rfl 2 (by decide) hN82 (fun _ h9 => h9) rfl dX3_seek_37 ?_
      refine va_aldq hx hb hK hP 1 2 (tt_bg (by omega) hR.2.1) rfl (vp_in_nI (n := (C j).2.2.1) (by omega) (by omega)) dX3_seek_40 ?_
      refine tt_rer (show va_rf (some (ad (7 + (nI ((C j).2.2.1)).toNatClampNeg))) = .ref (ad (7 + ((C j).2.2.1))) from by rw [nI_clamp (by omega)]; rfl) ?_
      refine lv_iconst (v := 3) hx hb dX3_seek_41 (by decide) ?_
      refine lv_iload_n hx hb dX3_seek_42 rfl (lv_at hl 3 rfl) ?_
      refine lv_iload_n hx hb dX3_seek_43 rfl (lv_at hl 4 rfl) ?_
      refine lv_iload hx hb dX3_seek_44 (lv_at hl 5 rfl) ?_
      refine lv_iconst (v := 0) hx hb dX3_seek_46 (by decide) ?_
      have hPc := tt_pick2 hP (tt_bg (n := 21) (k := 7 + ((C j).2.2.1)) (by omega) ho) (tt_bg (n := 21) (k := 10 + ((C j).2.2.1)) (by omega) hp)
      refine tt_calli (va_runV (As := [.int 3, .int a1, .int a2, .int a3, .int 0]) (rest := [.ref (ad (13 + j))]) hfix (c_X1_placeTold l D cI cZ cO cC (ad (7 + ((C j).2.2.1))) (ad (10 + ((C j).2.2.1))) ((C j).2.2.1) (L ((C j).2.2.1)).length f 3 a1 a2 a3 0 (tt_pl (C j).2.2.1 3 a1 a2 a3 0 (L (C j).2.2.1)) (hI _ hq1).2.2 (tt_bd_f hf (hI _ hq1).1 3 _ _ _ 0 (Or.inl rfl))) (cwV 5 hts gX3_seek_X1_placeTold rfl rfl rfl (by decide +kernel) ⟨Nat.le_of_ble_eq_true rfl, Nat.le_of_ble_eq_true rfl⟩) (tt_preV (q0 := 0) (ci := 1) hK hPc tt_E.no rfl rfl) rfl rfl hl.1 rfl (lv_room (Nat.le_of_ble_eq_true rfl)) dX3_seek_47 ⟨Nat.zero_le _, Nat.zero_le _⟩) hP hS (fun H locs hP hS => ?_)
      have hpl := tt_pl_len (C j).2.2.1 3 a1 a2 a3 0 (L (C j).2.2.1)
      have hln := (hI _ hq1).2.2
      have hCc := tt_C1 (tt_bg (n := 21) (ad := ad) (k := 13 + j) (by omega) (hR.2.2.2.2.2 j hj))
      have hPc := tt_pick hP hCc
      have hDc := hD.sub [13 + j] (tt_nd1 _) hCc
      refine tt_mcallv (va_runV (As := [.int (nI (tt_pl (C j).2.2.1 3 a1 a2 a3 0 (L (C j).2.2.1)))]) (rest := []) hfix (c_X0_skipTo l D cI cZ cO cC (ad (13 + j)) (tt_b (C j).1) (tt_b (C j).2.1) (nI (C j).2.2.1) (nI (C j).2.2.2.1) (C j).2.2.2.2.1 (C j).2.2.2.2.2 (tt_pl (C j).2.2.1 3 a1 a2 a3 0 (L (C j).2.2.1)) (by omega) (by omega) (by omega) _) (cwV 1 hts gX3_seek_X0_skipTo rfl rfl rfl (by decide +kernel) ⟨Nat.le_of_ble_eq_true rfl, Nat.le_of_ble_eq_true rfl⟩) (tt_mpreV (q0 := 0) (ci := 0) hK hPc hDc tt_E.no rfl rfl) rfl rfl hl.1 rfl (lv_room (Nat.le_of_ble_eq_true rfl)) dX3_seek_50 ⟨Nat.zero_le _, Nat.zero_le _⟩) hP hD hS hA [13 + j] (tt_nd1 _) hCc (fun _ => rfl) (fun u H locs hu hP hD hS => ?_)
      obtain ⟨cx, hR, hP, hD⟩ := tt_aftC hR hj (tt_sk (C j) (tt_pl (C j).2.2.1 3 a1 a2 a3 0 (L (C j).2.2.1))) rfl hP hD
      have hcj := hR.2.2.2.2.2 j hj
      rw [va_up_self] at hcj
      obtain ⟨cj, ecj⟩ : ∃ z : tt_CU, z = tt_sk (C j) (tt_pl (C j).2.2.1 3 a1 a2 a3 0 (L (C j).2.2.1)) := ⟨_, rfl⟩
      have hb1 : cj.2.2.2.2.1 ≤ 700 := by rw [ecj]; exact Nat.le_trans (Nat.min_le_right _ _) hq4
      have hb2 : cj.2.2.2.2.2 ≤ 700 := by rw [ecj]; exact hq4
      rw [← ecj] at hcj hR
      refine lv_aload hx hb dX3_seek_53 (lv_at hl 0 rfl) ?_
      have hCc := tt_C1 (tt_bg (n := 21) (ad := ad) (k := 13 + j) (by omega) hcj)
      have hPc := tt_pick hP hCc
      have hDc := hD.sub [13 + j] (tt_nd1 _) hCc
      refine tt_mcalli (va_runV (As := []) (rest := []) hfix (c_X0_goOn l D cI cZ cO cC (ad (13 + j)) (tt_b cj.1) (tt_b cj.2.1) (nI cj.2.2.1) (nI cj.2.2.2.1) cj.2.2.2.2.1 cj.2.2.2.2.2 (by omega) (by omega) _) (cwV 0 hts gX3_seek_X0_goOn rfl rfl rfl (by decide +kernel) ⟨Nat.le_of_ble_eq_true rfl, Nat.le_of_ble_eq_true rfl⟩) (tt_mpreV (q0 := 0) (ci := 0) hK hPc hDc tt_E.no rfl rfl) rfl rfl hl.1 rfl (lv_room (Nat.le_of_ble_eq_true rfl)) dX3_seek_55 ⟨Nat.zero_le _, Nat.zero_le _⟩) hP hD hS hA [13 + j] (tt_nd1 _) hCc (fun _ => rfl) (fun r1 u H locs hu hP hD hS => ?_)
      obtain ⟨cx, hR, hP, hD⟩ := tt_aftC hR hj (tt_gn cj) (tt_gn_cv _) hP hD
      rw [bx_uu, ecj] at hR
      have hu : r1 = tt_gr cj := hu
      rw [ecj] at hu
      exact kr _ _ _ _ _ cx (Or.inr ⟨j, hj, rfl, hop, Or.inr ⟨Decidable.not_not.mp (tt_if0 hb15), hu, hR⟩⟩) hP hS dX3_seek_58
    · refine lv_bipush (v := (-3)) hx hb dX3_seek_18 (by decide) ?_
      exact kr _ _ _ _ _ cx (Or.inr ⟨j, hj, rfl, hop, Or.inl ⟨tt_if1 hb15, rfl, hR⟩⟩) hP hS dX3_seek_20
  · refine lv_iconst (v := (-1)) hx hb dX3_seek_8 (by decide) ?_
    exact kr _ _ _ _ _ cx (Or.inl ⟨tt_if0 hb5, rfl, hR⟩) hP hS dX3_seek_9
set_option maxHeartbeats 4000000 in
set_option maxRecDepth 100000 in
theorem c_X3_close (l : Launch) (D : va_G) (cI cZ cO cC : ClassId) (ad : Nat → Nat) (cx : Nat → va_E) (L : Nat → List tt_T3) (ch : Nat) (C : Nat → tt_CU) (hR : tt_R cI cZ cO cC ad cx L ch C) (c1 : Int32) (hCI : tt_CI C ch) (hch : ch < 2 ^ 30) : tt_Muti (S := (Nat → va_E)) l yX3_close wsX3_close ({ frames := 1, cells := 0, slots := 0, locals := 21 } : Room) D (tt_tys cI cZ cO cC) true (tt_blk 21 ad cx) [.ref (ad 0), .int c1] (fun r u => (¬ tt_op C c1 ∧ r = 0 ∧ tt_R cI cZ cO cC ad u L ch C) ∨ (∃ j, j < 8 ∧ c1 = nI j ∧ (C j).1 = true ∧ r = 1 ∧ tt_R cI cZ cO cC ad u L ch (va_up C j (false, (C j).2)))) (fun u => tt_blk 21 ad u) := by
  refine tt_muti (cc := cX3_close) (maxL := 2) (rt := .boolean) (by decide) rfl (fun r _ h => by rcases h with ⟨-, h, -⟩ | ⟨j, -, -, -, h, -⟩ <;> (rw [h]; rfl)) (Nat.le_of_ble_eq_true rfl) ?_
  intro p e s m below meth c Q ls A hfix hK hP hD hA hE hl kr
  obtain ⟨hx, hb, hml, hown, hts⟩ := id hfix
  have hown : s.vm.findClass RX3 = some m.cls := hown
  have hfix : CallFix p m c cX3_close 2 s ([.ref (ad 0), .int c1] : List Value).toArray wsX3_close RX3 := hfix
  have hl : lv_has ls 2 [(0, .ref (ad 0)), (1, .int c1)] := hl
  have hf20 := hts (.fieldLink RX3 20 "TripleTrees" "cursors" "[LTripleTrees$Cursor;") (by decide +kernel)
  have hN54 : (Cond.fieldLinkNest RX3 54 "TripleTrees$Cursor" "isOpen" "Z" "TripleTrees").before ([.ref (ad 0), .int c1] : List Value).toArray s = true := va_Nw.use rfl ((hE rfl).2.1 _ (by decide +kernel))
  have hinX0 : ∀ w ∈ u_ws RX0 TX0 6, w ∈ wsX3_close := by decide +kernel
  have hinX3 : ∀ w ∈ u_ws RX3 TX3 4, w ∈ wsX3_close := by decide +kernel
  have hS : va_S A s.heap s.heap [] := va_S.rf
  refine lv_aload_n hx hb dX3_close_0 rfl (lv_at hl 0 rfl) ?_
  refine lv_iload_n hx hb dX3_close_1 rfl (lv_at hl 1 rfl) ?_
  have hPc := hP
  refine tt_calli (va_runV (As := [.int c1]) (rest := []) hfix (c_X3_isOpenCursor l D cI cZ cO cC ad cx L ch C hR c1) (cwV 1 hts gX3_close_X3_isOpenCursor rfl rfl rfl (by decide +kernel) ⟨Nat.le_of_ble_eq_true rfl, Nat.le_of_ble_eq_true rfl⟩) (tt_preV (q0 := 0) (ci := 3) hK hPc ((hE.at hS).narrow (fun _ h => h.elim)) (tt_bg (by omega) hR.1) rfl) rfl rfl hl.1 rfl (lv_room (Nat.le_of_ble_eq_true rfl)) dX3_close_2 ⟨Nat.zero_le _, Nat.zero_le _⟩) hP hS (fun H locs hP hS => ?_)
  refine lv_if_ne (tgt := 10) hx hb dX3_close_5 (by decide) (fun hb5 => ?_) (fun hb5 => ?_)
  · obtain ⟨j, hj, e1⟩ : ∃ j : Nat, j < 8 ∧ c1 = nI j := tt_ix (n := 8) (by omega) (tt_if1 hb5).1 (tt_if1 hb5).2.1
    have hop := tt_if1 hb5
    subst e1
    have hop := (tt_op_in hj).mp hop
    obtain ⟨hq1, hq2, hq3, hq4, hq5⟩ := hCI j hj
    refine lv_aload_n hx hb dX3_close_10 rfl (lv_at hl 0 rfl) ?_
    refine va_get (D := D) (ci := 3) (v := .ref (ad 2)) (C := RX3) (T := TX3) (N := 4) hx hb hts hinX3 hown hK hP 0 (tt_bg (by omega) hR.1) rfl 1 (by decide) hf20 (fun _ h9 => h9) rfl dX3_close_11 ?_
    refine lv_iload_n hx hb dX3_close_14 rfl (lv_at hl 1 rfl) ?_
    refine va_aldq hx hb hK hP 2 3 (tt_bg (by omega) hR.2.2.1) rfl (vp_in_nI (n := j) (by omega) (by omega)) dX3_close_15 ?_
    refine tt_rer (show va_rf (some (ad (13 + (nI j).toNatClampNeg))) = .ref (ad (13 + j)) from by rw [nI_clamp (by omega)]; rfl) ?_
    refine lv_iconst (v := 0) hx hb dX3_close_16 (by decide) ?_
    refine va_putN (host := "TripleTrees") (D := D) (ci := 0) (v := .int 0) (ty := .boolean) (C := RX0) (T := TX0) (N := 6) hx hb hts hinX0 tyX0 tyX0_ok nmX0 hown hK hP hD hS (13 + j) (tt_bg (by omega) (hR.2.2.2.2.2 j hj)) rfl 0 (by decide) hN54 (fun _ h9 => h9) rfl (by decide +kernel) rfl rfl (Nat.le_of_ble_eq_true rfl) dX3_close_17 (fun H locs hP hD hS => ?_)
    obtain ⟨cx, hR, hP, hD⟩ : ∃ g : Nat → va_E, tt_R cI cZ cO cC ad g L ch (va_up C j (false, (C j).2)) ∧ va_P D vwCl (tt_blk 21 ad g) H ∧ va_D A (tt_blk 21 ad g) := ⟨_, hR.setC hj (false, (C j).2), by rw [← tt_bset]; exact hP, by rw [← tt_bset]; exact hD⟩
    refine lv_iconst (v := 1) hx hb dX3_close_20 (by decide) ?_
    exact kr _ _ _ _ _ cx (Or.inr ⟨j, hj, rfl, hop, rfl, hR⟩) hP hS dX3_close_21
  · refine lv_iconst (v := 0) hx hb dX3_close_8 (by decide) ?_
    exact kr _ _ _ _ _ cx (Or.inl ⟨tt_if0 hb5, rfl, hR⟩) hP hS dX3_close_9

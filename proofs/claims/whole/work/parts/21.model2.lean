/-- how many of the first i places have q -/
def tt_cn (q : tt_T3 → Bool) (l : List tt_T3) : Nat → Nat
  | 0 => 0
  | i + 1 => tt_cn q l i + if q (tt_gt l i) = true then 1 else 0
theorem tt_cn_1 {q : tt_T3 → Bool} {l : List tt_T3} {i : Nat} (h : q (tt_gt l i) = true) : tt_cn q l (i + 1) = tt_cn q l i + 1 := by
  show tt_cn q l i + _ = _
  rw [if_pos h]
theorem tt_cn_0 {q : tt_T3 → Bool} {l : List tt_T3} {i : Nat} (h : ¬ q (tt_gt l i) = true) : tt_cn q l (i + 1) = tt_cn q l i + 0 := by
  show tt_cn q l i + _ = _
  rw [if_neg h]
theorem tt_cn_cons (q : tt_T3 → Bool) (t : tt_T3) (l : List tt_T3) : ∀ i, tt_cn q (t :: l) (i + 1) = (if q t = true then 1 else 0) + tt_cn q l i
  | 0 => by show 0 + _ = _; rw [tt_gt0]; show 0 + _ = _ + 0; omega
  | i + 1 => by
    show tt_cn q (t :: l) (i + 1) + _ = _ + (tt_cn q l i + _)
    rw [tt_cn_cons q t l i, tt_gtS]
    omega
theorem tt_cn_count (q : tt_T3 → Bool) : ∀ l : List tt_T3, tt_cn q l l.length = l.countP q
  | [] => rfl
  | t :: l => by
    rw [List.length_cons, tt_cn_cons, tt_cn_count q l, List.countP_cons]
    omega
theorem tt_at_in {L : Nat → List tt_T3} {k j t : Nat} (hk : k < 3) (hj : j < (L k).length) (ht : t < 3) (hn : (L k).length ≤ 700) : tt_pp t (tt_gt (L k) j) = if ¬ nI k < 0 ∧ ¬ 3 ≤ nI k then (fun k => tt_at (L k) (nI j) (nI t)) (nI k).toNatClampNeg else 0 := by
  refine Eq.trans ?_ (tt_ifin (n := 3) hk (by omega) (fun k => tt_at (L k) (nI j) (nI t)) 0).symm
  unfold tt_at
  rw [if_neg, nI_clamp (by omega), nI_clamp (by omega)]
  rintro (h | h | h | h)
  · exact nI_pos (by omega) h
  · exact nI_ge hj (by omega) h
  · exact nI_pos (by omega) h
  · exact nI_ge (b := 3) ht (by omega) h
theorem tt_at_out {L : Nat → List tt_T3} {n : Nat} (hI : tt_I L) (hn : n = (L 0).length) {x1 x2 x3 : Int32} (h : x1 < 0 ∨ 3 ≤ x1 ∨ x2 < 0 ∨ nI n ≤ x2 ∨ x3 < 0 ∨ 3 ≤ x3) : (0 : Int32) = if ¬ x1 < 0 ∧ ¬ 3 ≤ x1 then (fun k => tt_at (L k) x2 x3) x1.toNatClampNeg else 0 := by
  by_cases hc : ¬ x1 < 0 ∧ ¬ 3 ≤ x1
  · rw [if_pos hc]
    obtain ⟨k, hk, e⟩ := tt_ix (n := 3) (by omega) hc.1 hc.2
    subst e
    show (0 : Int32) = tt_at (L (nI k).toNatClampNeg) x2 x3
    rw [nI_clamp (by omega)]
    have hlk : (L k).length = n := (hI k hk).2.1.length_eq.trans hn.symm
    unfold tt_at
    rw [hlk, if_pos]
    rcases h with h | h | h
    · exact absurd h hc.1
    · exact absurd h hc.2
    · exact h
  · rw [if_neg hc]
theorem tt_dn_1 {g : Nat → Int32} {i : Nat} (h : i = 0 ∨ ¬ g i = g (i - 1)) : tt_dn g (i + 1) = tt_dn g i + 1 := by
  show tt_dn g i + _ = _
  rw [if_pos h]
theorem tt_dn_0 {g : Nat → Int32} {i : Nat} (h0 : ¬ i = 0) (h : g i = g (i - 1)) : tt_dn g (i + 1) = tt_dn g i + 0 := by
  show tt_dn g i + _ = _
  rw [if_neg (by rintro (h1 | h1) <;> contradiction)]
/-- what holds of the reference's cursors -/
def tt_KI (K : Nat → tt_KU) (n : Nat) : Prop := ∀ j, j < 8 → (K j).2.2.1 < 8 ∧ (K j).2.2.2.2.2.2 ≤ 702 + 0 * n
def tt_qrj (u : tt_KU) (L : Nat → List tt_T3) (x : Int32) : Int32 := if u.2.1 = false ∧ 1 ≤ u.2.2.2.2.2.2 then tt_at (L (tt_o u.2.2.1)) (nI (u.2.2.2.2.2.2 - 1)) x else 0
theorem tt_ok_if {α : Type} {K : Nat → tt_KU} {j : Nat} (hj : j < 8) (g : Nat → α) (d : α) (h : (K j).1 = true) : (if tt_ok K (nI j) then g (nI j).toNatClampNeg else d) = g j := by
  rw [if_pos ((tt_ok_in hj).mpr h), nI_clamp (by omega)]
theorem tt_pk1 {a : Nat} (h : 1 ≤ a) : nI a - 1 = nI (a - 1) := by
  obtain ⟨b, rfl⟩ : ∃ b, a = b + 1 := ⟨a - 1, by omega⟩
  exact nI_pred b
theorem tt_pk_neg {a : Nat} (ha : a < 2 ^ 31) (h : nI a - 1 < 0) : a = 0 := by
  rcases Nat.eq_zero_or_pos a with e | e
  · exact e
  · rw [tt_pk1 e] at h
    exact absurd h (nI_pos (by omega))
theorem tt_pk_pos {a : Nat} (ha : a < 2 ^ 31) (h : ¬ nI a - 1 < 0) : 1 ≤ a := by
  rcases Nat.eq_zero_or_pos a with e | e
  · subst e
    exact absurd (by decide) h
  · exact e
theorem tt_qrj_in {u : tt_KU} {L : Nat → List tt_T3} {t : Nat} (h1 : u.2.1 = false) (h2 : 1 ≤ u.2.2.2.2.2.2) (h3 : u.2.2.2.2.2.2 - 1 < (L (tt_o u.2.2.1)).length) (ht : t < 3) (hn : (L (tt_o u.2.2.1)).length ≤ 700) : tt_qrj u L (nI t) = tt_pp t (tt_gt (L (tt_o u.2.2.1)) (u.2.2.2.2.2.2 - 1)) := by
  unfold tt_qrj tt_at
  rw [if_pos ⟨h1, h2⟩, if_neg, nI_clamp (by omega), nI_clamp (by omega)]
  rintro (h | h | h | h)
  · exact nI_pos (by omega) h
  · exact nI_ge h3 (by omega) h
  · exact nI_pos (by omega) h
  · exact nI_ge (b := 3) ht (by omega) h
theorem tt_qrj_stale {u : tt_KU} {L : Nat → List tt_T3} {x : Int32} (h : u.2.1 = true) : tt_qrj u L x = 0 := if_neg (fun q => by rw [h] at q; cases q.1)
theorem tt_qrj_pk {u : tt_KU} {L : Nat → List tt_T3} {x : Int32} (h : u.2.2.2.2.2.2 = 0) : tt_qrj u L x = 0 := if_neg (fun q => by omega)
theorem tt_qrj_x {u : tt_KU} {L : Nat → List tt_T3} {x : Int32} (h : x < 0 ∨ 3 ≤ x) : tt_qrj u L x = 0 := by
  unfold tt_qrj tt_at
  split
  · exact if_pos (Or.inr (Or.inr h))
  · rfl
theorem tt_qrj_end {u : tt_KU} {L : Nat → List tt_T3} {n : Nat} {x : Int32} (hI : tt_I L) (hn : n = (L 0).length) (hb : u.2.2.2.2.2.2 < 2 ^ 31) (h : ¬ u.2.2.2.2.2.2 - 1 < n) : tt_qrj u L x = 0 := by
  have hk := tt_o_lt u.2.2.1
  have hlk : (L (tt_o u.2.2.1)).length = n := (hI _ hk).2.1.length_eq.trans hn.symm
  have h700 := (hI _ hk).2.2
  unfold tt_qrj tt_at
  split
  · refine if_pos (Or.inr (Or.inl ?_))
    rw [hlk]
    exact nI_le (by omega) (by omega)
  · rfl
set_option maxHeartbeats 4000000 in
set_option maxRecDepth 100000 in
theorem c_X4_many (l : Launch) (D : va_G) (cI cZ cO cC : ClassId) (ad : Nat → Nat) (cx : Nat → va_E) (n : Nat) (L : Nat → List tt_T3) (ch : Nat) (K : Nat → tt_KU) (hQ : tt_Q cI cZ ad cx n L ch K) (x1 s1 p1 o1 : Int32) (hI : tt_I L) (hn : n = (L 0).length) : tt_Pure l yX4_many wsX4_many ({ frames := 2, cells := 0, slots := 0, locals := 49 } : Room) D (tt_tys cI cZ cO cC) false (tt_blk 9 ad cx) [.ref (ad 0), .int x1, .int s1, .int p1, .int o1] (if ¬ x1 < 0 ∧ ¬ 8 ≤ x1 then (fun mk => nI (tt_mn mk s1 p1 o1 L)) x1.toNatClampNeg else (-1)) := by
  refine tt_pure (cc := cX4_many) (maxL := 7) (rt := .int) (by decide) rfl (rfl) (Nat.le_of_ble_eq_true rfl) ?_
  intro p e s m below meth c Q ls hfix hK hP hE hl kr
  obtain ⟨hx, hb, hml, hown, hts⟩ := id hfix
  have hown : s.vm.findClass RX4 = some m.cls := hown
  have hfix : CallFix p m c cX4_many 7 s ([.ref (ad 0), .int x1, .int s1, .int p1, .int o1] : List Value).toArray wsX4_many RX4 := hfix
  have hl : lv_has ls 7 [(0, .ref (ad 0)), (1, .int x1), (2, .int s1), (3, .int p1), (4, .int o1)] := hl
  have hf35 := hts (.fieldLink RX4 35 "TripleTreesModel" "size" "I") (by decide +kernel)
  have hinX4 : ∀ w ∈ u_ws RX4 TX4 11, w ∈ wsX4_many := by decide +kernel
  have hS : va_S (fun _ => False) s.heap s.heap [] := va_S.rf
  obtain ⟨mt, f, me, ms, h9, hf⟩ := id hQ
  have h700 := (hI 0 (by omega)).2.2
  refine lv_iload_n hx hb dX4_many_0 rfl (lv_at hl 1 rfl) ?_
  refine tt_calli (va_runS (As := [.int x1]) (rest := []) hfix (c_X4_isMask l D cI cZ cO cC x1) (va_cwS 1 hts gX4_many_X4_isMask rfl rfl rfl (by decide +kernel) ⟨Nat.le_of_ble_eq_true rfl, Nat.le_of_ble_eq_true rfl⟩) (tt_preS hK tt_P0 tt_E.no) rfl rfl hl.1 rfl (lv_room (Nat.le_of_ble_eq_true rfl)) dX4_many_1 ⟨Nat.zero_le _, Nat.zero_le _⟩) hP hS (fun H locs hP hS => ?_)
  refine lv_if_ne (tgt := 9) hx hb dX4_many_4 (by decide) (fun hb4 => ?_) (fun hb4 => ?_)
  · obtain ⟨mk, hm, e1⟩ : ∃ j : Nat, j < 8 ∧ x1 = nI j := tt_ix (n := 8) (by omega) (tt_if1 hb4).1 (tt_if1 hb4).2
    subst e1
    have loop : ∀ (d i : Nat), (d + i = n) → ∀ (H : Heap) (locs : List Loc) (ls : Array Slot), va_P D vwCl (tt_blk 9 ad cx) H → va_S (fun _ => False) s.heap H locs → lv_has ls 7 [(6, .int (nI i)), (5, .int (nI (tt_cn (tt_mt mk s1 p1 o1) (L 0) i))), (0, .ref (ad 0)), (1, .int (nI mk)), (2, .int s1), (3, .int p1), (4, .int o1)] → W p l e ({ frames := 2, cells := 0, slots := 0, locals := 49 } : Room) s m ([.ref (ad 0), .int (nI mk), .int s1, .int p1, .int o1] : List Value).toArray below meth c H locs 0 0 Q (F0 m 15 ls []) := by
      intro d
      induction d with
      | zero =>
        intro i hd H locs ls hP hS hl
        refine lv_iload hx hb dX4_many_15 (lv_at hl 0 rfl) ?_
        refine lv_aload_n hx hb dX4_many_17 rfl (lv_at hl 2 rfl) ?_
        refine va_get (D := D) (ci := 4) (v := .int (nI n)) (C := RX4) (T := TX4) (N := 11) hx hb hts hinX4 hown hK hP 0 (tt_bg (by omega) h9.1) rfl 1 (by decide) hf35 (fun _ h9 => h9) rfl dX4_many_18 ?_
        refine lv_icmp_ge (tgt := 55) hx hb dX4_many_21 (by decide) (fun hb21 => ?_) (fun hb21 => ?_)
        · have hb21 : n ≤ i := (nI_leI (a := n) (b := i) (by omega) (by omega)).mp hb21
          refine lv_iload hx hb dX4_many_55 (lv_at hl 1 rfl) ?_
          have hi : i = (L 0).length := by omega
          rw [hi]
          refine tt_rei (show nI (tt_cn (tt_mt mk s1 p1 o1) (L 0) (L 0).length) = if ¬ (nI mk) < 0 ∧ ¬ 8 ≤ (nI mk) then (fun mk => nI (tt_mn mk s1 p1 o1 L)) (nI mk).toNatClampNeg else (-1) from ?_) ?_
          · rw [tt_cn_count, ← tt_mn_count hm s1 p1 o1 hI]; exact (tt_ifin (n := 8) hm (by omega) (fun mk => nI (tt_mn mk s1 p1 o1 L)) (-1)).symm
          exact kr _ _ _ _ hS dX4_many_57
        · have hb21 : ¬ n ≤ i := fun hz9 => hb21 ((nI_leI (a := n) (b := i) (by omega) (by omega)).mpr hz9)
          exact absurd hb21 (by omega)
      | succ d ih =>
        intro i hd H locs ls hP hS hl
        refine lv_iload hx hb dX4_many_15 (lv_at hl 0 rfl) ?_
        refine lv_aload_n hx hb dX4_many_17 rfl (lv_at hl 2 rfl) ?_
        refine va_get (D := D) (ci := 4) (v := .int (nI n)) (C := RX4) (T := TX4) (N := 11) hx hb hts hinX4 hown hK hP 0 (tt_bg (by omega) h9.1) rfl 1 (by decide) hf35 (fun _ h9 => h9) rfl dX4_many_18 ?_
        refine lv_icmp_ge (tgt := 55) hx hb dX4_many_21 (by decide) (fun hb21 => ?_) (fun hb21 => ?_)
        · have hb21 : n ≤ i := (nI_leI (a := n) (b := i) (by omega) (by omega)).mp hb21
          exact absurd hb21 (by omega)
        · have hb21 : ¬ n ≤ i := fun hz9 => hb21 ((nI_leI (a := n) (b := i) (by omega) (by omega)).mpr hz9)
          refine lv_iload hx hb dX4_many_24 (lv_at hl 1 rfl) ?_
          refine lv_aload_n hx hb dX4_many_26 rfl (lv_at hl 2 rfl) ?_
          refine lv_iconst (v := 0) hx hb dX4_many_27 (by decide) ?_
          refine lv_iload hx hb dX4_many_28 (lv_at hl 0 rfl) ?_
          refine lv_iload_n hx hb dX4_many_30 rfl (lv_at hl 3 rfl) ?_
          refine lv_iload_n hx hb dX4_many_31 rfl (lv_at hl 4 rfl) ?_
          refine lv_iload_n hx hb dX4_many_32 rfl (lv_at hl 5 rfl) ?_
          refine lv_iload hx hb dX4_many_33 (lv_at hl 6 rfl) ?_
          have hPc := hP
          refine tt_calli (va_runV (As := [.int 0, .int (nI i), .int (nI mk), .int s1, .int p1, .int o1]) (rest := [.int (nI (tt_cn (tt_mt mk s1 p1 o1) (L 0) i))]) hfix (c_X4_matches l D cI cZ cO cC ad cx n L ch K hQ 0 i mk s1 p1 o1 (by omega) (by omega) h700 hm) (cwV 6 hts gX4_many_X4_matches rfl rfl rfl (by decide +kernel) ⟨Nat.le_of_ble_eq_true rfl, Nat.le_of_ble_eq_true rfl⟩) (tt_preV (q0 := 0) (ci := 4) hK hPc tt_E.no (tt_bg (by omega) h9.1) rfl) rfl rfl hl.1 rfl (lv_room (Nat.le_of_ble_eq_true rfl)) dX4_many_35 ⟨Nat.zero_le _, Nat.zero_le _⟩) hP hS (fun H locs hP hS => ?_)
          refine lv_if_eq (tgt := 45) hx hb dX4_many_38 (by decide) (fun hb38 => ?_) (fun hb38 => ?_)
          · refine lv_iconst (v := 0) hx hb dX4_many_45 (by decide) ?_
            refine lv_iadd hx hb dX4_many_46 ?_
            refine tt_rei (show ((nI (tt_cn (tt_mt mk s1 p1 o1) (L 0) i)) + 0) = nI (tt_cn (tt_mt mk s1 p1 o1) (L 0) i + 0) from nI_add (tt_cn (tt_mt mk s1 p1 o1) (L 0) i) 0) ?_
            refine lv_istore (lv' := [(5, .int (nI (tt_cn (tt_mt mk s1 p1 o1) (L 0) i + 0))), (6, .int (nI i)), (0, .ref (ad 0)), (1, .int (nI mk)), (2, .int s1), (3, .int p1), (4, .int o1)]) hx hb dX4_many_47 hl (by decide) rfl (fun ls hl => ?_)
            refine lv_iinc (v := nI (i + 1)) (lv' := [(6, .int (nI (i + 1))), (5, .int (nI (tt_cn (tt_mt mk s1 p1 o1) (L 0) i + 0))), (0, .ref (ad 0)), (1, .int (nI mk)), (2, .int s1), (3, .int p1), (4, .int o1)]) hx hb dX4_many_49 hl (k := 1) rfl (nI_add i 1) (by decide) rfl (fun ls hl => ?_)
            refine lv_goto (tgt := 15) hx hb dX4_many_52 (by decide) ?_
            rw [show tt_cn (tt_mt mk s1 p1 o1) (L 0) i + 0 = tt_cn (tt_mt mk s1 p1 o1) (L 0) (i + 1) from (tt_cn_0 (tt_if0 hb38)).symm] at hl
            exact ih (i + 1) (by omega) H locs ls hP hS (lv_sub hl [0, 1, 2, 3, 4, 5, 6] rfl)
          · refine lv_iconst (v := 1) hx hb dX4_many_41 (by decide) ?_
            refine lv_goto (tgt := 46) hx hb dX4_many_42 (by decide) ?_
            refine lv_iadd hx hb dX4_many_46 ?_
            refine tt_rei (show ((nI (tt_cn (tt_mt mk s1 p1 o1) (L 0) i)) + 1) = nI (tt_cn (tt_mt mk s1 p1 o1) (L 0) i + 1) from nI_add (tt_cn (tt_mt mk s1 p1 o1) (L 0) i) 1) ?_
            refine lv_istore (lv' := [(5, .int (nI (tt_cn (tt_mt mk s1 p1 o1) (L 0) i + 1))), (6, .int (nI i)), (0, .ref (ad 0)), (1, .int (nI mk)), (2, .int s1), (3, .int p1), (4, .int o1)]) hx hb dX4_many_47 hl (by decide) rfl (fun ls hl => ?_)
            refine lv_iinc (v := nI (i + 1)) (lv' := [(6, .int (nI (i + 1))), (5, .int (nI (tt_cn (tt_mt mk s1 p1 o1) (L 0) i + 1))), (0, .ref (ad 0)), (1, .int (nI mk)), (2, .int s1), (3, .int p1), (4, .int o1)]) hx hb dX4_many_49 hl (k := 1) rfl (nI_add i 1) (by decide) rfl (fun ls hl => ?_)
            refine lv_goto (tgt := 15) hx hb dX4_many_52 (by decide) ?_
            rw [show tt_cn (tt_mt mk s1 p1 o1) (L 0) i + 1 = tt_cn (tt_mt mk s1 p1 o1) (L 0) (i + 1) from (tt_cn_1 (tt_if1 hb38)).symm] at hl
            exact ih (i + 1) (by omega) H locs ls hP hS (lv_sub hl [0, 1, 2, 3, 4, 5, 6] rfl)
    refine lv_iconst (v := 0) hx hb dX4_many_9 (by decide) ?_
    refine lv_istore (lv' := [(5, .int 0), (0, .ref (ad 0)), (1, .int (nI mk)), (2, .int s1), (3, .int p1), (4, .int o1)]) hx hb dX4_many_10 hl (by decide) rfl (fun ls hl => ?_)
    refine lv_iconst (v := 0) hx hb dX4_many_12 (by decide) ?_
    refine lv_istore (lv' := [(6, .int 0), (5, .int 0), (0, .ref (ad 0)), (1, .int (nI mk)), (2, .int s1), (3, .int p1), (4, .int o1)]) hx hb dX4_many_13 hl (by decide) rfl (fun ls hl => ?_)
    exact loop n 0 (by omega) _ _ ls hP hS (lv_sub hl [0, 1, 2, 3, 4, 5, 6] rfl)
  · refine lv_iconst (v := (-1)) hx hb dX4_many_7 (by decide) ?_
    refine tt_rei (show (-1 : Int32) = if ¬ x1 < 0 ∧ ¬ 8 ≤ x1 then (fun mk => nI (tt_mn mk s1 p1 o1 L)) x1.toNatClampNeg else (-1) from (if_neg (tt_if0 hb4)).symm) ?_
    exact kr _ _ _ _ hS dX4_many_8
set_option maxHeartbeats 4000000 in
set_option maxRecDepth 100000 in
theorem c_X4_at (l : Launch) (D : va_G) (cI cZ cO cC : ClassId) (ad : Nat → Nat) (cx : Nat → va_E) (n : Nat) (L : Nat → List tt_T3) (ch : Nat) (K : Nat → tt_KU) (hQ : tt_Q cI cZ ad cx n L ch K) (x1 x2 x3 : Int32) (hI : tt_I L) (hn : n = (L 0).length) : tt_Pure l yX4_at wsX4_at ({ frames := 1, cells := 0, slots := 0, locals := 23 } : Room) D (tt_tys cI cZ cO cC) false (tt_blk 9 ad cx) [.ref (ad 0), .int x1, .int x2, .int x3] (if ¬ x1 < 0 ∧ ¬ 3 ≤ x1 then (fun k => tt_at (L k) x2 x3) x1.toNatClampNeg else 0) := by
  refine tt_pure (cc := cX4_at) (maxL := 4) (rt := .int) (by decide) rfl (rfl) (Nat.le_of_ble_eq_true rfl) ?_
  intro p e s m below meth c Q ls hfix hK hP hE hl kr
  obtain ⟨hx, hb, hml, hown, hts⟩ := id hfix
  have hown : s.vm.findClass RX4 = some m.cls := hown
  have hfix : CallFix p m c cX4_at 4 s ([.ref (ad 0), .int x1, .int x2, .int x3] : List Value).toArray wsX4_at RX4 := hfix
  have hl : lv_has ls 4 [(0, .ref (ad 0)), (1, .int x1), (2, .int x2), (3, .int x3)] := hl
  have hf35 := hts (.fieldLink RX4 35 "TripleTreesModel" "size" "I") (by decide +kernel)
  have hinX4 : ∀ w ∈ u_ws RX4 TX4 11, w ∈ wsX4_at := by decide +kernel
  have hS : va_S (fun _ => False) s.heap s.heap [] := va_S.rf
  obtain ⟨mt, f, me, ms, h9, hf⟩ := id hQ
  have h700 := (hI 0 (by omega)).2.2
  refine lv_iload_n hx hb dX4_at_0 rfl (lv_at hl 1 rfl) ?_
  refine lv_if_lt (tgt := 30) hx hb dX4_at_1 (by decide) (fun hb1 => ?_) (fun hb1 => ?_)
  · refine lv_iconst (v := 0) hx hb dX4_at_30 (by decide) ?_
    refine lv_goto (tgt := 41) hx hb dX4_at_31 (by decide) ?_
    refine tt_rei (show (0 : Int32) = if ¬ x1 < 0 ∧ ¬ 3 ≤ x1 then (fun k => tt_at (L k) x2 x3) x1.toNatClampNeg else 0 from tt_at_out hI hn (by first | exact Or.inl hb1 | exact Or.inr (Or.inl ((tt_23 x1).mp hb6)) | exact Or.inr (Or.inr (Or.inl hb10)) | exact Or.inr (Or.inr (Or.inr (Or.inl hb18))) | exact Or.inr (Or.inr (Or.inr (Or.inr (Or.inl hb22)))) | exact Or.inr (Or.inr (Or.inr (Or.inr (Or.inr ((tt_23 x3).mp (Int32.not_le.mp hb27)))))))) ?_
    exact kr _ _ _ _ hS dX4_at_41
  · refine lv_iload_n hx hb dX4_at_4 rfl (lv_at hl 1 rfl) ?_
    refine lv_iconst (v := 2) hx hb dX4_at_5 (by decide) ?_
    refine lv_icmp_gt (tgt := 30) hx hb dX4_at_6 (by decide) (fun hb6 => ?_) (fun hb6 => ?_)
    · refine lv_iconst (v := 0) hx hb dX4_at_30 (by decide) ?_
      refine lv_goto (tgt := 41) hx hb dX4_at_31 (by decide) ?_
      refine tt_rei (show (0 : Int32) = if ¬ x1 < 0 ∧ ¬ 3 ≤ x1 then (fun k => tt_at (L k) x2 x3) x1.toNatClampNeg else 0 from tt_at_out hI hn (by first | exact Or.inl hb1 | exact Or.inr (Or.inl ((tt_23 x1).mp hb6)) | exact Or.inr (Or.inr (Or.inl hb10)) | exact Or.inr (Or.inr (Or.inr (Or.inl hb18))) | exact Or.inr (Or.inr (Or.inr (Or.inr (Or.inl hb22)))) | exact Or.inr (Or.inr (Or.inr (Or.inr (Or.inr ((tt_23 x3).mp (Int32.not_le.mp hb27)))))))) ?_
      exact kr _ _ _ _ hS dX4_at_41
    · refine lv_iload_n hx hb dX4_at_9 rfl (lv_at hl 2 rfl) ?_
      refine lv_if_lt (tgt := 30) hx hb dX4_at_10 (by decide) (fun hb10 => ?_) (fun hb10 => ?_)
      · refine lv_iconst (v := 0) hx hb dX4_at_30 (by decide) ?_
        refine lv_goto (tgt := 41) hx hb dX4_at_31 (by decide) ?_
        refine tt_rei (show (0 : Int32) = if ¬ x1 < 0 ∧ ¬ 3 ≤ x1 then (fun k => tt_at (L k) x2 x3) x1.toNatClampNeg else 0 from tt_at_out hI hn (by first | exact Or.inl hb1 | exact Or.inr (Or.inl ((tt_23 x1).mp hb6)) | exact Or.inr (Or.inr (Or.inl hb10)) | exact Or.inr (Or.inr (Or.inr (Or.inl hb18))) | exact Or.inr (Or.inr (Or.inr (Or.inr (Or.inl hb22)))) | exact Or.inr (Or.inr (Or.inr (Or.inr (Or.inr ((tt_23 x3).mp (Int32.not_le.mp hb27)))))))) ?_
        exact kr _ _ _ _ hS dX4_at_41
      · refine lv_iload_n hx hb dX4_at_13 rfl (lv_at hl 2 rfl) ?_
        refine lv_aload_n hx hb dX4_at_14 rfl (lv_at hl 0 rfl) ?_
        refine va_get (D := D) (ci := 4) (v := .int (nI n)) (C := RX4) (T := TX4) (N := 11) hx hb hts hinX4 hown hK hP 0 (tt_bg (by omega) h9.1) rfl 1 (by decide) hf35 (fun _ h9 => h9) rfl dX4_at_15 ?_
        refine lv_icmp_ge (tgt := 30) hx hb dX4_at_18 (by decide) (fun hb18 => ?_) (fun hb18 => ?_)
        · refine lv_iconst (v := 0) hx hb dX4_at_30 (by decide) ?_
          refine lv_goto (tgt := 41) hx hb dX4_at_31 (by decide) ?_
          refine tt_rei (show (0 : Int32) = if ¬ x1 < 0 ∧ ¬ 3 ≤ x1 then (fun k => tt_at (L k) x2 x3) x1.toNatClampNeg else 0 from tt_at_out hI hn (by first | exact Or.inl hb1 | exact Or.inr (Or.inl ((tt_23 x1).mp hb6)) | exact Or.inr (Or.inr (Or.inl hb10)) | exact Or.inr (Or.inr (Or.inr (Or.inl hb18))) | exact Or.inr (Or.inr (Or.inr (Or.inr (Or.inl hb22)))) | exact Or.inr (Or.inr (Or.inr (Or.inr (Or.inr ((tt_23 x3).mp (Int32.not_le.mp hb27)))))))) ?_
          exact kr _ _ _ _ hS dX4_at_41
        · refine lv_iload_n hx hb dX4_at_21 rfl (lv_at hl 3 rfl) ?_
          refine lv_if_lt (tgt := 30) hx hb dX4_at_22 (by decide) (fun hb22 => ?_) (fun hb22 => ?_)
          · refine lv_iconst (v := 0) hx hb dX4_at_30 (by decide) ?_
            refine lv_goto (tgt := 41) hx hb dX4_at_31 (by decide) ?_
            refine tt_rei (show (0 : Int32) = if ¬ x1 < 0 ∧ ¬ 3 ≤ x1 then (fun k => tt_at (L k) x2 x3) x1.toNatClampNeg else 0 from tt_at_out hI hn (by first | exact Or.inl hb1 | exact Or.inr (Or.inl ((tt_23 x1).mp hb6)) | exact Or.inr (Or.inr (Or.inl hb10)) | exact Or.inr (Or.inr (Or.inr (Or.inl hb18))) | exact Or.inr (Or.inr (Or.inr (Or.inr (Or.inl hb22)))) | exact Or.inr (Or.inr (Or.inr (Or.inr (Or.inr ((tt_23 x3).mp (Int32.not_le.mp hb27)))))))) ?_
            exact kr _ _ _ _ hS dX4_at_41
          · refine lv_iload_n hx hb dX4_at_25 rfl (lv_at hl 3 rfl) ?_
            refine lv_iconst (v := 2) hx hb dX4_at_26 (by decide) ?_
            refine lv_icmp_le (tgt := 34) hx hb dX4_at_27 (by decide) (fun hb27 => ?_) (fun hb27 => ?_)
            · obtain ⟨k, hk, e1⟩ := tt_ix (n := 3) (by omega) hb1 (fun h => hb6 ((tt_23 x1).mpr h))
              have hlk : (L k).length = n := (hI k hk).2.1.length_eq.trans hn.symm
              obtain ⟨j, hj, e2⟩ := tt_ix (n := n) (by omega) hb10 hb18
              obtain ⟨t, ht, e3⟩ := tt_ix (n := 3) (by omega) hb22 (fun h => absurd hb27 (Int32.not_le.mpr ((tt_23 x3).mpr h)))
              subst e1
              subst e2
              subst e3
              refine lv_aload_n hx hb dX4_at_34 rfl (lv_at hl 0 rfl) ?_
              refine lv_iload_n hx hb dX4_at_35 rfl (lv_at hl 1 rfl) ?_
              refine lv_iload_n hx hb dX4_at_36 rfl (lv_at hl 2 rfl) ?_
              refine lv_iload_n hx hb dX4_at_37 rfl (lv_at hl 3 rfl) ?_
              have hPc := hP
              refine tt_calli (va_runV (As := [.int (nI k), .int (nI j), .int (nI t)]) (rest := []) hfix (c_X4_cell l D cI cZ cO cC ad cx n L ch K hQ k j t hk (by omega) ht (by omega)) (cwV 3 hts gX4_at_X4_cell rfl rfl rfl (by decide +kernel) ⟨Nat.le_of_ble_eq_true rfl, Nat.le_of_ble_eq_true rfl⟩) (tt_preV (q0 := 0) (ci := 4) hK hPc tt_E.no (tt_bg (by omega) h9.1) rfl) rfl rfl hl.1 rfl (lv_room (Nat.le_of_ble_eq_true rfl)) dX4_at_38 ⟨Nat.zero_le _, Nat.zero_le _⟩) hP hS (fun H locs hP hS => ?_)
              refine tt_rei (show tt_pp t (tt_gt (L k) j) = if ¬ (nI k) < 0 ∧ ¬ 3 ≤ (nI k) then (fun k => tt_at (L k) (nI j) (nI t)) (nI k).toNatClampNeg else 0 from tt_at_in hk (by omega) ht (by omega)) ?_
              exact kr _ _ _ _ hS dX4_at_41
            · refine lv_iconst (v := 0) hx hb dX4_at_30 (by decide) ?_
              refine lv_goto (tgt := 41) hx hb dX4_at_31 (by decide) ?_
              refine tt_rei (show (0 : Int32) = if ¬ x1 < 0 ∧ ¬ 3 ≤ x1 then (fun k => tt_at (L k) x2 x3) x1.toNatClampNeg else 0 from tt_at_out hI hn (by first | exact Or.inl hb1 | exact Or.inr (Or.inl ((tt_23 x1).mp hb6)) | exact Or.inr (Or.inr (Or.inl hb10)) | exact Or.inr (Or.inr (Or.inr (Or.inl hb18))) | exact Or.inr (Or.inr (Or.inr (Or.inr (Or.inl hb22)))) | exact Or.inr (Or.inr (Or.inr (Or.inr (Or.inr ((tt_23 x3).mp (Int32.not_le.mp hb27)))))))) ?_
              exact kr _ _ _ _ hS dX4_at_41
set_option maxHeartbeats 4000000 in
set_option maxRecDepth 100000 in
theorem c_X4_before (l : Launch) (D : va_G) (cI cZ cO cC : ClassId) (ad : Nat → Nat) (cx : Nat → va_E) (n : Nat) (L : Nat → List tt_T3) (ch : Nat) (K : Nat → tt_KU) (hQ : tt_Q cI cZ ad cx n L ch K) (x1 s1 p1 o1 : Int32) (hI : tt_I L) (hn : n = (L 0).length) : tt_Pure l yX4_before wsX4_before ({ frames := 3, cells := 0, slots := 0, locals := 77 } : Room) D (tt_tys cI cZ cO cC) false (tt_blk 9 ad cx) [.ref (ad 0), .int x1, .int s1, .int p1, .int o1] (if ¬ x1 < 0 ∧ ¬ 3 ≤ x1 then (fun k => nI (tt_plu k 3 s1 p1 o1 0 (L k))) x1.toNatClampNeg else (-1)) := by
  refine tt_pure (cc := cX4_before) (maxL := 5) (rt := .int) (by decide) rfl (rfl) (Nat.le_of_ble_eq_true rfl) ?_
  intro p e s m below meth c Q ls hfix hK hP hE hl kr
  obtain ⟨hx, hb, hml, hown, hts⟩ := id hfix
  have hown : s.vm.findClass RX4 = some m.cls := hown
  have hfix : CallFix p m c cX4_before 5 s ([.ref (ad 0), .int x1, .int s1, .int p1, .int o1] : List Value).toArray wsX4_before RX4 := hfix
  have hl : lv_has ls 5 [(0, .ref (ad 0)), (1, .int x1), (2, .int s1), (3, .int p1), (4, .int o1)] := hl
  have hS : va_S (fun _ => False) s.heap s.heap [] := va_S.rf
  obtain ⟨mt, f, me, ms, h9, hf⟩ := id hQ
  have h700 := (hI 0 (by omega)).2.2
  refine lv_iload_n hx hb dX4_before_0 rfl (lv_at hl 1 rfl) ?_
  refine lv_if_lt (tgt := 9) hx hb dX4_before_1 (by decide) (fun hb1 => ?_) (fun hb1 => ?_)
  · refine lv_iconst (v := (-1)) hx hb dX4_before_9 (by decide) ?_
    refine lv_goto (tgt := 22) hx hb dX4_before_10 (by decide) ?_
    refine tt_rei (show (-1 : Int32) = if ¬ x1 < 0 ∧ ¬ 3 ≤ x1 then (fun k => nI (tt_plu k 3 s1 p1 o1 0 (L k))) x1.toNatClampNeg else (-1) from (if_neg (fun q => by first | exact q.1 hb1 | exact q.2 ((tt_23 x1).mp (Int32.not_le.mp hb6)))).symm) ?_
    exact kr _ _ _ _ hS dX4_before_22
  · refine lv_iload_n hx hb dX4_before_4 rfl (lv_at hl 1 rfl) ?_
    refine lv_iconst (v := 2) hx hb dX4_before_5 (by decide) ?_
    refine lv_icmp_le (tgt := 13) hx hb dX4_before_6 (by decide) (fun hb6 => ?_) (fun hb6 => ?_)
    · obtain ⟨k, hk, e1⟩ := tt_ix (n := 3) (by omega) hb1 (fun h => absurd hb6 (Int32.not_le.mpr ((tt_23 x1).mpr h)))
      have hlk : (L k).length = n := (hI k hk).2.1.length_eq.trans hn.symm
      subst e1
      refine lv_aload_n hx hb dX4_before_13 rfl (lv_at hl 0 rfl) ?_
      refine lv_iload_n hx hb dX4_before_14 rfl (lv_at hl 1 rfl) ?_
      refine lv_iload_n hx hb dX4_before_15 rfl (lv_at hl 2 rfl) ?_
      refine lv_iload_n hx hb dX4_before_16 rfl (lv_at hl 3 rfl) ?_
      refine lv_iload hx hb dX4_before_17 (lv_at hl 4 rfl) ?_
      have hPc := hP
      refine tt_calli (va_runV (As := [.int (nI k), .int s1, .int p1, .int o1]) (rest := []) hfix (c_X4_placeOf l D cI cZ cO cC ad cx n L ch K hQ k s1 p1 o1 hk (hI k hk).1 hlk (by omega)) (cwV 4 hts gX4_before_X4_placeOf rfl rfl rfl (by decide +kernel) ⟨Nat.le_of_ble_eq_true rfl, Nat.le_of_ble_eq_true rfl⟩) (tt_preV (q0 := 0) (ci := 4) hK hPc tt_E.no (tt_bg (by omega) h9.1) rfl) rfl rfl hl.1 rfl (lv_room (Nat.le_of_ble_eq_true rfl)) dX4_before_19 ⟨Nat.zero_le _, Nat.zero_le _⟩) hP hS (fun H locs hP hS => ?_)
      refine tt_rei (show nI (tt_plu k 3 s1 p1 o1 0 (L k)) = if ¬ (nI k) < 0 ∧ ¬ 3 ≤ (nI k) then (fun k => nI (tt_plu k 3 s1 p1 o1 0 (L k))) (nI k).toNatClampNeg else (-1) from (tt_ifin (n := 3) hk (by omega) (fun k => nI (tt_plu k 3 s1 p1 o1 0 (L k))) (-1)).symm) ?_
      exact kr _ _ _ _ hS dX4_before_22
    · refine lv_iconst (v := (-1)) hx hb dX4_before_9 (by decide) ?_
      refine lv_goto (tgt := 22) hx hb dX4_before_10 (by decide) ?_
      refine tt_rei (show (-1 : Int32) = if ¬ x1 < 0 ∧ ¬ 3 ≤ x1 then (fun k => nI (tt_plu k 3 s1 p1 o1 0 (L k))) x1.toNatClampNeg else (-1) from (if_neg (fun q => by first | exact q.1 hb1 | exact q.2 ((tt_23 x1).mp (Int32.not_le.mp hb6)))).symm) ?_
      exact kr _ _ _ _ hS dX4_before_22
set_option maxHeartbeats 4000000 in
set_option maxRecDepth 100000 in
theorem c_X4_different (l : Launch) (D : va_G) (cI cZ cO cC : ClassId) (ad : Nat → Nat) (cx : Nat → va_E) (n : Nat) (L : Nat → List tt_T3) (ch : Nat) (K : Nat → tt_KU) (hQ : tt_Q cI cZ ad cx n L ch K) (x1 : Int32) (hI : tt_I L) (hn : n = (L 0).length) : tt_Pure l yX4_different wsX4_different ({ frames := 1, cells := 0, slots := 0, locals := 23 } : Room) D (tt_tys cI cZ cO cC) false (tt_blk 9 ad cx) [.ref (ad 0), .int x1] (if ¬ x1 < 0 ∧ ¬ 3 ≤ x1 then (fun k => nI (tt_dn (fun j => tt_pp k (tt_gt (L k) j)) (L k).length)) x1.toNatClampNeg else (-1)) := by
  refine tt_pure (cc := cX4_different) (maxL := 4) (rt := .int) (by decide) rfl (rfl) (Nat.le_of_ble_eq_true rfl) ?_
  intro p e s m below meth c Q ls hfix hK hP hE hl kr
  obtain ⟨hx, hb, hml, hown, hts⟩ := id hfix
  have hown : s.vm.findClass RX4 = some m.cls := hown
  have hfix : CallFix p m c cX4_different 4 s ([.ref (ad 0), .int x1] : List Value).toArray wsX4_different RX4 := hfix
  have hl : lv_has ls 4 [(0, .ref (ad 0)), (1, .int x1)] := hl
  have hf35 := hts (.fieldLink RX4 35 "TripleTreesModel" "size" "I") (by decide +kernel)
  have hinX4 : ∀ w ∈ u_ws RX4 TX4 11, w ∈ wsX4_different := by decide +kernel
  have hS : va_S (fun _ => False) s.heap s.heap [] := va_S.rf
  obtain ⟨mt, f, me, ms, h9, hf⟩ := id hQ
  have h700 := (hI 0 (by omega)).2.2
  refine lv_iload_n hx hb dX4_different_0 rfl (lv_at hl 1 rfl) ?_
  refine lv_if_lt (tgt := 9) hx hb dX4_different_1 (by decide) (fun hb1 => ?_) (fun hb1 => ?_)
  · refine lv_iconst (v := (-1)) hx hb dX4_different_9 (by decide) ?_
    refine tt_rei (show (-1 : Int32) = if ¬ x1 < 0 ∧ ¬ 3 ≤ x1 then (fun k => nI (tt_dn (fun j => tt_pp k (tt_gt (L k) j)) (L k).length)) x1.toNatClampNeg else (-1) from (if_neg (fun q => by first | exact q.1 hb1 | exact q.2 ((tt_23 x1).mp (Int32.not_le.mp hb6)))).symm) ?_
    exact kr _ _ _ _ hS dX4_different_10
  · refine lv_iload_n hx hb dX4_different_4 rfl (lv_at hl 1 rfl) ?_
    refine lv_iconst (v := 2) hx hb dX4_different_5 (by decide) ?_
    refine lv_icmp_le (tgt := 11) hx hb dX4_different_6 (by decide) (fun hb6 => ?_) (fun hb6 => ?_)
    · obtain ⟨k, hk, e1⟩ := tt_ix (n := 3) (by omega) hb1 (fun h => absurd hb6 (Int32.not_le.mpr ((tt_23 x1).mpr h)))
      have hlk : (L k).length = n := (hI k hk).2.1.length_eq.trans hn.symm
      subst e1
      have loop : ∀ (d i : Nat), (d + i = n) → ∀ (H : Heap) (locs : List Loc) (ls : Array Slot), va_P D vwCl (tt_blk 9 ad cx) H → va_S (fun _ => False) s.heap H locs → lv_has ls 4 [(3, .int (nI i)), (2, .int (nI (tt_dn (fun j => tt_pp k (tt_gt (L k) j)) i))), (0, .ref (ad 0)), (1, .int (nI k))] → W p l e ({ frames := 1, cells := 0, slots := 0, locals := 23 } : Room) s m ([.ref (ad 0), .int (nI k)] : List Value).toArray below meth c H locs 0 0 Q (F0 m 15 ls []) := by
        intro d
        induction d with
        | zero =>
          intro i hd H locs ls hP hS hl
          refine lv_iload_n hx hb dX4_different_15 rfl (lv_at hl 0 rfl) ?_
          refine lv_aload_n hx hb dX4_different_16 rfl (lv_at hl 2 rfl) ?_
          refine va_get (D := D) (ci := 4) (v := .int (nI n)) (C := RX4) (T := TX4) (N := 11) hx hb hts hinX4 hown hK hP 0 (tt_bg (by omega) h9.1) rfl 1 (by decide) hf35 (fun _ h9 => h9) rfl dX4_different_17 ?_
          refine lv_icmp_ge (tgt := 60) hx hb dX4_different_20 (by decide) (fun hb20 => ?_) (fun hb20 => ?_)
          · have hb20 : n ≤ i := (nI_leI (a := n) (b := i) (by omega) (by omega)).mp hb20
            refine lv_iload_n hx hb dX4_different_60 rfl (lv_at hl 1 rfl) ?_
            have hi : i = (L k).length := by omega
            rw [hi]
            refine tt_rei (show nI (tt_dn (fun j => tt_pp k (tt_gt (L k) j)) (L k).length) = if ¬ (nI k) < 0 ∧ ¬ 3 ≤ (nI k) then (fun k => nI (tt_dn (fun j => tt_pp k (tt_gt (L k) j)) (L k).length)) (nI k).toNatClampNeg else (-1) from (tt_ifin (n := 3) hk (by omega) (fun k => nI (tt_dn (fun j => tt_pp k (tt_gt (L k) j)) (L k).length)) (-1)).symm) ?_
            exact kr _ _ _ _ hS dX4_different_61
          · have hb20 : ¬ n ≤ i := fun hz9 => hb20 ((nI_leI (a := n) (b := i) (by omega) (by omega)).mpr hz9)
            exact absurd hb20 (by omega)
        | succ d ih =>
          intro i hd H locs ls hP hS hl
          refine lv_iload_n hx hb dX4_different_15 rfl (lv_at hl 0 rfl) ?_
          refine lv_aload_n hx hb dX4_different_16 rfl (lv_at hl 2 rfl) ?_
          refine va_get (D := D) (ci := 4) (v := .int (nI n)) (C := RX4) (T := TX4) (N := 11) hx hb hts hinX4 hown hK hP 0 (tt_bg (by omega) h9.1) rfl 1 (by decide) hf35 (fun _ h9 => h9) rfl dX4_different_17 ?_
          refine lv_icmp_ge (tgt := 60) hx hb dX4_different_20 (by decide) (fun hb20 => ?_) (fun hb20 => ?_)
          · have hb20 : n ≤ i := (nI_leI (a := n) (b := i) (by omega) (by omega)).mp hb20
            exact absurd hb20 (by omega)
          · have hb20 : ¬ n ≤ i := fun hz9 => hb20 ((nI_leI (a := n) (b := i) (by omega) (by omega)).mpr hz9)
            refine lv_iload_n hx hb dX4_different_23 rfl (lv_at hl 1 rfl) ?_
            refine lv_iload_n hx hb dX4_different_24 rfl (lv_at hl 0 rfl) ?_
            refine lv_if_eq (tgt := 47) hx hb dX4_different_25 (by decide) (fun hb25 => ?_) (fun hb25 => ?_)
            · have hb25 : i = 0 := (nI_eq (a := i) (b := 0) (by omega) (by omega)).mp hb25
              refine lv_iconst (v := 1) hx hb dX4_different_47 (by decide) ?_
              refine lv_goto (tgt := 52) hx hb dX4_different_48 (by decide) ?_
              refine lv_iadd hx hb dX4_different_52 ?_
              refine tt_rei (show ((nI (tt_dn (fun j => tt_pp k (tt_gt (L k) j)) i)) + 1) = nI (tt_dn (fun j => tt_pp k (tt_gt (L k) j)) i + 1) from nI_add (tt_dn (fun j => tt_pp k (tt_gt (L k) j)) i) 1) ?_
              refine lv_istore_n (lv' := [(2, .int (nI (tt_dn (fun j => tt_pp k (tt_gt (L k) j)) i + 1))), (3, .int (nI i)), (0, .ref (ad 0)), (1, .int (nI k))]) hx hb dX4_different_53 rfl hl (by decide) rfl (fun ls hl => ?_)
              refine lv_iinc (v := nI (i + 1)) (lv' := [(3, .int (nI (i + 1))), (2, .int (nI (tt_dn (fun j => tt_pp k (tt_gt (L k) j)) i + 1))), (0, .ref (ad 0)), (1, .int (nI k))]) hx hb dX4_different_54 hl (k := 1) rfl (nI_add i 1) (by decide) rfl (fun ls hl => ?_)
              refine lv_goto (tgt := 15) hx hb dX4_different_57 (by decide) ?_
              rw [show tt_dn (fun j => tt_pp k (tt_gt (L k) j)) i + 1 = tt_dn (fun j => tt_pp k (tt_gt (L k) j)) (i + 1) from (tt_dn_1 (by first | exact Or.inl hb25 | exact Or.inr hb44)).symm] at hl
              exact ih (i + 1) (by omega) _ _ ls hP hS (lv_sub hl [0, 1, 2, 3] rfl)
            · have hb25 : ¬ i = 0 := fun hz9 => hb25 ((nI_eq (a := i) (b := 0) (by omega) (by omega)).mpr hz9)
              refine lv_aload_n hx hb dX4_different_28 rfl (lv_at hl 2 rfl) ?_
              refine lv_iload_n hx hb dX4_different_29 rfl (lv_at hl 3 rfl) ?_
              refine lv_iload_n hx hb dX4_different_30 rfl (lv_at hl 0 rfl) ?_
              refine lv_iload_n hx hb dX4_different_31 rfl (lv_at hl 3 rfl) ?_
              have hPc := hP
              refine tt_calli (va_runV (As := [.int (nI k), .int (nI i), .int (nI k)]) (rest := [.int (nI (tt_dn (fun j => tt_pp k (tt_gt (L k) j)) i))]) hfix (c_X4_cell l D cI cZ cO cC ad cx n L ch K hQ k (i) k hk (by omega) hk (by omega)) (cwV 3 hts gX4_different_X4_cell rfl rfl rfl (by decide +kernel) ⟨Nat.le_of_ble_eq_true rfl, Nat.le_of_ble_eq_true rfl⟩) (tt_preV (q0 := 0) (ci := 4) hK hPc tt_E.no (tt_bg (by omega) h9.1) rfl) rfl rfl hl.1 rfl (lv_room (Nat.le_of_ble_eq_true rfl)) dX4_different_32 ⟨Nat.zero_le _, Nat.zero_le _⟩) hP hS (fun H locs hP hS => ?_)
              refine lv_aload_n hx hb dX4_different_35 rfl (lv_at hl 2 rfl) ?_
              refine lv_iload_n hx hb dX4_different_36 rfl (lv_at hl 3 rfl) ?_
              refine lv_iload_n hx hb dX4_different_37 rfl (lv_at hl 0 rfl) ?_
              refine lv_iconst (v := 1) hx hb dX4_different_38 (by decide) ?_
              refine lv_isub hx hb dX4_different_39 ?_
              refine tt_rei (show ((nI i) - 1) = nI (i - 1) from pk_sub (a := i) (b := 1) (by omega)) ?_
              refine lv_iload_n hx hb dX4_different_40 rfl (lv_at hl 3 rfl) ?_
              have hPc := hP
              refine tt_calli (va_runV (As := [.int (nI k), .int (nI (i - 1)), .int (nI k)]) (rest := [.int (tt_pp k (tt_gt (L k) (i))), .int (nI (tt_dn (fun j => tt_pp k (tt_gt (L k) j)) i))]) hfix (c_X4_cell l D cI cZ cO cC ad cx n L ch K hQ k (i - 1) k hk (by omega) hk (by omega)) (cwV 3 hts gX4_different_X4_cell rfl rfl rfl (by decide +kernel) ⟨Nat.le_of_ble_eq_true rfl, Nat.le_of_ble_eq_true rfl⟩) (tt_preV (q0 := 0) (ci := 4) hK hPc tt_E.no (tt_bg (by omega) h9.1) rfl) rfl rfl hl.1 rfl (lv_room (Nat.le_of_ble_eq_true rfl)) dX4_different_41 ⟨Nat.zero_le _, Nat.zero_le _⟩) hP hS (fun H locs hP hS => ?_)
              refine lv_icmp_eq (tgt := 51) hx hb dX4_different_44 (by decide) (fun hb44 => ?_) (fun hb44 => ?_)
              · refine lv_iconst (v := 0) hx hb dX4_different_51 (by decide) ?_
                refine lv_iadd hx hb dX4_different_52 ?_
                refine tt_rei (show ((nI (tt_dn (fun j => tt_pp k (tt_gt (L k) j)) i)) + 0) = nI (tt_dn (fun j => tt_pp k (tt_gt (L k) j)) i + 0) from nI_add (tt_dn (fun j => tt_pp k (tt_gt (L k) j)) i) 0) ?_
                refine lv_istore_n (lv' := [(2, .int (nI (tt_dn (fun j => tt_pp k (tt_gt (L k) j)) i + 0))), (3, .int (nI i)), (0, .ref (ad 0)), (1, .int (nI k))]) hx hb dX4_different_53 rfl hl (by decide) rfl (fun ls hl => ?_)
                refine lv_iinc (v := nI (i + 1)) (lv' := [(3, .int (nI (i + 1))), (2, .int (nI (tt_dn (fun j => tt_pp k (tt_gt (L k) j)) i + 0))), (0, .ref (ad 0)), (1, .int (nI k))]) hx hb dX4_different_54 hl (k := 1) rfl (nI_add i 1) (by decide) rfl (fun ls hl => ?_)
                refine lv_goto (tgt := 15) hx hb dX4_different_57 (by decide) ?_
                rw [show tt_dn (fun j => tt_pp k (tt_gt (L k) j)) i + 0 = tt_dn (fun j => tt_pp k (tt_gt (L k) j)) (i + 1) from (tt_dn_0 hb25 hb44).symm] at hl
                exact ih (i + 1) (by omega) _ _ ls hP hS (lv_sub hl [0, 1, 2, 3] rfl)
              · refine lv_iconst (v := 1) hx hb dX4_different_47 (by decide) ?_
                refine lv_goto (tgt := 52) hx hb dX4_different_48 (by decide) ?_
                refine lv_iadd hx hb dX4_different_52 ?_
                refine tt_rei (show ((nI (tt_dn (fun j => tt_pp k (tt_gt (L k) j)) i)) + 1) = nI (tt_dn (fun j => tt_pp k (tt_gt (L k) j)) i + 1) from nI_add (tt_dn (fun j => tt_pp k (tt_gt (L k) j)) i) 1) ?_
                refine lv_istore_n (lv' := [(2, .int (nI (tt_dn (fun j => tt_pp k (tt_gt (L k) j)) i + 1))), (3, .int (nI i)), (0, .ref (ad 0)), (1, .int (nI k))]) hx hb dX4_different_53 rfl hl (by decide) rfl (fun ls hl => ?_)
                refine lv_iinc (v := nI (i + 1)) (lv' := [(3, .int (nI (i + 1))), (2, .int (nI (tt_dn (fun j => tt_pp k (tt_gt (L k) j)) i + 1))), (0, .ref (ad 0)), (1, .int (nI k))]) hx hb dX4_different_54 hl (k := 1) rfl (nI_add i 1) (by decide) rfl (fun ls hl => ?_)
                refine lv_goto (tgt := 15) hx hb dX4_different_57 (by decide) ?_
                rw [show tt_dn (fun j => tt_pp k (tt_gt (L k) j)) i + 1 = tt_dn (fun j => tt_pp k (tt_gt (L k) j)) (i + 1) from (tt_dn_1 (by first | exact Or.inl hb25 | exact Or.inr hb44)).symm] at hl
                exact ih (i + 1) (by omega) _ _ ls hP hS (lv_sub hl [0, 1, 2, 3] rfl)
      refine lv_iconst (v := 0) hx hb dX4_different_11 (by decide) ?_
      refine lv_istore_n (lv' := [(2, .int 0), (0, .ref (ad 0)), (1, .int (nI k))]) hx hb dX4_different_12 rfl hl (by decide) rfl (fun ls hl => ?_)
      refine lv_iconst (v := 0) hx hb dX4_different_13 (by decide) ?_
      refine lv_istore_n (lv' := [(3, .int 0), (2, .int 0), (0, .ref (ad 0)), (1, .int (nI k))]) hx hb dX4_different_14 rfl hl (by decide) rfl (fun ls hl => ?_)
      exact loop n 0 (by omega) _ _ ls hP hS (lv_sub hl [0, 1, 2, 3] rfl)
    · refine lv_iconst (v := (-1)) hx hb dX4_different_9 (by decide) ?_
      refine tt_rei (show (-1 : Int32) = if ¬ x1 < 0 ∧ ¬ 3 ≤ x1 then (fun k => nI (tt_dn (fun j => tt_pp k (tt_gt (L k) j)) (L k).length)) x1.toNatClampNeg else (-1) from (if_neg (fun q => by first | exact q.1 hb1 | exact q.2 ((tt_23 x1).mp (Int32.not_le.mp hb6)))).symm) ?_
      exact kr _ _ _ _ hS dX4_different_10
set_option maxHeartbeats 4000000 in
set_option maxRecDepth 100000 in
theorem c_X4_size (l : Launch) (D : va_G) (cI cZ cO cC : ClassId) (ad : Nat → Nat) (cx : Nat → va_E) (n : Nat) (L : Nat → List tt_T3) (ch : Nat) (K : Nat → tt_KU) (hQ : tt_Q cI cZ ad cx n L ch K)  : tt_Pure l yX4_size wsX4_size ({ frames := 0, cells := 0, slots := 0, locals := 0 } : Room) D (tt_tys cI cZ cO cC) false (tt_blk 9 ad cx) [.ref (ad 0)] (nI n) := by
  refine tt_pure (cc := cX4_size) (maxL := 1) (rt := .int) (by decide) rfl (rfl) (Nat.le_of_ble_eq_true rfl) ?_
  intro p e s m below meth c Q ls hfix hK hP hE hl kr
  obtain ⟨hx, hb, hml, hown, hts⟩ := id hfix
  have hown : s.vm.findClass RX4 = some m.cls := hown
  have hfix : CallFix p m c cX4_size 1 s ([.ref (ad 0)] : List Value).toArray wsX4_size RX4 := hfix
  have hl : lv_has ls 1 [(0, .ref (ad 0))] := hl
  have hf35 := hts (.fieldLink RX4 35 "TripleTreesModel" "size" "I") (by decide +kernel)
  have hinX4 : ∀ w ∈ u_ws RX4 TX4 11, w ∈ wsX4_size := by decide +kernel
  have hS : va_S (fun _ => False) s.heap s.heap [] := va_S.rf
  obtain ⟨mt, f, me, ms, h9, hf⟩ := id hQ
  refine lv_aload_n hx hb dX4_size_0 rfl (lv_at hl 0 rfl) ?_
  refine va_get (D := D) (ci := 4) (v := .int (nI n)) (C := RX4) (T := TX4) (N := 11) hx hb hts hinX4 hown hK hP 0 (tt_bg (by omega) h9.1) rfl 1 (by decide) hf35 (fun _ h9 => h9) rfl dX4_size_1 ?_
  exact kr _ _ _ _ hS dX4_size_4
set_option maxHeartbeats 4000000 in
set_option maxRecDepth 100000 in
theorem c_X4_changes (l : Launch) (D : va_G) (cI cZ cO cC : ClassId) (ad : Nat → Nat) (cx : Nat → va_E) (n : Nat) (L : Nat → List tt_T3) (ch : Nat) (K : Nat → tt_KU) (hQ : tt_Q cI cZ ad cx n L ch K)  : tt_Pure l yX4_changes wsX4_changes ({ frames := 0, cells := 0, slots := 0, locals := 0 } : Room) D (tt_tys cI cZ cO cC) false (tt_blk 9 ad cx) [.ref (ad 0)] (nI ch) := by
  refine tt_pure (cc := cX4_changes) (maxL := 1) (rt := .int) (by decide) rfl (rfl) (Nat.le_of_ble_eq_true rfl) ?_
  intro p e s m below meth c Q ls hfix hK hP hE hl kr
  obtain ⟨hx, hb, hml, hown, hts⟩ := id hfix
  have hown : s.vm.findClass RX4 = some m.cls := hown
  have hfix : CallFix p m c cX4_changes 1 s ([.ref (ad 0)] : List Value).toArray wsX4_changes RX4 := hfix
  have hl : lv_has ls 1 [(0, .ref (ad 0))] := hl
  have hf55 := hts (.fieldLink RX4 55 "TripleTreesModel" "changes" "I") (by decide +kernel)
  have hinX4 : ∀ w ∈ u_ws RX4 TX4 11, w ∈ wsX4_changes := by decide +kernel
  have hS : va_S (fun _ => False) s.heap s.heap [] := va_S.rf
  obtain ⟨mt, f, me, ms, h9, hf⟩ := id hQ
  refine lv_aload_n hx hb dX4_changes_0 rfl (lv_at hl 0 rfl) ?_
  refine va_get (D := D) (ci := 4) (v := .int (nI ch)) (C := RX4) (T := TX4) (N := 11) hx hb hts hinX4 hown hK hP 0 (tt_bg (by omega) h9.1) rfl 2 (by decide) hf55 (fun _ h9 => h9) rfl dX4_changes_1 ?_
  exact kr _ _ _ _ hS dX4_changes_4
set_option maxHeartbeats 4000000 in
set_option maxRecDepth 100000 in
theorem c_X4_part (l : Launch) (D : va_G) (cI cZ cO cC : ClassId) (ad : Nat → Nat) (cx : Nat → va_E) (n : Nat) (L : Nat → List tt_T3) (ch : Nat) (K : Nat → tt_KU) (hQ : tt_Q cI cZ ad cx n L ch K) (c1 x2 : Int32) (hI : tt_I L) (hn : n = (L 0).length) (hKI : tt_KI K n) : tt_Pure l yX4_part wsX4_part ({ frames := 1, cells := 0, slots := 0, locals := 23 } : Room) D (tt_tys cI cZ cO cC) false (tt_blk 9 ad cx) [.ref (ad 0), .int c1, .int x2] (if tt_ok K c1 then (fun j => tt_qrj (K j) L x2) c1.toNatClampNeg else 0) := by
  refine tt_pure (cc := cX4_part) (maxL := 3) (rt := .int) (by decide) rfl (rfl) (Nat.le_of_ble_eq_true rfl) ?_
  intro p e s m below meth c Q ls hfix hK hP hE hl kr
  obtain ⟨hx, hb, hml, hown, hts⟩ := id hfix
  have hown : s.vm.findClass RX4 = some m.cls := hown
  have hfix : CallFix p m c cX4_part 3 s ([.ref (ad 0), .int c1, .int x2] : List Value).toArray wsX4_part RX4 := hfix
  have hl : lv_has ls 3 [(0, .ref (ad 0)), (1, .int c1), (2, .int x2)] := hl
  have hf17 := hts (.fieldLink RX4 17 "TripleTreesModel" "isStale" "[Z") (by decide +kernel)
  have hf26 := hts (.fieldLink RX4 26 "TripleTreesModel" "places" "[I") (by decide +kernel)
  have hf35 := hts (.fieldLink RX4 35 "TripleTreesModel" "size" "I") (by decide +kernel)
  have hf20 := hts (.fieldLink RX4 20 "TripleTreesModel" "masks" "[I") (by decide +kernel)
  have hinX4 : ∀ w ∈ u_ws RX4 TX4 11, w ∈ wsX4_part := by decide +kernel
  have hS : va_S (fun _ => False) s.heap s.heap [] := va_S.rf
  obtain ⟨mt, f, me, ms, h9, hf⟩ := id hQ
  have h700 := (hI 0 (by omega)).2.2
  refine lv_aload_n hx hb dX4_part_0 rfl (lv_at hl 0 rfl) ?_
  refine lv_iload_n hx hb dX4_part_1 rfl (lv_at hl 1 rfl) ?_
  have hPc := hP
  refine tt_calli (va_runV (As := [.int c1]) (rest := []) hfix (c_X4_isCursor l D cI cZ cO cC ad cx n L ch K hQ c1) (cwV 1 hts gX4_part_X4_isCursor rfl rfl rfl (by decide +kernel) ⟨Nat.le_of_ble_eq_true rfl, Nat.le_of_ble_eq_true rfl⟩) (tt_preV (q0 := 0) (ci := 4) hK hPc tt_E.no (tt_bg (by omega) h9.1) rfl) rfl rfl hl.1 rfl (lv_room (Nat.le_of_ble_eq_true rfl)) dX4_part_2 ⟨Nat.zero_le _, Nat.zero_le _⟩) hP hS (fun H locs hP hS => ?_)
  refine lv_if_eq (tgt := 48) hx hb dX4_part_5 (by decide) (fun hb5 => ?_) (fun hb5 => ?_)
  · refine lv_iconst (v := 0) hx hb dX4_part_48 (by decide) ?_
    refine tt_rei (show (0 : Int32) = if tt_ok K c1 then (fun j => tt_qrj (K j) L x2) c1.toNatClampNeg else 0 from (if_neg (tt_if0 hb5)).symm) ?_
    exact kr _ _ _ _ hS dX4_part_49
  · obtain ⟨j, hj, e1⟩ : ∃ j : Nat, j < 8 ∧ c1 = nI j := tt_ix (n := 8) (by omega) (tt_if1 hb5).1 (tt_if1 hb5).2.1
    have hop := tt_if1 hb5
    subst e1
    have hop := (tt_ok_in hj).mp hop
    obtain ⟨hm, hpk⟩ := hKI j hj
    refine lv_aload_n hx hb dX4_part_8 rfl (lv_at hl 0 rfl) ?_
    refine va_get (D := D) (ci := 4) (v := .ref (ad 3)) (C := RX4) (T := TX4) (N := 11) hx hb hts hinX4 hown hK hP 0 (tt_bg (by omega) h9.1) rfl 4 (by decide) hf17 (fun _ h9 => h9) rfl dX4_part_9 ?_
    refine lv_iload_n hx hb dX4_part_12 rfl (lv_at hl 1 rfl) ?_
    refine va_zald hx hb hK hP 3 1 (tt_bg (by omega) h9.2.2.2.1) rfl (vp_in_nI (n := j) (by omega) (by omega)) dX4_part_13 ?_
    refine tt_rei (show ((fun j => tt_b (K j).2.1) (nI j).toNatClampNeg) = tt_b (K j).2.1 from congrArg (fun j => tt_b (K j).2.1) (nI_clamp (n := j) (by omega))) ?_
    refine lv_if_ne (tgt := 48) hx hb dX4_part_14 (by decide) (fun hb14 => ?_) (fun hb14 => ?_)
    · refine lv_iconst (v := 0) hx hb dX4_part_48 (by decide) ?_
      refine tt_rei (show (0 : Int32) = if tt_ok K (nI j) then (fun j => tt_qrj (K j) L x2) (nI j).toNatClampNeg else 0 from ((tt_ok_if hj (fun j => tt_qrj (K j) L x2) 0 hop).trans (by first | exact tt_qrj_stale (tt_b1 hb14) | exact tt_qrj_x (Or.inl hb18) | exact tt_qrj_x (Or.inr ((tt_23 x2).mp hb23)) | exact tt_qrj_pk (tt_pk_neg (by omega) hb32) | exact tt_qrj_end hI hn (by omega) (by omega))).symm) ?_
      exact kr _ _ _ _ hS dX4_part_49
    · refine lv_iload_n hx hb dX4_part_17 rfl (lv_at hl 2 rfl) ?_
      refine lv_if_lt (tgt := 48) hx hb dX4_part_18 (by decide) (fun hb18 => ?_) (fun hb18 => ?_)
      · refine lv_iconst (v := 0) hx hb dX4_part_48 (by decide) ?_
        refine tt_rei (show (0 : Int32) = if tt_ok K (nI j) then (fun j => tt_qrj (K j) L x2) (nI j).toNatClampNeg else 0 from ((tt_ok_if hj (fun j => tt_qrj (K j) L x2) 0 hop).trans (by first | exact tt_qrj_stale (tt_b1 hb14) | exact tt_qrj_x (Or.inl hb18) | exact tt_qrj_x (Or.inr ((tt_23 x2).mp hb23)) | exact tt_qrj_pk (tt_pk_neg (by omega) hb32) | exact tt_qrj_end hI hn (by omega) (by omega))).symm) ?_
        exact kr _ _ _ _ hS dX4_part_49
      · refine lv_iload_n hx hb dX4_part_21 rfl (lv_at hl 2 rfl) ?_
        refine lv_iconst (v := 2) hx hb dX4_part_22 (by decide) ?_
        refine lv_icmp_gt (tgt := 48) hx hb dX4_part_23 (by decide) (fun hb23 => ?_) (fun hb23 => ?_)
        · refine lv_iconst (v := 0) hx hb dX4_part_48 (by decide) ?_
          refine tt_rei (show (0 : Int32) = if tt_ok K (nI j) then (fun j => tt_qrj (K j) L x2) (nI j).toNatClampNeg else 0 from ((tt_ok_if hj (fun j => tt_qrj (K j) L x2) 0 hop).trans (by first | exact tt_qrj_stale (tt_b1 hb14) | exact tt_qrj_x (Or.inl hb18) | exact tt_qrj_x (Or.inr ((tt_23 x2).mp hb23)) | exact tt_qrj_pk (tt_pk_neg (by omega) hb32) | exact tt_qrj_end hI hn (by omega) (by omega))).symm) ?_
          exact kr _ _ _ _ hS dX4_part_49
        · refine lv_aload_n hx hb dX4_part_26 rfl (lv_at hl 0 rfl) ?_
          refine va_get (D := D) (ci := 4) (v := .ref (ad 6)) (C := RX4) (T := TX4) (N := 11) hx hb hts hinX4 hown hK hP 0 (tt_bg (by omega) h9.1) rfl 7 (by decide) hf26 (fun _ h9 => h9) rfl dX4_part_27 ?_
          refine lv_iload_n hx hb dX4_part_30 rfl (lv_at hl 1 rfl) ?_
          refine va_iald hx hb hK hP 6 0 (tt_bg (by omega) h9.2.2.2.2.2.2.1) rfl (vp_in_nI (n := j) (by omega) (by omega)) dX4_part_31 ?_
          refine tt_rei (show ((fun j => nI (K j).2.2.2.2.2.2 - 1) (nI j).toNatClampNeg) = nI (K j).2.2.2.2.2.2 - 1 from congrArg (fun j => nI (K j).2.2.2.2.2.2 - 1) (nI_clamp (n := j) (by omega))) ?_
          refine lv_if_lt (tgt := 48) hx hb dX4_part_32 (by decide) (fun hb32 => ?_) (fun hb32 => ?_)
          · refine lv_iconst (v := 0) hx hb dX4_part_48 (by decide) ?_
            refine tt_rei (show (0 : Int32) = if tt_ok K (nI j) then (fun j => tt_qrj (K j) L x2) (nI j).toNatClampNeg else 0 from ((tt_ok_if hj (fun j => tt_qrj (K j) L x2) 0 hop).trans (by first | exact tt_qrj_stale (tt_b1 hb14) | exact tt_qrj_x (Or.inl hb18) | exact tt_qrj_x (Or.inr ((tt_23 x2).mp hb23)) | exact tt_qrj_pk (tt_pk_neg (by omega) hb32) | exact tt_qrj_end hI hn (by omega) (by omega))).symm) ?_
            exact kr _ _ _ _ hS dX4_part_49
          · have hp1 : 1 ≤ (K j).2.2.2.2.2.2 := tt_pk_pos (by omega) hb32
            refine lv_aload_n hx hb dX4_part_35 rfl (lv_at hl 0 rfl) ?_
            refine va_get (D := D) (ci := 4) (v := .ref (ad 6)) (C := RX4) (T := TX4) (N := 11) hx hb hts hinX4 hown hK hP 0 (tt_bg (by omega) h9.1) rfl 7 (by decide) hf26 (fun _ h9 => h9) rfl dX4_part_36 ?_
            refine lv_iload_n hx hb dX4_part_39 rfl (lv_at hl 1 rfl) ?_
            refine va_iald hx hb hK hP 6 0 (tt_bg (by omega) h9.2.2.2.2.2.2.1) rfl (vp_in_nI (n := j) (by omega) (by omega)) dX4_part_40 ?_
            refine tt_rei (show ((fun j => nI (K j).2.2.2.2.2.2 - 1) (nI j).toNatClampNeg) = nI (K j).2.2.2.2.2.2 - 1 from congrArg (fun j => nI (K j).2.2.2.2.2.2 - 1) (nI_clamp (n := j) (by omega))) ?_
            refine tt_rei (show (nI (K j).2.2.2.2.2.2 - 1) = nI ((K j).2.2.2.2.2.2 - 1) from tt_pk1 hp1) ?_
            refine lv_aload_n hx hb dX4_part_41 rfl (lv_at hl 0 rfl) ?_
            refine va_get (D := D) (ci := 4) (v := .int (nI n)) (C := RX4) (T := TX4) (N := 11) hx hb hts hinX4 hown hK hP 0 (tt_bg (by omega) h9.1) rfl 1 (by decide) hf35 (fun _ h9 => h9) rfl dX4_part_42 ?_
            refine lv_icmp_lt (tgt := 50) hx hb dX4_part_45 (by decide) (fun hb45 => ?_) (fun hb45 => ?_)
            · have hb45 : (K j).2.2.2.2.2.2 - 1 < n := (nI_ltI (a := (K j).2.2.2.2.2.2 - 1) (b := n) (by omega) (by omega)).mp hb45
              obtain ⟨t, ht, e3⟩ := tt_ix (n := 3) (by omega) hb18 (fun h => hb23 ((tt_23 x2).mpr h))
              subst e3
              have hk := tt_o_lt (K j).2.2.1
              have hlk : (L (tt_o (K j).2.2.1)).length = n := (hI _ hk).2.1.length_eq.trans hn.symm
              refine lv_aload_n hx hb dX4_part_50 rfl (lv_at hl 0 rfl) ?_
              refine lv_aload_n hx hb dX4_part_51 rfl (lv_at hl 0 rfl) ?_
              refine va_get (D := D) (ci := 4) (v := .ref (ad 4)) (C := RX4) (T := TX4) (N := 11) hx hb hts hinX4 hown hK hP 0 (tt_bg (by omega) h9.1) rfl 5 (by decide) hf20 (fun _ h9 => h9) rfl dX4_part_52 ?_
              refine lv_iload_n hx hb dX4_part_55 rfl (lv_at hl 1 rfl) ?_
              refine va_iald hx hb hK hP 4 0 (tt_bg (by omega) h9.2.2.2.2.1) rfl (vp_in_nI (n := j) (by omega) (by omega)) dX4_part_56 ?_
              refine tt_rei (show ((fun j => nI (K j).2.2.1) (nI j).toNatClampNeg) = nI ((K j).2.2.1) from congrArg (fun j => nI (K j).2.2.1) (nI_clamp (n := j) (by omega))) ?_
              refine tt_calli (va_runS (As := [.int (nI ((K j).2.2.1))]) (rest := [.ref (ad 0)]) hfix (c_X4_orderOf l D cI cZ cO cC (K j).2.2.1 hm) (va_cwS 1 hts gX4_part_X4_orderOf rfl rfl rfl (by decide +kernel) ⟨Nat.le_of_ble_eq_true rfl, Nat.le_of_ble_eq_true rfl⟩) (tt_preS hK tt_P0 tt_E.no) rfl rfl hl.1 rfl (lv_room (Nat.le_of_ble_eq_true rfl)) dX4_part_57 ⟨Nat.zero_le _, Nat.zero_le _⟩) hP hS (fun H locs hP hS => ?_)
              refine lv_aload_n hx hb dX4_part_60 rfl (lv_at hl 0 rfl) ?_
              refine va_get (D := D) (ci := 4) (v := .ref (ad 6)) (C := RX4) (T := TX4) (N := 11) hx hb hts hinX4 hown hK hP 0 (tt_bg (by omega) h9.1) rfl 7 (by decide) hf26 (fun _ h9 => h9) rfl dX4_part_61 ?_
              refine lv_iload_n hx hb dX4_part_64 rfl (lv_at hl 1 rfl) ?_
              refine va_iald hx hb hK hP 6 0 (tt_bg (by omega) h9.2.2.2.2.2.2.1) rfl (vp_in_nI (n := j) (by omega) (by omega)) dX4_part_65 ?_
              refine tt_rei (show ((fun j => nI (K j).2.2.2.2.2.2 - 1) (nI j).toNatClampNeg) = nI (K j).2.2.2.2.2.2 - 1 from congrArg (fun j => nI (K j).2.2.2.2.2.2 - 1) (nI_clamp (n := j) (by omega))) ?_
              refine tt_rei (show (nI (K j).2.2.2.2.2.2 - 1) = nI ((K j).2.2.2.2.2.2 - 1) from tt_pk1 hp1) ?_
              refine lv_iload_n hx hb dX4_part_66 rfl (lv_at hl 2 rfl) ?_
              have hPc := hP
              refine tt_calli (va_runV (As := [.int (nI (tt_o (K j).2.2.1)), .int (nI ((K j).2.2.2.2.2.2 - 1)), .int (nI t)]) (rest := []) hfix (c_X4_cell l D cI cZ cO cC ad cx n L ch K hQ (tt_o (K j).2.2.1) ((K j).2.2.2.2.2.2 - 1) t hk (by omega) ht (by omega)) (cwV 3 hts gX4_part_X4_cell rfl rfl rfl (by decide +kernel) ⟨Nat.le_of_ble_eq_true rfl, Nat.le_of_ble_eq_true rfl⟩) (tt_preV (q0 := 0) (ci := 4) hK hPc tt_E.no (tt_bg (by omega) h9.1) rfl) rfl rfl hl.1 rfl (lv_room (Nat.le_of_ble_eq_true rfl)) dX4_part_67 ⟨Nat.zero_le _, Nat.zero_le _⟩) hP hS (fun H locs hP hS => ?_)
              refine tt_rei (show tt_pp t (tt_gt (L (tt_o (K j).2.2.1)) ((K j).2.2.2.2.2.2 - 1)) = if tt_ok K (nI j) then (fun j => tt_qrj (K j) L (nI t)) (nI j).toNatClampNeg else 0 from ((tt_ok_if hj (fun j => tt_qrj (K j) L (nI t)) 0 hop).trans (tt_qrj_in (tt_b0 hb14) hp1 (by omega) ht (by omega))).symm) ?_
              exact kr _ _ _ _ hS dX4_part_70
            · have hb45 : ¬ (K j).2.2.2.2.2.2 - 1 < n := fun hz9 => hb45 ((nI_ltI (a := (K j).2.2.2.2.2.2 - 1) (b := n) (by omega) (by omega)).mpr hz9)
              refine lv_iconst (v := 0) hx hb dX4_part_48 (by decide) ?_
              refine tt_rei (show (0 : Int32) = if tt_ok K (nI j) then (fun j => tt_qrj (K j) L x2) (nI j).toNatClampNeg else 0 from ((tt_ok_if hj (fun j => tt_qrj (K j) L x2) 0 hop).trans (by first | exact tt_qrj_stale (tt_b1 hb14) | exact tt_qrj_x (Or.inl hb18) | exact tt_qrj_x (Or.inr ((tt_23 x2).mp hb23)) | exact tt_qrj_pk (tt_pk_neg (by omega) hb32) | exact tt_qrj_end hI hn (by omega) (by omega))).symm) ?_
              exact kr _ _ _ _ hS dX4_part_49

/-! own words: what the cells of a TripleTrees hold -/
/-- a cursor: open, has a current one, order, opened at, following, end -/
abbrev tt_CU : Type := Bool × Bool × Nat × Nat × Nat × Nat
def tt_b (x : Bool) : Int32 := if x = true then 1 else 0
def tt_cv (u : tt_CU) : List Value := [.int (tt_b u.1), .int (tt_b u.2.1), .int (nI u.2.2.1), .int (nI u.2.2.2.1), .int (nI u.2.2.2.2.1), .int (nI u.2.2.2.2.2)]
/-- cell k of the object at ad 0: 1 orders, 2 cursors, 3 walk and its rows 4 5 6, 7 + i the orders, 10 + i their rows, 13 + j the cursors -/
def tt_R (cI cZ cO cC : ClassId) (ad : Nat → Nat) (cx : Nat → va_E) (L : Nat → List tt_T3) (ch : Nat) (C : Nat → tt_CU) : Prop :=
  cx 0 = .inr (3, [.ref (ad 1), .ref (ad 2), .ref (ad 3), .int (nI ch)]) ∧
  cx 1 = .inl (cO, 3, .inr (.inr (.inr (.inr (fun i => some (ad (7 + i))))))) ∧
  cx 2 = .inl (cC, 8, .inr (.inr (.inr (.inr (fun i => some (ad (13 + i))))))) ∧
  (∃ (wc : Nat) (wi wst wm : Nat → Int32), cx 3 = .inr (2, [.ref (ad 4), .ref (ad 5), .ref (ad 6), .int (nI wc)]) ∧ cx 4 = .inl (cI, 701, .inl wi) ∧ cx 5 = .inl (cI, 701, .inl wst) ∧ cx 6 = .inl (cZ, 700, .inl wm)) ∧
  (∀ i, i < 3 → ∃ f : Nat → Int32, cx (7 + i) = .inr (1, [.int (nI i), .ref (ad (10 + i)), .int (nI (L i).length)]) ∧ cx (10 + i) = .inl (cI, 2100, .inl f) ∧ tt_RO i f (L i)) ∧
  (∀ j, j < 8 → cx (13 + j) = .inr (0, tt_cv (C j)))
/-- the three lists are one set, each in its order -/
def tt_I (L : Nat → List tt_T3) : Prop := ∀ k, k < 3 → tt_So k (L k) ∧ (L k).Perm (L 0) ∧ (L k).length ≤ 700
def tt_o (mk : Nat) : Nat := match mk with
  | 2 => 1
  | 4 => 2
  | 5 => 2
  | 6 => 1
  | _ => 0
def tt_told (mk : Nat) : Nat := match mk with
  | 0 => 0
  | 1 => 1
  | 2 => 1
  | 3 => 2
  | 4 => 1
  | 5 => 2
  | 6 => 2
  | _ => 3
theorem tt_o_lt (mk : Nat) : tt_o mk < 3 := by
  unfold tt_o
  split <;> omega
theorem tt_om_o : ∀ mk, mk < 8 → tt_om mk = nI (tt_o mk) := by decide +kernel
theorem tt_om_at {mk : Nat} (h : mk < 8) : (fun j => Value.int (tt_om j)) (nI mk).toNatClampNeg = .int (nI (tt_o mk)) := by
  show Value.int (tt_om (nI mk).toNatClampNeg) = _
  rw [nI_clamp (by omega), tt_om_o mk h]
/-- a place of an order, told as s, p, o -/
def tt_plu (k : Nat) (told s p o least : Int32) (l : List tt_T3) : Nat := tt_pl k told (tt_pt ((k + 0) % 3) s p o) (tt_pt ((k + 1) % 3) s p o) (tt_pt ((k + 2) % 3) s p o) least l
def tt_st (mk : Nat) (s p o : Int32) (L : Nat → List tt_T3) : Nat := tt_plu (tt_o mk) (nI (tt_told mk)) s p o 0 (L (tt_o mk))
def tt_en (mk : Nat) (s p o : Int32) (L : Nat → List tt_T3) : Nat := tt_plu (tt_o mk) (nI (tt_told mk)) s p o 1 (L (tt_o mk))
def tt_mn (mk : Nat) (s p o : Int32) (L : Nat → List tt_T3) : Nat := tt_en mk s p o L - tt_st mk s p o L
theorem tt_P0 {D : va_G} {H : Heap} : va_P D vwCl [] H := fun k q h => by simp at h
theorem tt_pick2 {D : va_G} {ws : va_W} {H : Heap} {i j : Nat} {a b : Nat × va_E} (hP : va_P D vwCl ws H) (h1 : ws[i]? = some a) (h2 : ws[j]? = some b) : va_P D vwCl [a, b] H := by
  intro k q hk
  match k, hk with
  | 0, hk => cases hk; exact hP i a h1
  | 1, hk => cases hk; exact hP j b h2
  | k + 2, hk => simp at hk
theorem tt_ix {x : Int32} {n : Nat} (hn : n < 2 ^ 31) (h1 : ¬ x < 0) (h2 : ¬ nI n ≤ x) : ∃ j : Nat, j < n ∧ x = nI j := by
  rcases pk_ix x hn with h | h | h
  · exact absurd h h1
  · exact absurd h h2
  · exact h
/-- whether c names an open cursor -/
abbrev tt_op (C : Nat → tt_CU) (c : Int32) : Prop := ¬ c < 0 ∧ ¬ 8 ≤ c ∧ (C c.toNatClampNeg).1 = true
theorem tt_b1 {x : Bool} (h : ¬ tt_b x = 0) : x = true := by cases x; exact absurd rfl h; rfl
theorem tt_op_in {C : Nat → tt_CU} {j : Nat} (hj : j < 8) : tt_op C (nI j) ↔ (C j).1 = true := by
  unfold tt_op
  rw [nI_clamp (by omega)]
  exact ⟨fun h => h.2.2, fun h => ⟨nI_pos (by omega), nI_ge (b := 8) hj (by omega), h⟩⟩
theorem tt_op_out {C : Nat → tt_CU} {c : Int32} (h : c < 0 ∨ 8 ≤ c) : ¬ tt_op C c := fun q => h.elim q.1 q.2.1
theorem tt_pl_le (k : Nat) (told a b c : Int32) (l : List tt_T3) : tt_pl k told a b c 0 l ≤ tt_pl k told a b c 1 l := by
  unfold tt_pl
  refine List.countP_mono_left (fun t _ h => ?_)
  have h := of_decide_eq_true h
  refine decide_eq_true (fun h1 => h ?_)
  rw [tt_i_le] at h1 ⊢
  have e0 : (0 : Int32).toInt = 0 := by decide
  have e1 : (1 : Int32).toInt = 1 := by decide
  omega
theorem tt_st_en (mk : Nat) (s p o : Int32) (L : Nat → List tt_T3) : tt_st mk s p o L ≤ tt_en mk s p o L := tt_pl_le _ _ _ _ _ _
theorem tt_pl_len (k : Nat) (told a b c least : Int32) (l : List tt_T3) : tt_pl k told a b c least l ≤ l.length := List.countP_le_length
theorem tt_if1 {c : Prop} [Decidable c] (h : ¬ (if c then (1 : Int32) else 0) = 0) : c := by
  by_cases hc : c
  · exact hc
  · exact absurd (if_neg hc) h
theorem tt_if0 {c : Prop} [Decidable c] (h : (if c then (1 : Int32) else 0) = 0) : ¬ c := by
  intro hc
  rw [if_pos hc] at h
  exact absurd h (by decide)
theorem tt_ifin {α : Type} {n j : Nat} (hj : j < n) (hn : n < 2 ^ 31) (g : Nat → α) (d : α) : (if ¬ nI j < 0 ∧ ¬ nI n ≤ nI j then g (nI j).toNatClampNeg else d) = g j := by
  rw [if_pos ⟨nI_pos (by omega), nI_ge hj hn⟩, nI_clamp (by omega)]
theorem tt_en_le (mk : Nat) (s p o : Int32) {L : Nat → List tt_T3} (hI : tt_I L) : tt_en mk s p o L ≤ (L (tt_o mk)).length ∧ (L (tt_o mk)).length ≤ 700 := ⟨tt_pl_len _ _ _ _ _ _ _, (hI _ (tt_o_lt mk)).2.2⟩
theorem tt_mn_le (mk : Nat) (s p o : Int32) {L : Nat → List tt_T3} (hI : tt_I L) : tt_mn mk s p o L ≤ 700 := by
  have := tt_en_le mk s p o hI
  unfold tt_mn
  omega
/-- part i of the triple at a place of a list; 0 where there is none such -/
def tt_at (l : List tt_T3) (pl i : Int32) : Int32 := if pl < 0 ∨ nI l.length ≤ pl ∨ i < 0 ∨ 3 ≤ i then 0 else tt_pp i.toNatClampNeg (tt_gt l pl.toNatClampNeg)
theorem tt_turn {k t : Nat} (hk : k < 3) (ht : t < 3) : (k + (t + 3 - k) % 3) % 3 = t := by omega
theorem tt_pa_pp {k j t : Nat} {f : Nat → Int32} {l : List tt_T3} (hf : tt_RO k f l) (hk : k < 3) (hn : l.length ≤ 700) (hj : j < l.length) (ht : t < 3) : tt_pa l.length k f (nI j) (nI t) = tt_pp t (tt_gt l j) := by
  rw [tt_pa_in f hj ht (by omega), hf j hj _ (Nat.mod_lt _ (by omega)), tt_turn hk ht]
theorem tt_pa_at {k : Nat} {f : Nat → Int32} {l : List tt_T3} (hf : tt_RO k f l) (hk : k < 3) (hn : l.length ≤ 700) (pl i : Int32) : tt_pa l.length k f pl i = tt_at l pl i := by
  by_cases h : pl < 0 ∨ nI l.length ≤ pl ∨ i < 0 ∨ 3 ≤ i
  · unfold tt_pa tt_at
    rw [if_pos h, if_pos h]
  · have h1 : ¬ pl < 0 := fun q => h (Or.inl q)
    have h2 : ¬ nI l.length ≤ pl := fun q => h (Or.inr (Or.inl q))
    have h3 : ¬ i < 0 := fun q => h (Or.inr (Or.inr (Or.inl q)))
    have h4 : ¬ (3 : Int32) ≤ i := fun q => h (Or.inr (Or.inr (Or.inr q)))
    unfold tt_at
    rw [if_neg h]
    obtain ⟨j, hj, e1⟩ := tt_ix (n := l.length) (by omega) h1 h2
    obtain ⟨t, ht, e2⟩ := tt_ix (n := 3) (by omega) h3 h4
    subst e1
    subst e2
    rw [tt_pa_pp hf hk hn hj ht, nI_clamp (by omega), nI_clamp (by omega)]
def tt_dn (g : Nat → Int32) : Nat → Nat
  | 0 => 0
  | i + 1 => tt_dn g i + if i = 0 ∨ ¬ g i = g (i - 1) then 1 else 0
theorem tt_df_dn' {k : Nat} {f : Nat → Int32} {l : List tt_T3} (hf : tt_RO k f l) (hk : k < 3) : ∀ n, n ≤ l.length → tt_df f n = tt_dn (fun j => tt_pp k (tt_gt l j)) n
  | 0, _ => rfl
  | n + 1, h => by
    show tt_df f n + _ = tt_dn _ n + _
    rw [tt_df_dn' hf hk n (by omega)]
    have h0 : f (3 * n) = tt_pp k (tt_gt l n) := by
      have := hf n (by omega) 0 (by omega)
      rwa [show (k + 0) % 3 = k by omega] at this
    have h1 : f (3 * (n - 1)) = tt_pp k (tt_gt l (n - 1)) := by
      have := hf (n - 1) (by omega) 0 (by omega)
      rwa [show (k + 0) % 3 = k by omega] at this
    rw [h0, h1]
theorem tt_df_dn {k : Nat} {f : Nat → Int32} {l : List tt_T3} (hf : tt_RO k f l) (hk : k < 3) : tt_df f l.length = tt_dn (fun j => tt_pp k (tt_gt l j)) l.length := tt_df_dn' hf hk _ (Nat.le_refl _)
/-- the sum of g over d places from a on -/
def tt_sm (g : Nat → Nat) (a : Nat) : Nat → Nat
  | 0 => 0
  | d + 1 => tt_sm g a d + g (a + d)
theorem tt_op_if {α : Type} {C : Nat → tt_CU} {j : Nat} (hj : j < 8) (g : Nat → α) (d : α) (h : (C j).1 = true) : (if tt_op C (nI j) then g (nI j).toNatClampNeg else d) = g j := by
  rw [if_pos ((tt_op_in hj).mpr h), nI_clamp (by omega)]
/-- part x of a cursor's current triple -/
def tt_prj (u : tt_CU) (ch : Nat) (L : Nat → List tt_T3) (x : Int32) : Int32 := if u.2.2.2.1 = ch ∧ u.2.1 = true then tt_at (L u.2.2.1) (nI (u.2.2.2.2.1 - 1)) x else 0
theorem tt_prj_in {u : tt_CU} {ch : Nat} {L : Nat → List tt_T3} {x : Int32} (h1 : u.2.2.2.1 = ch) (h2 : u.2.1 = true) : tt_prj u ch L x = tt_at (L u.2.2.1) (nI (u.2.2.2.2.1 - 1)) x := if_pos ⟨h1, h2⟩
theorem tt_prj_out {u : tt_CU} {ch : Nat} {L : Nat → List tt_T3} {x : Int32} (h : ¬ u.2.2.2.1 = ch ∨ u.2.1 = false) : tt_prj u ch L x = 0 := if_neg (fun q => h.elim (fun e => e q.1) (fun e => by rw [q.2] at e; cases e))
theorem tt_b0 {x : Bool} (h : tt_b x = 0) : x = false := by cases x; rfl; exact absurd h (by decide)
/-- what holds of every cursor's numbers -/
def tt_CI (C : Nat → tt_CU) (ch : Nat) : Prop := ∀ j, j < 8 → (C j).2.2.1 < 3 ∧ (C j).2.2.2.1 ≤ ch ∧ (C j).2.2.2.2.1 ≤ 700 ∧ (C j).2.2.2.2.2 ≤ 700 ∧ ((C j).2.1 = true → 1 ≤ (C j).2.2.2.2.1)
def tt_bc1 (x : Int32) : Int32 := x - ((x.toUInt32 >>> ((1 : Int32).toUInt32 &&& Int32.toUInt32 31)).toInt32 &&& 1431655765)
def tt_bc2 (x : Int32) : Int32 := (x &&& 858993459) + ((x.toUInt32 >>> ((2 : Int32).toUInt32 &&& Int32.toUInt32 31)).toInt32 &&& 858993459)
def tt_bc3 (x : Int32) : Int32 := (x + (x.toUInt32 >>> ((4 : Int32).toUInt32 &&& Int32.toUInt32 31)).toInt32) &&& 252645135
def tt_bc4 (x : Int32) : Int32 := x + (x.toUInt32 >>> ((8 : Int32).toUInt32 &&& Int32.toUInt32 31)).toInt32
def tt_bc5 (x : Int32) : Int32 := x + (x.toUInt32 >>> ((16 : Int32).toUInt32 &&& Int32.toUInt32 31)).toInt32
def tt_bc (x : Int32) : Int32 := tt_bc5 (tt_bc4 (tt_bc3 (tt_bc2 (tt_bc1 x)))) &&& 63
theorem tt_bc_ok : ∀ mk, mk < 8 → tt_bc (nI mk) = nI (tt_told mk) := by decide +kernel
set_option maxHeartbeats 4000000 in
set_option maxRecDepth 100000 in
theorem c_J6_bitCount (l : Launch) (D : va_G) (cI cZ cO cC : ClassId) (mk : Nat) (hm : mk < 8) : tt_Pure l yJ6_bitCount_0f7a4 wsJ6_bitCount_0f7a4 ({ frames := 0, cells := 0, slots := 0, locals := 0 } : Room) D (tt_tys cI cZ cO cC) false [] [.int (nI mk)] (nI (tt_told mk)) := by
  refine tt_pure (cc := cJ6_bitCount_0f7a4) (maxL := 1) (rt := .int) (by decide) rfl (rfl) (Nat.le_of_ble_eq_true rfl) ?_
  intro p e s m below meth c Q ls hfix hK hP hE hl kr
  obtain ⟨hx, hb, hml, hown, hts⟩ := id hfix
  have hown : s.vm.findClass RJ6 = some m.cls := hown
  have hfix : CallFix p m c cJ6_bitCount_0f7a4 1 s ([.int (nI mk)] : List Value).toArray wsJ6_bitCount_0f7a4 RJ6 := hfix
  have hl : lv_has ls 1 [(0, .int (nI mk))] := hl
  have hS : va_S (fun _ => False) s.heap s.heap [] := va_S.rf
  refine lv_iload_n hx hb dJ6_bitCount_0f7a4_0 rfl (lv_at hl 0 rfl) ?_
  refine lv_iload_n hx hb dJ6_bitCount_0f7a4_1 rfl (lv_at hl 0 rfl) ?_
  refine lv_iconst (v := 1) hx hb dJ6_bitCount_0f7a4_2 (by decide) ?_
  refine lv_iushr hx hb dJ6_bitCount_0f7a4_3 rfl ?_
  refine lv_ldcw (v := 1431655765) hx hb hown (hts (.constant RJ6 265 (1431655765)) (by decide +kernel)) dJ6_bitCount_0f7a4_4 ?_
  refine lv_iand hx hb dJ6_bitCount_0f7a4_7 ?_
  refine lv_isub hx hb dJ6_bitCount_0f7a4_8 ?_
  refine lv_topi (fun y1 ey1 => ?_)
  refine lv_istore_n (lv' := [(0, .int y1)]) hx hb dJ6_bitCount_0f7a4_9 rfl hl (by decide) rfl (fun ls hl => ?_)
  refine lv_iload_n hx hb dJ6_bitCount_0f7a4_10 rfl (lv_at hl 0 rfl) ?_
  refine lv_ldcw (v := 858993459) hx hb hown (hts (.constant RJ6 266 (858993459)) (by decide +kernel)) dJ6_bitCount_0f7a4_11 ?_
  refine lv_iand hx hb dJ6_bitCount_0f7a4_14 ?_
  refine lv_iload_n hx hb dJ6_bitCount_0f7a4_15 rfl (lv_at hl 0 rfl) ?_
  refine lv_iconst (v := 2) hx hb dJ6_bitCount_0f7a4_16 (by decide) ?_
  refine lv_iushr hx hb dJ6_bitCount_0f7a4_17 rfl ?_
  refine lv_ldcw (v := 858993459) hx hb hown (hts (.constant RJ6 266 (858993459)) (by decide +kernel)) dJ6_bitCount_0f7a4_18 ?_
  refine lv_iand hx hb dJ6_bitCount_0f7a4_21 ?_
  refine lv_iadd hx hb dJ6_bitCount_0f7a4_22 ?_
  refine lv_topi (fun y2 ey2 => ?_)
  refine lv_istore_n (lv' := [(0, .int y2)]) hx hb dJ6_bitCount_0f7a4_23 rfl hl (by decide) rfl (fun ls hl => ?_)
  refine lv_iload_n hx hb dJ6_bitCount_0f7a4_24 rfl (lv_at hl 0 rfl) ?_
  refine lv_iload_n hx hb dJ6_bitCount_0f7a4_25 rfl (lv_at hl 0 rfl) ?_
  refine lv_iconst (v := 4) hx hb dJ6_bitCount_0f7a4_26 (by decide) ?_
  refine lv_iushr hx hb dJ6_bitCount_0f7a4_27 rfl ?_
  refine lv_iadd hx hb dJ6_bitCount_0f7a4_28 ?_
  refine lv_ldcw (v := 252645135) hx hb hown (hts (.constant RJ6 267 (252645135)) (by decide +kernel)) dJ6_bitCount_0f7a4_29 ?_
  refine lv_iand hx hb dJ6_bitCount_0f7a4_32 ?_
  refine lv_topi (fun y3 ey3 => ?_)
  refine lv_istore_n (lv' := [(0, .int y3)]) hx hb dJ6_bitCount_0f7a4_33 rfl hl (by decide) rfl (fun ls hl => ?_)
  refine lv_iload_n hx hb dJ6_bitCount_0f7a4_34 rfl (lv_at hl 0 rfl) ?_
  refine lv_iload_n hx hb dJ6_bitCount_0f7a4_35 rfl (lv_at hl 0 rfl) ?_
  refine lv_bipush (v := 8) hx hb dJ6_bitCount_0f7a4_36 (by decide) ?_
  refine lv_iushr hx hb dJ6_bitCount_0f7a4_38 rfl ?_
  refine lv_iadd hx hb dJ6_bitCount_0f7a4_39 ?_
  refine lv_topi (fun y4 ey4 => ?_)
  refine lv_istore_n (lv' := [(0, .int y4)]) hx hb dJ6_bitCount_0f7a4_40 rfl hl (by decide) rfl (fun ls hl => ?_)
  refine lv_iload_n hx hb dJ6_bitCount_0f7a4_41 rfl (lv_at hl 0 rfl) ?_
  refine lv_iload_n hx hb dJ6_bitCount_0f7a4_42 rfl (lv_at hl 0 rfl) ?_
  refine lv_bipush (v := 16) hx hb dJ6_bitCount_0f7a4_43 (by decide) ?_
  refine lv_iushr hx hb dJ6_bitCount_0f7a4_45 rfl ?_
  refine lv_iadd hx hb dJ6_bitCount_0f7a4_46 ?_
  refine lv_topi (fun y5 ey5 => ?_)
  refine lv_istore_n (lv' := [(0, .int y5)]) hx hb dJ6_bitCount_0f7a4_47 rfl hl (by decide) rfl (fun ls hl => ?_)
  refine lv_iload_n hx hb dJ6_bitCount_0f7a4_48 rfl (lv_at hl 0 rfl) ?_
  refine lv_bipush (v := 63) hx hb dJ6_bitCount_0f7a4_49 (by decide) ?_
  refine lv_iand hx hb dJ6_bitCount_0f7a4_51 ?_
  refine tt_rei (show y5 &&& 63 = nI (tt_told mk) from by rw [← tt_bc_ok mk hm, ey5, ey4, ey3, ey2, ey1]; rfl) ?_
  exact kr _ _ _ _ hS dJ6_bitCount_0f7a4_52
set_option maxHeartbeats 4000000 in
set_option maxRecDepth 100000 in
theorem c_X3_isMask (l : Launch) (D : va_G) (cI cZ cO cC : ClassId) (x1 : Int32) : tt_Pure l yX3_isMask wsX3_isMask ({ frames := 0, cells := 0, slots := 0, locals := 0 } : Room) D (tt_tys cI cZ cO cC) false [] [.int x1] (if ¬ x1 < 0 ∧ ¬ 8 ≤ x1 then 1 else 0) := by
  refine tt_pure (cc := cX3_isMask) (maxL := 1) (rt := .boolean) (by decide) rfl (tt_nbi _) (Nat.le_of_ble_eq_true rfl) ?_
  intro p e s m below meth c Q ls hfix hK hP hE hl kr
  obtain ⟨hx, hb, hml, hown, hts⟩ := id hfix
  have hown : s.vm.findClass RX3 = some m.cls := hown
  have hfix : CallFix p m c cX3_isMask 1 s ([.int x1] : List Value).toArray wsX3_isMask RX3 := hfix
  have hl : lv_has ls 1 [(0, .int x1)] := hl
  have hS : va_S (fun _ => False) s.heap s.heap [] := va_S.rf
  refine lv_iload_n hx hb dX3_isMask_0 rfl (lv_at hl 0 rfl) ?_
  refine lv_if_lt (tgt := 14) hx hb dX3_isMask_1 (by decide) (fun hb1 => ?_) (fun hb1 => ?_)
  · refine lv_iconst (v := 0) hx hb dX3_isMask_14 (by decide) ?_
    refine tt_rei (show 0 = if ¬ x1 < 0 ∧ ¬ 8 ≤ x1 then 1 else 0 from by simp [hb1]) ?_
    exact kr _ _ _ _ hS dX3_isMask_15
  · refine lv_iload_n hx hb dX3_isMask_4 rfl (lv_at hl 0 rfl) ?_
    refine lv_bipush (v := 8) hx hb dX3_isMask_5 (by decide) ?_
    refine lv_icmp_ge (tgt := 14) hx hb dX3_isMask_7 (by decide) (fun hb7 => ?_) (fun hb7 => ?_)
    · refine lv_iconst (v := 0) hx hb dX3_isMask_14 (by decide) ?_
      refine tt_rei (show 0 = if ¬ x1 < 0 ∧ ¬ 8 ≤ x1 then 1 else 0 from by simp [hb1, hb7]) ?_
      exact kr _ _ _ _ hS dX3_isMask_15
    · refine lv_iconst (v := 1) hx hb dX3_isMask_10 (by decide) ?_
      refine lv_goto (tgt := 15) hx hb dX3_isMask_11 (by decide) ?_
      refine tt_rei (show 1 = if ¬ x1 < 0 ∧ ¬ 8 ≤ x1 then 1 else 0 from by simp [hb1, hb7]) ?_
      exact kr _ _ _ _ hS dX3_isMask_15
set_option maxHeartbeats 4000000 in
set_option maxRecDepth 100000 in
theorem c_X3_isOrder (l : Launch) (D : va_G) (cI cZ cO cC : ClassId) (x1 : Int32) : tt_Pure l yX3_isOrder wsX3_isOrder ({ frames := 0, cells := 0, slots := 0, locals := 0 } : Room) D (tt_tys cI cZ cO cC) false [] [.int x1] (if ¬ x1 < 0 ∧ ¬ 3 ≤ x1 then 1 else 0) := by
  refine tt_pure (cc := cX3_isOrder) (maxL := 1) (rt := .boolean) (by decide) rfl (tt_nbi _) (Nat.le_of_ble_eq_true rfl) ?_
  intro p e s m below meth c Q ls hfix hK hP hE hl kr
  obtain ⟨hx, hb, hml, hown, hts⟩ := id hfix
  have hown : s.vm.findClass RX3 = some m.cls := hown
  have hfix : CallFix p m c cX3_isOrder 1 s ([.int x1] : List Value).toArray wsX3_isOrder RX3 := hfix
  have hl : lv_has ls 1 [(0, .int x1)] := hl
  have hS : va_S (fun _ => False) s.heap s.heap [] := va_S.rf
  refine lv_iload_n hx hb dX3_isOrder_0 rfl (lv_at hl 0 rfl) ?_
  refine lv_if_lt (tgt := 13) hx hb dX3_isOrder_1 (by decide) (fun hb1 => ?_) (fun hb1 => ?_)
  · refine lv_iconst (v := 0) hx hb dX3_isOrder_13 (by decide) ?_
    refine tt_rei (show 0 = if ¬ x1 < 0 ∧ ¬ 3 ≤ x1 then 1 else 0 from by simp [hb1]) ?_
    exact kr _ _ _ _ hS dX3_isOrder_14
  · refine lv_iload_n hx hb dX3_isOrder_4 rfl (lv_at hl 0 rfl) ?_
    refine lv_iconst (v := 3) hx hb dX3_isOrder_5 (by decide) ?_
    refine lv_icmp_ge (tgt := 13) hx hb dX3_isOrder_6 (by decide) (fun hb6 => ?_) (fun hb6 => ?_)
    · refine lv_iconst (v := 0) hx hb dX3_isOrder_13 (by decide) ?_
      refine tt_rei (show 0 = if ¬ x1 < 0 ∧ ¬ 3 ≤ x1 then 1 else 0 from by simp [hb1, hb6]) ?_
      exact kr _ _ _ _ hS dX3_isOrder_14
    · refine lv_iconst (v := 1) hx hb dX3_isOrder_9 (by decide) ?_
      refine lv_goto (tgt := 14) hx hb dX3_isOrder_10 (by decide) ?_
      refine tt_rei (show 1 = if ¬ x1 < 0 ∧ ¬ 3 ≤ x1 then 1 else 0 from by simp [hb1, hb6]) ?_
      exact kr _ _ _ _ hS dX3_isOrder_14
set_option maxHeartbeats 4000000 in
set_option maxRecDepth 100000 in
theorem c_X3_isOpenCursor (l : Launch) (D : va_G) (cI cZ cO cC : ClassId) (ad : Nat → Nat) (cx : Nat → va_E) (L : Nat → List tt_T3) (ch : Nat) (C : Nat → tt_CU) (hR : tt_R cI cZ cO cC ad cx L ch C) (c1 : Int32) : tt_Pure l yX3_isOpenCursor wsX3_isOpenCursor ({ frames := 0, cells := 0, slots := 0, locals := 0 } : Room) D (tt_tys cI cZ cO cC) true (tt_blk 21 ad cx) [.ref (ad 0), .int c1] (if tt_op C c1 then 1 else 0) := by
  refine tt_pure (cc := cX3_isOpenCursor) (maxL := 2) (rt := .boolean) (by decide) rfl (tt_nbi _) (Nat.le_of_ble_eq_true rfl) ?_
  intro p e s m below meth c Q ls hfix hK hP hE hl kr
  obtain ⟨hx, hb, hml, hown, hts⟩ := id hfix
  have hown : s.vm.findClass RX3 = some m.cls := hown
  have hfix : CallFix p m c cX3_isOpenCursor 2 s ([.ref (ad 0), .int c1] : List Value).toArray wsX3_isOpenCursor RX3 := hfix
  have hl : lv_has ls 2 [(0, .ref (ad 0)), (1, .int c1)] := hl
  have hf20 := hts (.fieldLink RX3 20 "TripleTrees" "cursors" "[LTripleTrees$Cursor;") (by decide +kernel)
  have hN54 : (Cond.fieldLinkNest RX3 54 "TripleTrees$Cursor" "isOpen" "Z" "TripleTrees").before ([.ref (ad 0), .int c1] : List Value).toArray s = true := va_Nw.use rfl ((hE rfl).2.1 _ (by decide +kernel))
  have hinX0 : ∀ w ∈ u_ws RX0 TX0 6, w ∈ wsX3_isOpenCursor := by decide +kernel
  have hinX3 : ∀ w ∈ u_ws RX3 TX3 4, w ∈ wsX3_isOpenCursor := by decide +kernel
  have hS : va_S (fun _ => False) s.heap s.heap [] := va_S.rf
  refine lv_iload_n hx hb dX3_isOpenCursor_0 rfl (lv_at hl 1 rfl) ?_
  refine lv_if_lt (tgt := 26) hx hb dX3_isOpenCursor_1 (by decide) (fun hb1 => ?_) (fun hb1 => ?_)
  · refine lv_iconst (v := 0) hx hb dX3_isOpenCursor_26 (by decide) ?_
    refine tt_rei (show (0 : Int32) = if tt_op C c1 then 1 else 0 from (if_neg (tt_op_out (by first | exact Or.inl hb1 | exact Or.inr hb7))).symm) ?_
    exact kr _ _ _ _ hS dX3_isOpenCursor_27
  · refine lv_iload_n hx hb dX3_isOpenCursor_4 rfl (lv_at hl 1 rfl) ?_
    refine lv_bipush (v := 8) hx hb dX3_isOpenCursor_5 (by decide) ?_
    refine lv_icmp_ge (tgt := 26) hx hb dX3_isOpenCursor_7 (by decide) (fun hb7 => ?_) (fun hb7 => ?_)
    · refine lv_iconst (v := 0) hx hb dX3_isOpenCursor_26 (by decide) ?_
      refine tt_rei (show (0 : Int32) = if tt_op C c1 then 1 else 0 from (if_neg (tt_op_out (by first | exact Or.inl hb1 | exact Or.inr hb7))).symm) ?_
      exact kr _ _ _ _ hS dX3_isOpenCursor_27
    · obtain ⟨j, hj, e1⟩ : ∃ j : Nat, j < 8 ∧ c1 = nI j := tt_ix (n := 8) (by omega) hb1 hb7
      subst e1
      refine lv_aload_n hx hb dX3_isOpenCursor_10 rfl (lv_at hl 0 rfl) ?_
      refine va_get (D := D) (ci := 3) (v := .ref (ad 2)) (C := RX3) (T := TX3) (N := 4) hx hb hts hinX3 hown hK hP 0 (tt_bg (by omega) hR.1) rfl 1 (by decide) hf20 (fun _ h9 => h9) rfl dX3_isOpenCursor_11 ?_
      refine lv_iload_n hx hb dX3_isOpenCursor_14 rfl (lv_at hl 1 rfl) ?_
      refine va_aldq hx hb hK hP 2 3 (tt_bg (by omega) hR.2.2.1) rfl (vp_in_nI (n := j) (by omega) (by omega)) dX3_isOpenCursor_15 ?_
      refine tt_rer (show va_rf (some (ad (13 + (nI j).toNatClampNeg))) = .ref (ad (13 + j)) from by rw [nI_clamp (by omega)]; rfl) ?_
      refine va_getN (host := "TripleTrees") (D := D) (ci := 0) (v := .int (tt_b (C j).1)) (C := RX0) (T := TX0) (N := 6) hx hb hts hinX0 hown hK hP (13 + j) (tt_bg (by omega) (hR.2.2.2.2.2 j hj)) rfl 0 (by decide) hN54 (fun _ h9 => h9) rfl dX3_isOpenCursor_16 ?_
      refine lv_if_eq (tgt := 26) hx hb dX3_isOpenCursor_19 (by decide) (fun hb19 => ?_) (fun hb19 => ?_)
      · refine lv_iconst (v := 0) hx hb dX3_isOpenCursor_26 (by decide) ?_
        refine tt_rei (show (0 : Int32) = if tt_op C (nI j) then 1 else 0 from (if_neg (fun h9 => by rw [tt_op_in hj] at h9; rw [h9] at hb19; exact absurd hb19 (by decide))).symm) ?_
        exact kr _ _ _ _ hS dX3_isOpenCursor_27
      · refine lv_iconst (v := 1) hx hb dX3_isOpenCursor_22 (by decide) ?_
        refine lv_goto (tgt := 27) hx hb dX3_isOpenCursor_23 (by decide) ?_
        refine tt_rei (show (1 : Int32) = if tt_op C (nI j) then 1 else 0 from (if_pos ((tt_op_in hj).mpr (tt_b1 hb19))).symm) ?_
        exact kr _ _ _ _ hS dX3_isOpenCursor_27
set_option maxHeartbeats 4000000 in
set_option maxRecDepth 100000 in
theorem c_X3_isStale (l : Launch) (D : va_G) (cI cZ cO cC : ClassId) (ad : Nat → Nat) (cx : Nat → va_E) (L : Nat → List tt_T3) (ch : Nat) (C : Nat → tt_CU) (hR : tt_R cI cZ cO cC ad cx L ch C) (j : Nat) (hj : j < 8) (h1 : (C j).2.2.2.1 < 2 ^ 31) (h2 : ch < 2 ^ 31) : tt_Pure l yX3_isStale wsX3_isStale ({ frames := 0, cells := 0, slots := 0, locals := 0 } : Room) D (tt_tys cI cZ cO cC) true (tt_blk 21 ad cx) [.ref (ad 0), .int (nI j)] (if ¬ (C j).2.2.2.1 = ch then 1 else 0) := by
  refine tt_pure (cc := cX3_isStale) (maxL := 2) (rt := .boolean) (by decide) rfl (tt_nbi _) (Nat.le_of_ble_eq_true rfl) ?_
  intro p e s m below meth c Q ls hfix hK hP hE hl kr
  obtain ⟨hx, hb, hml, hown, hts⟩ := id hfix
  have hown : s.vm.findClass RX3 = some m.cls := hown
  have hfix : CallFix p m c cX3_isStale 2 s ([.ref (ad 0), .int (nI j)] : List Value).toArray wsX3_isStale RX3 := hfix
  have hl : lv_has ls 2 [(0, .ref (ad 0)), (1, .int (nI j))] := hl
  have hf20 := hts (.fieldLink RX3 20 "TripleTrees" "cursors" "[LTripleTrees$Cursor;") (by decide +kernel)
  have hN120 : (Cond.fieldLinkNest RX3 120 "TripleTrees$Cursor" "openedAt" "I" "TripleTrees").before ([.ref (ad 0), .int (nI j)] : List Value).toArray s = true := va_Nw.use rfl ((hE rfl).2.1 _ (by decide +kernel))
  have hf44 := hts (.fieldLink RX3 44 "TripleTrees" "changed" "I") (by decide +kernel)
  have hinX0 : ∀ w ∈ u_ws RX0 TX0 6, w ∈ wsX3_isStale := by decide +kernel
  have hinX3 : ∀ w ∈ u_ws RX3 TX3 4, w ∈ wsX3_isStale := by decide +kernel
  have hS : va_S (fun _ => False) s.heap s.heap [] := va_S.rf
  refine lv_aload_n hx hb dX3_isStale_0 rfl (lv_at hl 0 rfl) ?_
  refine va_get (D := D) (ci := 3) (v := .ref (ad 2)) (C := RX3) (T := TX3) (N := 4) hx hb hts hinX3 hown hK hP 0 (tt_bg (by omega) hR.1) rfl 1 (by decide) hf20 (fun _ h9 => h9) rfl dX3_isStale_1 ?_
  refine lv_iload_n hx hb dX3_isStale_4 rfl (lv_at hl 1 rfl) ?_
  refine va_aldq hx hb hK hP 2 3 (tt_bg (by omega) hR.2.2.1) rfl (vp_in_nI (n := j) (by omega) (by omega)) dX3_isStale_5 ?_
  refine tt_rer (show va_rf (some (ad (13 + (nI j).toNatClampNeg))) = .ref (ad (13 + j)) from by rw [nI_clamp (by omega)]; rfl) ?_
  refine va_getN (host := "TripleTrees") (D := D) (ci := 0) (v := .int (nI ((C j).2.2.2.1))) (C := RX0) (T := TX0) (N := 6) hx hb hts hinX0 hown hK hP (13 + j) (tt_bg (by omega) (hR.2.2.2.2.2 j hj)) rfl 3 (by decide) hN120 (fun _ h9 => h9) rfl dX3_isStale_6 ?_
  refine lv_aload_n hx hb dX3_isStale_9 rfl (lv_at hl 0 rfl) ?_
  refine va_get (D := D) (ci := 3) (v := .int (nI ch)) (C := RX3) (T := TX3) (N := 4) hx hb hts hinX3 hown hK hP 0 (tt_bg (by omega) hR.1) rfl 3 (by decide) hf44 (fun _ h9 => h9) rfl dX3_isStale_10 ?_
  refine lv_icmp_eq (tgt := 20) hx hb dX3_isStale_13 (by decide) (fun hb13 => ?_) (fun hb13 => ?_)
  · have hb13 : (C j).2.2.2.1 = ch := (nI_eq (a := (C j).2.2.2.1) (b := ch) (by omega) (by omega)).mp hb13
    refine lv_iconst (v := 0) hx hb dX3_isStale_20 (by decide) ?_
    refine tt_rei (show 0 = if ¬ (C j).2.2.2.1 = ch then 1 else 0 from by simp [hb13]) ?_
    exact kr _ _ _ _ hS dX3_isStale_21
  · have hb13 : ¬ (C j).2.2.2.1 = ch := fun hz9 => hb13 ((nI_eq (a := (C j).2.2.2.1) (b := ch) (by omega) (by omega)).mpr hz9)
    refine lv_iconst (v := 1) hx hb dX3_isStale_16 (by decide) ?_
    refine lv_goto (tgt := 21) hx hb dX3_isStale_17 (by decide) ?_
    refine tt_rei (show 1 = if ¬ (C j).2.2.2.1 = ch then 1 else 0 from by simp [hb13]) ?_
    exact kr _ _ _ _ hS dX3_isStale_21
set_option maxHeartbeats 4000000 in
set_option maxRecDepth 100000 in
theorem c_X3_startOf (l : Launch) (D : va_G) (cI cZ cO cC : ClassId) (ad : Nat → Nat) (cx : Nat → va_E) (L : Nat → List tt_T3) (ch : Nat) (C : Nat → tt_CU) (hR : tt_R cI cZ cO cC ad cx L ch C) (mk : Nat) (s1 p1 o1 : Int32) (hm : mk < 8) (hI : tt_I L) : tt_Pure l yX3_startOf wsX3_startOf ({ frames := 3, cells := 0, slots := 0, locals := 80 } : Room) D (tt_tys cI cZ cO cC) true (tt_blk 21 ad cx) [.ref (ad 0), .int (nI mk), .int s1, .int p1, .int o1] (nI (tt_st mk s1 p1 o1 L)) := by
  refine tt_pure (cc := cX3_startOf) (maxL := 5) (rt := .int) (by decide) rfl (rfl) (Nat.le_of_ble_eq_true rfl) ?_
  intro p e s m below meth c Q ls hfix hK hP hE hl kr
  obtain ⟨hx, hb, hml, hown, hts⟩ := id hfix
  have hown : s.vm.findClass RX3 = some m.cls := hown
  have hfix : CallFix p m c cX3_startOf 5 s ([.ref (ad 0), .int (nI mk), .int s1, .int p1, .int o1] : List Value).toArray wsX3_startOf RX3 := hfix
  have hl : lv_has ls 5 [(0, .ref (ad 0)), (1, .int (nI mk)), (2, .int s1), (3, .int p1), (4, .int o1)] := hl
  have hf11 := hts (.fieldLink RX3 11 "TripleTrees" "orders" "[LTripleTrees$Order;") (by decide +kernel)
  have hf64 := hts (.fieldLink RX3 64 "TripleTrees" "ORDER_OF_MASK" "[I") (by decide +kernel)
  have hinX3 : ∀ w ∈ u_ws RX3 TX3 4, w ∈ wsX3_startOf := by decide +kernel
  have hS : va_S (fun _ => False) s.heap s.heap [] := va_S.rf
  obtain ⟨⟨tb, hZ, hTb⟩, hNN⟩ := id (hE rfl)
  have hk := tt_o_lt mk
  obtain ⟨f, ho, hp, hf⟩ := hR.2.2.2.2.1 (tt_o mk) hk
  obtain ⟨hs, hpm, hn⟩ := hI _ hk
  refine lv_aload_n hx hb dX3_startOf_0 rfl (lv_at hl 0 rfl) ?_
  refine va_get (D := D) (ci := 3) (v := .ref (ad 1)) (C := RX3) (T := TX3) (N := 4) hx hb hts hinX3 hown hK hP 0 (tt_bg (by omega) hR.1) rfl 0 (by decide) hf11 (fun _ h9 => h9) rfl dX3_startOf_1 ?_
  refine va_gets hx hb hZ hS hown hf64 (fun _ h9 => h9) dX3_startOf_4 ?_
  refine lv_iload_n hx hb dX3_startOf_7 rfl (lv_at hl 1 rfl) ?_
  refine va_ti (v := .int (nI (tt_o mk))) hx hb hTb hS (vp_in_nI (n := mk) (by omega) (by omega)) (tt_om_at (by omega)) dX3_startOf_8 ?_
  refine va_aldq hx hb hK hP 1 2 (tt_bg (by omega) hR.2.1) rfl (vp_in_nI (n := tt_o mk) (by omega) (by omega)) dX3_startOf_9 ?_
  refine tt_rer (show va_rf (some (ad (7 + (nI (tt_o mk)).toNatClampNeg))) = .ref (ad (7 + (tt_o mk))) from by rw [nI_clamp (by omega)]; rfl) ?_
  refine lv_iload_n hx hb dX3_startOf_10 rfl (lv_at hl 1 rfl) ?_
  refine tt_calli (va_runS (As := [.int (nI mk)]) (rest := [.ref (ad (7 + (tt_o mk)))]) hfix (c_J6_bitCount l D cI cZ cO cC mk hm) (va_cwS 1 hts gX3_startOf_J6_bitCount_0f7a4 rfl rfl rfl (by decide +kernel) ⟨Nat.le_of_ble_eq_true rfl, Nat.le_of_ble_eq_true rfl⟩) (tt_preS hK tt_P0 tt_E.no) rfl rfl hl.1 rfl (lv_room (Nat.le_of_ble_eq_true rfl)) dX3_startOf_11 ⟨Nat.zero_le _, Nat.zero_le _⟩) hP hS (fun H locs hP hS => ?_)
  refine lv_iload_n hx hb dX3_startOf_14 rfl (lv_at hl 2 rfl) ?_
  refine lv_iload_n hx hb dX3_startOf_15 rfl (lv_at hl 3 rfl) ?_
  refine lv_iload hx hb dX3_startOf_16 (lv_at hl 4 rfl) ?_
  refine lv_iconst (v := 0) hx hb dX3_startOf_18 (by decide) ?_
  have hPc := tt_pick2 hP (tt_bg (n := 21) (k := 7 + (tt_o mk)) (by omega) ho) (tt_bg (n := 21) (k := 10 + (tt_o mk)) (by omega) hp)
  refine tt_calli (va_runV (As := [.int (nI (tt_told mk)), .int s1, .int p1, .int o1, .int 0]) (rest := []) hfix (c_X1_placeOf l D cI cZ cO cC (ad (7 + (tt_o mk))) (ad (10 + (tt_o mk))) (tt_o mk) (L (tt_o mk)).length f (nI (tt_told mk)) s1 p1 o1 0 (tt_st mk s1 p1 o1 L) hk hn (tt_bd_f hf hs _ _ _ _ _ (by decide))) (cwV 5 hts gX3_startOf_X1_placeOf rfl rfl rfl (by decide +kernel) ⟨Nat.le_of_ble_eq_true rfl, Nat.le_of_ble_eq_true rfl⟩) (tt_preV (q0 := 0) (ci := 1) hK hPc tt_E.no rfl rfl) rfl rfl hl.1 rfl (lv_room (Nat.le_of_ble_eq_true rfl)) dX3_startOf_19 ⟨Nat.zero_le _, Nat.zero_le _⟩) hP hS (fun H locs hP hS => ?_)
  exact kr _ _ _ _ hS dX3_startOf_22
set_option maxHeartbeats 4000000 in
set_option maxRecDepth 100000 in
theorem c_X3_endOf (l : Launch) (D : va_G) (cI cZ cO cC : ClassId) (ad : Nat → Nat) (cx : Nat → va_E) (L : Nat → List tt_T3) (ch : Nat) (C : Nat → tt_CU) (hR : tt_R cI cZ cO cC ad cx L ch C) (mk : Nat) (s1 p1 o1 : Int32) (hm : mk < 8) (hI : tt_I L) : tt_Pure l yX3_endOf wsX3_endOf ({ frames := 3, cells := 0, slots := 0, locals := 80 } : Room) D (tt_tys cI cZ cO cC) true (tt_blk 21 ad cx) [.ref (ad 0), .int (nI mk), .int s1, .int p1, .int o1] (nI (tt_en mk s1 p1 o1 L)) := by
  refine tt_pure (cc := cX3_endOf) (maxL := 5) (rt := .int) (by decide) rfl (rfl) (Nat.le_of_ble_eq_true rfl) ?_
  intro p e s m below meth c Q ls hfix hK hP hE hl kr
  obtain ⟨hx, hb, hml, hown, hts⟩ := id hfix
  have hown : s.vm.findClass RX3 = some m.cls := hown
  have hfix : CallFix p m c cX3_endOf 5 s ([.ref (ad 0), .int (nI mk), .int s1, .int p1, .int o1] : List Value).toArray wsX3_endOf RX3 := hfix
  have hl : lv_has ls 5 [(0, .ref (ad 0)), (1, .int (nI mk)), (2, .int s1), (3, .int p1), (4, .int o1)] := hl
  have hf11 := hts (.fieldLink RX3 11 "TripleTrees" "orders" "[LTripleTrees$Order;") (by decide +kernel)
  have hf64 := hts (.fieldLink RX3 64 "TripleTrees" "ORDER_OF_MASK" "[I") (by decide +kernel)
  have hinX3 : ∀ w ∈ u_ws RX3 TX3 4, w ∈ wsX3_endOf := by decide +kernel
  have hS : va_S (fun _ => False) s.heap s.heap [] := va_S.rf
  obtain ⟨⟨tb, hZ, hTb⟩, hNN⟩ := id (hE rfl)
  have hk := tt_o_lt mk
  obtain ⟨f, ho, hp, hf⟩ := hR.2.2.2.2.1 (tt_o mk) hk
  obtain ⟨hs, hpm, hn⟩ := hI _ hk
  refine lv_aload_n hx hb dX3_endOf_0 rfl (lv_at hl 0 rfl) ?_
  refine va_get (D := D) (ci := 3) (v := .ref (ad 1)) (C := RX3) (T := TX3) (N := 4) hx hb hts hinX3 hown hK hP 0 (tt_bg (by omega) hR.1) rfl 0 (by decide) hf11 (fun _ h9 => h9) rfl dX3_endOf_1 ?_
  refine va_gets hx hb hZ hS hown hf64 (fun _ h9 => h9) dX3_endOf_4 ?_
  refine lv_iload_n hx hb dX3_endOf_7 rfl (lv_at hl 1 rfl) ?_
  refine va_ti (v := .int (nI (tt_o mk))) hx hb hTb hS (vp_in_nI (n := mk) (by omega) (by omega)) (tt_om_at (by omega)) dX3_endOf_8 ?_
  refine va_aldq hx hb hK hP 1 2 (tt_bg (by omega) hR.2.1) rfl (vp_in_nI (n := tt_o mk) (by omega) (by omega)) dX3_endOf_9 ?_
  refine tt_rer (show va_rf (some (ad (7 + (nI (tt_o mk)).toNatClampNeg))) = .ref (ad (7 + (tt_o mk))) from by rw [nI_clamp (by omega)]; rfl) ?_
  refine lv_iload_n hx hb dX3_endOf_10 rfl (lv_at hl 1 rfl) ?_
  refine tt_calli (va_runS (As := [.int (nI mk)]) (rest := [.ref (ad (7 + (tt_o mk)))]) hfix (c_J6_bitCount l D cI cZ cO cC mk hm) (va_cwS 1 hts gX3_endOf_J6_bitCount_0f7a4 rfl rfl rfl (by decide +kernel) ⟨Nat.le_of_ble_eq_true rfl, Nat.le_of_ble_eq_true rfl⟩) (tt_preS hK tt_P0 tt_E.no) rfl rfl hl.1 rfl (lv_room (Nat.le_of_ble_eq_true rfl)) dX3_endOf_11 ⟨Nat.zero_le _, Nat.zero_le _⟩) hP hS (fun H locs hP hS => ?_)
  refine lv_iload_n hx hb dX3_endOf_14 rfl (lv_at hl 2 rfl) ?_
  refine lv_iload_n hx hb dX3_endOf_15 rfl (lv_at hl 3 rfl) ?_
  refine lv_iload hx hb dX3_endOf_16 (lv_at hl 4 rfl) ?_
  refine lv_iconst (v := 1) hx hb dX3_endOf_18 (by decide) ?_
  have hPc := tt_pick2 hP (tt_bg (n := 21) (k := 7 + (tt_o mk)) (by omega) ho) (tt_bg (n := 21) (k := 10 + (tt_o mk)) (by omega) hp)
  refine tt_calli (va_runV (As := [.int (nI (tt_told mk)), .int s1, .int p1, .int o1, .int 1]) (rest := []) hfix (c_X1_placeOf l D cI cZ cO cC (ad (7 + (tt_o mk))) (ad (10 + (tt_o mk))) (tt_o mk) (L (tt_o mk)).length f (nI (tt_told mk)) s1 p1 o1 1 (tt_en mk s1 p1 o1 L) hk hn (tt_bd_f hf hs _ _ _ _ _ (by decide))) (cwV 5 hts gX3_endOf_X1_placeOf rfl rfl rfl (by decide +kernel) ⟨Nat.le_of_ble_eq_true rfl, Nat.le_of_ble_eq_true rfl⟩) (tt_preV (q0 := 0) (ci := 1) hK hPc tt_E.no rfl rfl) rfl rfl hl.1 rfl (lv_room (Nat.le_of_ble_eq_true rfl)) dX3_endOf_19 ⟨Nat.zero_le _, Nat.zero_le _⟩) hP hS (fun H locs hP hS => ?_)
  exact kr _ _ _ _ hS dX3_endOf_22
set_option maxHeartbeats 4000000 in
set_option maxRecDepth 100000 in
theorem c_X3_matching (l : Launch) (D : va_G) (cI cZ cO cC : ClassId) (ad : Nat → Nat) (cx : Nat → va_E) (L : Nat → List tt_T3) (ch : Nat) (C : Nat → tt_CU) (hR : tt_R cI cZ cO cC ad cx L ch C) (mk : Nat) (s1 p1 o1 : Int32) (hm : mk < 8) (hI : tt_I L) : tt_Pure l yX3_matching wsX3_matching ({ frames := 4, cells := 0, slots := 0, locals := 104 } : Room) D (tt_tys cI cZ cO cC) true (tt_blk 21 ad cx) [.ref (ad 0), .int (nI mk), .int s1, .int p1, .int o1] (nI (tt_mn mk s1 p1 o1 L)) := by
  refine tt_pure (cc := cX3_matching) (maxL := 5) (rt := .int) (by decide) rfl (rfl) (Nat.le_of_ble_eq_true rfl) ?_
  intro p e s m below meth c Q ls hfix hK hP hE hl kr
  obtain ⟨hx, hb, hml, hown, hts⟩ := id hfix
  have hown : s.vm.findClass RX3 = some m.cls := hown
  have hfix : CallFix p m c cX3_matching 5 s ([.ref (ad 0), .int (nI mk), .int s1, .int p1, .int o1] : List Value).toArray wsX3_matching RX3 := hfix
  have hl : lv_has ls 5 [(0, .ref (ad 0)), (1, .int (nI mk)), (2, .int s1), (3, .int p1), (4, .int o1)] := hl
  have hS : va_S (fun _ => False) s.heap s.heap [] := va_S.rf
  have hse := tt_st_en mk s1 p1 o1 L
  refine lv_aload_n hx hb dX3_matching_0 rfl (lv_at hl 0 rfl) ?_
  refine lv_iload_n hx hb dX3_matching_1 rfl (lv_at hl 1 rfl) ?_
  refine lv_iload_n hx hb dX3_matching_2 rfl (lv_at hl 2 rfl) ?_
  refine lv_iload_n hx hb dX3_matching_3 rfl (lv_at hl 3 rfl) ?_
  refine lv_iload hx hb dX3_matching_4 (lv_at hl 4 rfl) ?_
  have hPc := hP
  refine tt_calli (va_runV (As := [.int (nI mk), .int s1, .int p1, .int o1]) (rest := []) hfix (c_X3_endOf l D cI cZ cO cC ad cx L ch C hR mk s1 p1 o1 hm hI) (cwV 4 hts gX3_matching_X3_endOf rfl rfl rfl (by decide +kernel) ⟨Nat.le_of_ble_eq_true rfl, Nat.le_of_ble_eq_true rfl⟩) (tt_preV (q0 := 0) (ci := 3) hK hPc ((hE.at hS).narrow (fun _ h => h.elim)) (tt_bg (by omega) hR.1) rfl) rfl rfl hl.1 rfl (lv_room (Nat.le_of_ble_eq_true rfl)) dX3_matching_6 ⟨Nat.zero_le _, Nat.zero_le _⟩) hP hS (fun H locs hP hS => ?_)
  refine lv_aload_n hx hb dX3_matching_9 rfl (lv_at hl 0 rfl) ?_
  refine lv_iload_n hx hb dX3_matching_10 rfl (lv_at hl 1 rfl) ?_
  refine lv_iload_n hx hb dX3_matching_11 rfl (lv_at hl 2 rfl) ?_
  refine lv_iload_n hx hb dX3_matching_12 rfl (lv_at hl 3 rfl) ?_
  refine lv_iload hx hb dX3_matching_13 (lv_at hl 4 rfl) ?_
  have hPc := hP
  refine tt_calli (va_runV (As := [.int (nI mk), .int s1, .int p1, .int o1]) (rest := [.int (nI (tt_en mk s1 p1 o1 L))]) hfix (c_X3_startOf l D cI cZ cO cC ad cx L ch C hR mk s1 p1 o1 hm hI) (cwV 4 hts gX3_matching_X3_startOf rfl rfl rfl (by decide +kernel) ⟨Nat.le_of_ble_eq_true rfl, Nat.le_of_ble_eq_true rfl⟩) (tt_preV (q0 := 0) (ci := 3) hK hPc ((hE.at hS).narrow (fun _ h => h.elim)) (tt_bg (by omega) hR.1) rfl) rfl rfl hl.1 rfl (lv_room (Nat.le_of_ble_eq_true rfl)) dX3_matching_15 ⟨Nat.zero_le _, Nat.zero_le _⟩) hP hS (fun H locs hP hS => ?_)
  refine lv_isub hx hb dX3_matching_18 ?_
  refine tt_rei (show ((nI (tt_en mk s1 p1 o1 L)) - (nI (tt_st mk s1 p1 o1 L))) = nI (tt_en mk s1 p1 o1 L - (tt_st mk s1 p1 o1 L)) from pk_sub (a := tt_en mk s1 p1 o1 L) (b := tt_st mk s1 p1 o1 L) (by omega)) ?_
  exact kr _ _ _ _ hS dX3_matching_19
set_option maxHeartbeats 4000000 in
set_option maxRecDepth 100000 in
theorem c_X3_markOf (l : Launch) (D : va_G) (cI cZ cO cC : ClassId) (ad : Nat → Nat) (cx : Nat → va_E) (L : Nat → List tt_T3) (ch : Nat) (C : Nat → tt_CU) (hR : tt_R cI cZ cO cC ad cx L ch C) (p1 o1 : Int32) (hI : tt_I L) : tt_Pure l yX3_markOf wsX3_markOf ({ frames := 4, cells := 0, slots := 0, locals := 104 } : Room) D (tt_tys cI cZ cO cC) true (tt_blk 21 ad cx) [.ref (ad 0), .int p1, .int o1] (nI (tt_st 6 0 p1 o1 L)) := by
  refine tt_pure (cc := cX3_markOf) (maxL := 3) (rt := .int) (by decide) rfl (rfl) (Nat.le_of_ble_eq_true rfl) ?_
  intro p e s m below meth c Q ls hfix hK hP hE hl kr
  obtain ⟨hx, hb, hml, hown, hts⟩ := id hfix
  have hown : s.vm.findClass RX3 = some m.cls := hown
  have hfix : CallFix p m c cX3_markOf 3 s ([.ref (ad 0), .int p1, .int o1] : List Value).toArray wsX3_markOf RX3 := hfix
  have hl : lv_has ls 3 [(0, .ref (ad 0)), (1, .int p1), (2, .int o1)] := hl
  have hS : va_S (fun _ => False) s.heap s.heap [] := va_S.rf
  refine lv_aload_n hx hb dX3_markOf_0 rfl (lv_at hl 0 rfl) ?_
  refine lv_bipush (v := 6) hx hb dX3_markOf_1 (by decide) ?_
  refine lv_iconst (v := 0) hx hb dX3_markOf_3 (by decide) ?_
  refine lv_iload_n hx hb dX3_markOf_4 rfl (lv_at hl 1 rfl) ?_
  refine lv_iload_n hx hb dX3_markOf_5 rfl (lv_at hl 2 rfl) ?_
  have hPc := hP
  refine tt_calli (va_runV (As := [.int 6, .int 0, .int p1, .int o1]) (rest := []) hfix (c_X3_startOf l D cI cZ cO cC ad cx L ch C hR 6 0 p1 o1 (by omega) hI) (cwV 4 hts gX3_markOf_X3_startOf rfl rfl rfl (by decide +kernel) ⟨Nat.le_of_ble_eq_true rfl, Nat.le_of_ble_eq_true rfl⟩) (tt_preV (q0 := 0) (ci := 3) hK hPc ((hE.at hS).narrow (fun _ h => h.elim)) (tt_bg (by omega) hR.1) rfl) rfl rfl hl.1 rfl (lv_room (Nat.le_of_ble_eq_true rfl)) dX3_markOf_6 ⟨Nat.zero_le _, Nat.zero_le _⟩) hP hS (fun H locs hP hS => ?_)
  exact kr _ _ _ _ hS dX3_markOf_9
set_option maxHeartbeats 4000000 in
set_option maxRecDepth 100000 in
theorem c_X3_holds (l : Launch) (D : va_G) (cI cZ cO cC : ClassId) (ad : Nat → Nat) (cx : Nat → va_E) (L : Nat → List tt_T3) (ch : Nat) (C : Nat → tt_CU) (hR : tt_R cI cZ cO cC ad cx L ch C) (s1 p1 o1 : Int32) (hI : tt_I L) : tt_Pure l yX3_holds wsX3_holds ({ frames := 5, cells := 0, slots := 0, locals := 128 } : Room) D (tt_tys cI cZ cO cC) true (tt_blk 21 ad cx) [.ref (ad 0), .int s1, .int p1, .int o1] (if 0 < tt_mn 7 s1 p1 o1 L then 1 else 0) := by
  refine tt_pure (cc := cX3_holds) (maxL := 4) (rt := .boolean) (by decide) rfl (tt_nbi _) (Nat.le_of_ble_eq_true rfl) ?_
  intro p e s m below meth c Q ls hfix hK hP hE hl kr
  obtain ⟨hx, hb, hml, hown, hts⟩ := id hfix
  have hown : s.vm.findClass RX3 = some m.cls := hown
  have hfix : CallFix p m c cX3_holds 4 s ([.ref (ad 0), .int s1, .int p1, .int o1] : List Value).toArray wsX3_holds RX3 := hfix
  have hl : lv_has ls 4 [(0, .ref (ad 0)), (1, .int s1), (2, .int p1), (3, .int o1)] := hl
  have hS : va_S (fun _ => False) s.heap s.heap [] := va_S.rf
  have hmn := tt_mn_le 7 s1 p1 o1 hI
  refine lv_aload_n hx hb dX3_holds_0 rfl (lv_at hl 0 rfl) ?_
  refine lv_bipush (v := 7) hx hb dX3_holds_1 (by decide) ?_
  refine lv_iload_n hx hb dX3_holds_3 rfl (lv_at hl 1 rfl) ?_
  refine lv_iload_n hx hb dX3_holds_4 rfl (lv_at hl 2 rfl) ?_
  refine lv_iload_n hx hb dX3_holds_5 rfl (lv_at hl 3 rfl) ?_
  have hPc := hP
  refine tt_calli (va_runV (As := [.int 7, .int s1, .int p1, .int o1]) (rest := []) hfix (c_X3_matching l D cI cZ cO cC ad cx L ch C hR 7 s1 p1 o1 (by omega) hI) (cwV 4 hts gX3_holds_X3_matching rfl rfl rfl (by decide +kernel) ⟨Nat.le_of_ble_eq_true rfl, Nat.le_of_ble_eq_true rfl⟩) (tt_preV (q0 := 0) (ci := 3) hK hPc ((hE.at hS).narrow (fun _ h => h.elim)) (tt_bg (by omega) hR.1) rfl) rfl rfl hl.1 rfl (lv_room (Nat.le_of_ble_eq_true rfl)) dX3_holds_6 ⟨Nat.zero_le _, Nat.zero_le _⟩) hP hS (fun H locs hP hS => ?_)
  refine lv_if_le (tgt := 16) hx hb dX3_holds_9 (by decide) (fun hb9 => ?_) (fun hb9 => ?_)
  · have hb9 : tt_mn 7 s1 p1 o1 L ≤ 0 := (nI_leI (a := tt_mn 7 s1 p1 o1 L) (b := 0) (by omega) (by omega)).mp hb9
    refine lv_iconst (v := 0) hx hb dX3_holds_16 (by decide) ?_
    refine tt_rei (show (0 : Int32) = if 0 < tt_mn 7 s1 p1 o1 L then 1 else 0 from (if_neg (by omega)).symm) ?_
    exact kr _ _ _ _ hS dX3_holds_17
  · have hb9 : ¬ tt_mn 7 s1 p1 o1 L ≤ 0 := fun hz9 => hb9 ((nI_leI (a := tt_mn 7 s1 p1 o1 L) (b := 0) (by omega) (by omega)).mpr hz9)
    refine lv_iconst (v := 1) hx hb dX3_holds_12 (by decide) ?_
    refine lv_goto (tgt := 17) hx hb dX3_holds_13 (by decide) ?_
    refine tt_rei (show (1 : Int32) = if 0 < tt_mn 7 s1 p1 o1 L then 1 else 0 from (if_pos (by omega)).symm) ?_
    exact kr _ _ _ _ hS dX3_holds_17
set_option maxHeartbeats 4000000 in
set_option maxRecDepth 100000 in
theorem c_X3_many (l : Launch) (D : va_G) (cI cZ cO cC : ClassId) (ad : Nat → Nat) (cx : Nat → va_E) (L : Nat → List tt_T3) (ch : Nat) (C : Nat → tt_CU) (hR : tt_R cI cZ cO cC ad cx L ch C) (x1 s1 p1 o1 : Int32) (hI : tt_I L) : tt_Pure l yX3_many wsX3_many ({ frames := 5, cells := 0, slots := 0, locals := 128 } : Room) D (tt_tys cI cZ cO cC) true (tt_blk 21 ad cx) [.ref (ad 0), .int x1, .int s1, .int p1, .int o1] (if ¬ x1 < 0 ∧ ¬ 8 ≤ x1 then (fun mk => nI (tt_mn mk s1 p1 o1 L)) x1.toNatClampNeg else (-1)) := by
  refine tt_pure (cc := cX3_many) (maxL := 5) (rt := .int) (by decide) rfl (rfl) (Nat.le_of_ble_eq_true rfl) ?_
  intro p e s m below meth c Q ls hfix hK hP hE hl kr
  obtain ⟨hx, hb, hml, hown, hts⟩ := id hfix
  have hown : s.vm.findClass RX3 = some m.cls := hown
  have hfix : CallFix p m c cX3_many 5 s ([.ref (ad 0), .int x1, .int s1, .int p1, .int o1] : List Value).toArray wsX3_many RX3 := hfix
  have hl : lv_has ls 5 [(0, .ref (ad 0)), (1, .int x1), (2, .int s1), (3, .int p1), (4, .int o1)] := hl
  have hS : va_S (fun _ => False) s.heap s.heap [] := va_S.rf
  refine lv_iload_n hx hb dX3_many_0 rfl (lv_at hl 1 rfl) ?_
  refine tt_calli (va_runS (As := [.int x1]) (rest := []) hfix (c_X3_isMask l D cI cZ cO cC x1) (va_cwS 1 hts gX3_many_X3_isMask rfl rfl rfl (by decide +kernel) ⟨Nat.le_of_ble_eq_true rfl, Nat.le_of_ble_eq_true rfl⟩) (tt_preS hK tt_P0 tt_E.no) rfl rfl hl.1 rfl (lv_room (Nat.le_of_ble_eq_true rfl)) dX3_many_1 ⟨Nat.zero_le _, Nat.zero_le _⟩) hP hS (fun H locs hP hS => ?_)
  refine lv_if_eq (tgt := 19) hx hb dX3_many_4 (by decide) (fun hb4 => ?_) (fun hb4 => ?_)
  · refine lv_iconst (v := (-1)) hx hb dX3_many_19 (by decide) ?_
    refine tt_rei (show (-1) = if ¬ x1 < 0 ∧ ¬ 8 ≤ x1 then (fun mk => nI (tt_mn mk s1 p1 o1 L)) x1.toNatClampNeg else (-1) from (if_neg (tt_if0 hb4)).symm) ?_
    exact kr _ _ _ _ hS dX3_many_20
  · obtain ⟨mk, hm, e1⟩ : ∃ j : Nat, j < 8 ∧ x1 = nI j := tt_ix (n := 8) (by omega) (tt_if1 hb4).1 (tt_if1 hb4).2
    subst e1
    refine lv_aload_n hx hb dX3_many_7 rfl (lv_at hl 0 rfl) ?_
    refine lv_iload_n hx hb dX3_many_8 rfl (lv_at hl 1 rfl) ?_
    refine lv_iload_n hx hb dX3_many_9 rfl (lv_at hl 2 rfl) ?_
    refine lv_iload_n hx hb dX3_many_10 rfl (lv_at hl 3 rfl) ?_
    refine lv_iload hx hb dX3_many_11 (lv_at hl 4 rfl) ?_
    have hPc := hP
    refine tt_calli (va_runV (As := [.int (nI mk), .int s1, .int p1, .int o1]) (rest := []) hfix (c_X3_matching l D cI cZ cO cC ad cx L ch C hR mk s1 p1 o1 hm hI) (cwV 4 hts gX3_many_X3_matching rfl rfl rfl (by decide +kernel) ⟨Nat.le_of_ble_eq_true rfl, Nat.le_of_ble_eq_true rfl⟩) (tt_preV (q0 := 0) (ci := 3) hK hPc ((hE.at hS).narrow (fun _ h => h.elim)) (tt_bg (by omega) hR.1) rfl) rfl rfl hl.1 rfl (lv_room (Nat.le_of_ble_eq_true rfl)) dX3_many_13 ⟨Nat.zero_le _, Nat.zero_le _⟩) hP hS (fun H locs hP hS => ?_)
    refine lv_goto (tgt := 20) hx hb dX3_many_16 (by decide) ?_
    refine tt_rei (show (nI (tt_mn mk s1 p1 o1 L)) = if ¬ (nI mk) < 0 ∧ ¬ 8 ≤ (nI mk) then (fun mk => nI (tt_mn mk s1 p1 o1 L)) (nI mk).toNatClampNeg else (-1) from (tt_ifin (n := 8) hm (by omega) (fun mk => nI (tt_mn mk s1 p1 o1 L)) (-1)).symm) ?_
    exact kr _ _ _ _ hS dX3_many_20
set_option maxHeartbeats 4000000 in
set_option maxRecDepth 100000 in
theorem c_X3_at (l : Launch) (D : va_G) (cI cZ cO cC : ClassId) (ad : Nat → Nat) (cx : Nat → va_E) (L : Nat → List tt_T3) (ch : Nat) (C : Nat → tt_CU) (hR : tt_R cI cZ cO cC ad cx L ch C) (x1 x2 x3 : Int32) (hI : tt_I L) : tt_Pure l yX3_at wsX3_at ({ frames := 1, cells := 0, slots := 0, locals := 22 } : Room) D (tt_tys cI cZ cO cC) true (tt_blk 21 ad cx) [.ref (ad 0), .int x1, .int x2, .int x3] (if ¬ x1 < 0 ∧ ¬ 3 ≤ x1 then (fun k => tt_at (L k) x2 x3) x1.toNatClampNeg else 0) := by
  refine tt_pure (cc := cX3_at) (maxL := 4) (rt := .int) (by decide) rfl (rfl) (Nat.le_of_ble_eq_true rfl) ?_
  intro p e s m below meth c Q ls hfix hK hP hE hl kr
  obtain ⟨hx, hb, hml, hown, hts⟩ := id hfix
  have hown : s.vm.findClass RX3 = some m.cls := hown
  have hfix : CallFix p m c cX3_at 4 s ([.ref (ad 0), .int x1, .int x2, .int x3] : List Value).toArray wsX3_at RX3 := hfix
  have hl : lv_has ls 4 [(0, .ref (ad 0)), (1, .int x1), (2, .int x2), (3, .int x3)] := hl
  have hf11 := hts (.fieldLink RX3 11 "TripleTrees" "orders" "[LTripleTrees$Order;") (by decide +kernel)
  have hinX3 : ∀ w ∈ u_ws RX3 TX3 4, w ∈ wsX3_at := by decide +kernel
  have hS : va_S (fun _ => False) s.heap s.heap [] := va_S.rf
  refine lv_iload_n hx hb dX3_at_0 rfl (lv_at hl 1 rfl) ?_
  refine tt_calli (va_runS (As := [.int x1]) (rest := []) hfix (c_X3_isOrder l D cI cZ cO cC x1) (va_cwS 1 hts gX3_at_X3_isOrder rfl rfl rfl (by decide +kernel) ⟨Nat.le_of_ble_eq_true rfl, Nat.le_of_ble_eq_true rfl⟩) (tt_preS hK tt_P0 tt_E.no) rfl rfl hl.1 rfl (lv_room (Nat.le_of_ble_eq_true rfl)) dX3_at_1 ⟨Nat.zero_le _, Nat.zero_le _⟩) hP hS (fun H locs hP hS => ?_)
  refine lv_if_eq (tgt := 21) hx hb dX3_at_4 (by decide) (fun hb4 => ?_) (fun hb4 => ?_)
  · refine lv_iconst (v := 0) hx hb dX3_at_21 (by decide) ?_
    refine tt_rei (show 0 = if ¬ x1 < 0 ∧ ¬ 3 ≤ x1 then (fun k => tt_at (L k) x2 x3) x1.toNatClampNeg else 0 from (if_neg (tt_if0 hb4)).symm) ?_
    exact kr _ _ _ _ hS dX3_at_22
  · obtain ⟨k, hm, e1⟩ : ∃ j : Nat, j < 3 ∧ x1 = nI j := tt_ix (n := 3) (by omega) (tt_if1 hb4).1 (tt_if1 hb4).2
    subst e1
    obtain ⟨f, ho, hp, hf⟩ := hR.2.2.2.2.1 (k) hm
    refine lv_aload_n hx hb dX3_at_7 rfl (lv_at hl 0 rfl) ?_
    refine va_get (D := D) (ci := 3) (v := .ref (ad 1)) (C := RX3) (T := TX3) (N := 4) hx hb hts hinX3 hown hK hP 0 (tt_bg (by omega) hR.1) rfl 0 (by decide) hf11 (fun _ h9 => h9) rfl dX3_at_8 ?_
    refine lv_iload_n hx hb dX3_at_11 rfl (lv_at hl 1 rfl) ?_
    refine va_aldq hx hb hK hP 1 2 (tt_bg (by omega) hR.2.1) rfl (vp_in_nI (n := k) (by omega) (by omega)) dX3_at_12 ?_
    refine tt_rer (show va_rf (some (ad (7 + (nI k).toNatClampNeg))) = .ref (ad (7 + k)) from by rw [nI_clamp (by omega)]; rfl) ?_
    refine lv_iload_n hx hb dX3_at_13 rfl (lv_at hl 2 rfl) ?_
    refine lv_iload_n hx hb dX3_at_14 rfl (lv_at hl 3 rfl) ?_
    have hPc := tt_pick2 hP (tt_bg (n := 21) (k := 7 + k) (by omega) ho) (tt_bg (n := 21) (k := 10 + k) (by omega) hp)
    refine tt_calli (va_runV (As := [.int x2, .int x3]) (rest := []) hfix (c_X1_partAt l D cI cZ cO cC (ad (7 + k)) (ad (10 + k)) k (L k).length f x2 x3 hm (hI k hm).2.2) (cwV 2 hts gX3_at_X1_partAt rfl rfl rfl (by decide +kernel) ⟨Nat.le_of_ble_eq_true rfl, Nat.le_of_ble_eq_true rfl⟩) (tt_preV (q0 := 0) (ci := 1) hK hPc tt_E.no rfl rfl) rfl rfl hl.1 rfl (lv_room (Nat.le_of_ble_eq_true rfl)) dX3_at_15 ⟨Nat.zero_le _, Nat.zero_le _⟩) hP hS (fun H locs hP hS => ?_)
    refine tt_rei (show (tt_pa (L k).length k f x2 x3) = tt_at (L k) x2 x3 from tt_pa_at hf hm (hI k hm).2.2 x2 x3) ?_
    refine lv_goto (tgt := 22) hx hb dX3_at_18 (by decide) ?_
    refine tt_rei (show (tt_at (L k) x2 x3) = if ¬ (nI k) < 0 ∧ ¬ 3 ≤ (nI k) then (fun k => tt_at (L k) x2 x3) (nI k).toNatClampNeg else 0 from (tt_ifin (n := 3) hm (by omega) (fun k => tt_at (L k) x2 x3) 0).symm) ?_
    exact kr _ _ _ _ hS dX3_at_22
set_option maxHeartbeats 4000000 in
set_option maxRecDepth 100000 in
theorem c_X3_before (l : Launch) (D : va_G) (cI cZ cO cC : ClassId) (ad : Nat → Nat) (cx : Nat → va_E) (L : Nat → List tt_T3) (ch : Nat) (C : Nat → tt_CU) (hR : tt_R cI cZ cO cC ad cx L ch C) (x1 s1 p1 o1 : Int32) (hI : tt_I L) : tt_Pure l yX3_before wsX3_before ({ frames := 3, cells := 0, slots := 0, locals := 80 } : Room) D (tt_tys cI cZ cO cC) true (tt_blk 21 ad cx) [.ref (ad 0), .int x1, .int s1, .int p1, .int o1] (if ¬ x1 < 0 ∧ ¬ 3 ≤ x1 then (fun k => nI (tt_plu k 3 s1 p1 o1 0 (L k))) x1.toNatClampNeg else (-1)) := by
  refine tt_pure (cc := cX3_before) (maxL := 5) (rt := .int) (by decide) rfl (rfl) (Nat.le_of_ble_eq_true rfl) ?_
  intro p e s m below meth c Q ls hfix hK hP hE hl kr
  obtain ⟨hx, hb, hml, hown, hts⟩ := id hfix
  have hown : s.vm.findClass RX3 = some m.cls := hown
  have hfix : CallFix p m c cX3_before 5 s ([.ref (ad 0), .int x1, .int s1, .int p1, .int o1] : List Value).toArray wsX3_before RX3 := hfix
  have hl : lv_has ls 5 [(0, .ref (ad 0)), (1, .int x1), (2, .int s1), (3, .int p1), (4, .int o1)] := hl
  have hf11 := hts (.fieldLink RX3 11 "TripleTrees" "orders" "[LTripleTrees$Order;") (by decide +kernel)
  have hinX3 : ∀ w ∈ u_ws RX3 TX3 4, w ∈ wsX3_before := by decide +kernel
  have hS : va_S (fun _ => False) s.heap s.heap [] := va_S.rf
  refine lv_iload_n hx hb dX3_before_0 rfl (lv_at hl 1 rfl) ?_
  refine tt_calli (va_runS (As := [.int x1]) (rest := []) hfix (c_X3_isOrder l D cI cZ cO cC x1) (va_cwS 1 hts gX3_before_X3_isOrder rfl rfl rfl (by decide +kernel) ⟨Nat.le_of_ble_eq_true rfl, Nat.le_of_ble_eq_true rfl⟩) (tt_preS hK tt_P0 tt_E.no) rfl rfl hl.1 rfl (lv_room (Nat.le_of_ble_eq_true rfl)) dX3_before_1 ⟨Nat.zero_le _, Nat.zero_le _⟩) hP hS (fun H locs hP hS => ?_)
  refine lv_if_eq (tgt := 25) hx hb dX3_before_4 (by decide) (fun hb4 => ?_) (fun hb4 => ?_)
  · refine lv_iconst (v := (-1)) hx hb dX3_before_25 (by decide) ?_
    refine tt_rei (show (-1) = if ¬ x1 < 0 ∧ ¬ 3 ≤ x1 then (fun k => nI (tt_plu k 3 s1 p1 o1 0 (L k))) x1.toNatClampNeg else (-1) from (if_neg (tt_if0 hb4)).symm) ?_
    exact kr _ _ _ _ hS dX3_before_26
  · obtain ⟨k, hm, e1⟩ : ∃ j : Nat, j < 3 ∧ x1 = nI j := tt_ix (n := 3) (by omega) (tt_if1 hb4).1 (tt_if1 hb4).2
    subst e1
    obtain ⟨f, ho, hp, hf⟩ := hR.2.2.2.2.1 (k) hm
    refine lv_aload_n hx hb dX3_before_7 rfl (lv_at hl 0 rfl) ?_
    refine va_get (D := D) (ci := 3) (v := .ref (ad 1)) (C := RX3) (T := TX3) (N := 4) hx hb hts hinX3 hown hK hP 0 (tt_bg (by omega) hR.1) rfl 0 (by decide) hf11 (fun _ h9 => h9) rfl dX3_before_8 ?_
    refine lv_iload_n hx hb dX3_before_11 rfl (lv_at hl 1 rfl) ?_
    refine va_aldq hx hb hK hP 1 2 (tt_bg (by omega) hR.2.1) rfl (vp_in_nI (n := k) (by omega) (by omega)) dX3_before_12 ?_
    refine tt_rer (show va_rf (some (ad (7 + (nI k).toNatClampNeg))) = .ref (ad (7 + k)) from by rw [nI_clamp (by omega)]; rfl) ?_
    refine lv_iconst (v := 3) hx hb dX3_before_13 (by decide) ?_
    refine lv_iload_n hx hb dX3_before_14 rfl (lv_at hl 2 rfl) ?_
    refine lv_iload_n hx hb dX3_before_15 rfl (lv_at hl 3 rfl) ?_
    refine lv_iload hx hb dX3_before_16 (lv_at hl 4 rfl) ?_
    refine lv_iconst (v := 0) hx hb dX3_before_18 (by decide) ?_
    have hPc := tt_pick2 hP (tt_bg (n := 21) (k := 7 + k) (by omega) ho) (tt_bg (n := 21) (k := 10 + k) (by omega) hp)
    refine tt_calli (va_runV (As := [.int 3, .int s1, .int p1, .int o1, .int 0]) (rest := []) hfix (c_X1_placeOf l D cI cZ cO cC (ad (7 + k)) (ad (10 + k)) k (L k).length f 3 s1 p1 o1 0 (tt_plu k 3 s1 p1 o1 0 (L k)) hm (hI k hm).2.2 (tt_bd_f hf (hI k hm).1 _ _ _ _ _ (by decide))) (cwV 5 hts gX3_before_X1_placeOf rfl rfl rfl (by decide +kernel) ⟨Nat.le_of_ble_eq_true rfl, Nat.le_of_ble_eq_true rfl⟩) (tt_preV (q0 := 0) (ci := 1) hK hPc tt_E.no rfl rfl) rfl rfl hl.1 rfl (lv_room (Nat.le_of_ble_eq_true rfl)) dX3_before_19 ⟨Nat.zero_le _, Nat.zero_le _⟩) hP hS (fun H locs hP hS => ?_)
    refine lv_goto (tgt := 26) hx hb dX3_before_22 (by decide) ?_
    refine tt_rei (show (nI (tt_plu k 3 s1 p1 o1 0 (L k))) = if ¬ (nI k) < 0 ∧ ¬ 3 ≤ (nI k) then (fun k => nI (tt_plu k 3 s1 p1 o1 0 (L k))) (nI k).toNatClampNeg else (-1) from (tt_ifin (n := 3) hm (by omega) (fun k => nI (tt_plu k 3 s1 p1 o1 0 (L k))) (-1)).symm) ?_
    exact kr _ _ _ _ hS dX3_before_26
set_option maxHeartbeats 4000000 in
set_option maxRecDepth 100000 in
theorem c_X3_different (l : Launch) (D : va_G) (cI cZ cO cC : ClassId) (ad : Nat → Nat) (cx : Nat → va_E) (L : Nat → List tt_T3) (ch : Nat) (C : Nat → tt_CU) (hR : tt_R cI cZ cO cC ad cx L ch C) (x1 : Int32) (hI : tt_I L) : tt_Pure l yX3_different wsX3_different ({ frames := 1, cells := 0, slots := 0, locals := 22 } : Room) D (tt_tys cI cZ cO cC) true (tt_blk 21 ad cx) [.ref (ad 0), .int x1] (if ¬ x1 < 0 ∧ ¬ 3 ≤ x1 then (fun k => nI (tt_dn (fun j => tt_pp k (tt_gt (L k) j)) (L k).length)) x1.toNatClampNeg else (-1)) := by
  refine tt_pure (cc := cX3_different) (maxL := 2) (rt := .int) (by decide) rfl (rfl) (Nat.le_of_ble_eq_true rfl) ?_
  intro p e s m below meth c Q ls hfix hK hP hE hl kr
  obtain ⟨hx, hb, hml, hown, hts⟩ := id hfix
  have hown : s.vm.findClass RX3 = some m.cls := hown
  have hfix : CallFix p m c cX3_different 2 s ([.ref (ad 0), .int x1] : List Value).toArray wsX3_different RX3 := hfix
  have hl : lv_has ls 2 [(0, .ref (ad 0)), (1, .int x1)] := hl
  have hf11 := hts (.fieldLink RX3 11 "TripleTrees" "orders" "[LTripleTrees$Order;") (by decide +kernel)
  have hinX3 : ∀ w ∈ u_ws RX3 TX3 4, w ∈ wsX3_different := by decide +kernel
  have hS : va_S (fun _ => False) s.heap s.heap [] := va_S.rf
  refine lv_iload_n hx hb dX3_different_0 rfl (lv_at hl 1 rfl) ?_
  refine tt_calli (va_runS (As := [.int x1]) (rest := []) hfix (c_X3_isOrder l D cI cZ cO cC x1) (va_cwS 1 hts gX3_different_X3_isOrder rfl rfl rfl (by decide +kernel) ⟨Nat.le_of_ble_eq_true rfl, Nat.le_of_ble_eq_true rfl⟩) (tt_preS hK tt_P0 tt_E.no) rfl rfl hl.1 rfl (lv_room (Nat.le_of_ble_eq_true rfl)) dX3_different_1 ⟨Nat.zero_le _, Nat.zero_le _⟩) hP hS (fun H locs hP hS => ?_)
  refine lv_if_eq (tgt := 19) hx hb dX3_different_4 (by decide) (fun hb4 => ?_) (fun hb4 => ?_)
  · refine lv_iconst (v := (-1)) hx hb dX3_different_19 (by decide) ?_
    refine tt_rei (show (-1) = if ¬ x1 < 0 ∧ ¬ 3 ≤ x1 then (fun k => nI (tt_dn (fun j => tt_pp k (tt_gt (L k) j)) (L k).length)) x1.toNatClampNeg else (-1) from (if_neg (tt_if0 hb4)).symm) ?_
    exact kr _ _ _ _ hS dX3_different_20
  · obtain ⟨k, hm, e1⟩ : ∃ j : Nat, j < 3 ∧ x1 = nI j := tt_ix (n := 3) (by omega) (tt_if1 hb4).1 (tt_if1 hb4).2
    subst e1
    obtain ⟨f, ho, hp, hf⟩ := hR.2.2.2.2.1 (k) hm
    refine lv_aload_n hx hb dX3_different_7 rfl (lv_at hl 0 rfl) ?_
    refine va_get (D := D) (ci := 3) (v := .ref (ad 1)) (C := RX3) (T := TX3) (N := 4) hx hb hts hinX3 hown hK hP 0 (tt_bg (by omega) hR.1) rfl 0 (by decide) hf11 (fun _ h9 => h9) rfl dX3_different_8 ?_
    refine lv_iload_n hx hb dX3_different_11 rfl (lv_at hl 1 rfl) ?_
    refine va_aldq hx hb hK hP 1 2 (tt_bg (by omega) hR.2.1) rfl (vp_in_nI (n := k) (by omega) (by omega)) dX3_different_12 ?_
    refine tt_rer (show va_rf (some (ad (7 + (nI k).toNatClampNeg))) = .ref (ad (7 + k)) from by rw [nI_clamp (by omega)]; rfl) ?_
    have hPc := tt_pick2 hP (tt_bg (n := 21) (k := 7 + k) (by omega) ho) (tt_bg (n := 21) (k := 10 + k) (by omega) hp)
    refine tt_calli (va_runV (As := []) (rest := []) hfix (c_X1_differentFirsts l D cI cZ cO cC (ad (7 + k)) (ad (10 + k)) k (L k).length f (hI k hm).2.2) (cwV 0 hts gX3_different_X1_differentFirsts rfl rfl rfl (by decide +kernel) ⟨Nat.le_of_ble_eq_true rfl, Nat.le_of_ble_eq_true rfl⟩) (tt_preV (q0 := 0) (ci := 1) hK hPc tt_E.no rfl rfl) rfl rfl hl.1 rfl (lv_room (Nat.le_of_ble_eq_true rfl)) dX3_different_13 ⟨Nat.zero_le _, Nat.zero_le _⟩) hP hS (fun H locs hP hS => ?_)
    refine tt_rei (show (nI (tt_df f (L k).length)) = nI (tt_dn (fun j => tt_pp k (tt_gt (L k) j)) (L k).length) from congrArg nI (tt_df_dn hf hm)) ?_
    refine lv_goto (tgt := 20) hx hb dX3_different_16 (by decide) ?_
    refine tt_rei (show (nI (tt_dn (fun j => tt_pp k (tt_gt (L k) j)) (L k).length)) = if ¬ (nI k) < 0 ∧ ¬ 3 ≤ (nI k) then (fun k => nI (tt_dn (fun j => tt_pp k (tt_gt (L k) j)) (L k).length)) (nI k).toNatClampNeg else (-1) from (tt_ifin (n := 3) hm (by omega) (fun k => nI (tt_dn (fun j => tt_pp k (tt_gt (L k) j)) (L k).length)) (-1)).symm) ?_
    exact kr _ _ _ _ hS dX3_different_20
set_option maxHeartbeats 4000000 in
set_option maxRecDepth 100000 in
theorem c_X3_size (l : Launch) (D : va_G) (cI cZ cO cC : ClassId) (ad : Nat → Nat) (cx : Nat → va_E) (L : Nat → List tt_T3) (ch : Nat) (C : Nat → tt_CU) (hR : tt_R cI cZ cO cC ad cx L ch C)  : tt_Pure l yX3_size wsX3_size ({ frames := 0, cells := 0, slots := 0, locals := 0 } : Room) D (tt_tys cI cZ cO cC) true (tt_blk 21 ad cx) [.ref (ad 0)] (nI (L 0).length) := by
  refine tt_pure (cc := cX3_size) (maxL := 1) (rt := .int) (by decide) rfl (rfl) (Nat.le_of_ble_eq_true rfl) ?_
  intro p e s m below meth c Q ls hfix hK hP hE hl kr
  obtain ⟨hx, hb, hml, hown, hts⟩ := id hfix
  have hown : s.vm.findClass RX3 = some m.cls := hown
  have hfix : CallFix p m c cX3_size 1 s ([.ref (ad 0)] : List Value).toArray wsX3_size RX3 := hfix
  have hl : lv_has ls 1 [(0, .ref (ad 0))] := hl
  have hf11 := hts (.fieldLink RX3 11 "TripleTrees" "orders" "[LTripleTrees$Order;") (by decide +kernel)
  have hN36 : (Cond.fieldLinkNest RX3 36 "TripleTrees$Order" "count" "I" "TripleTrees").before ([.ref (ad 0)] : List Value).toArray s = true := va_Nw.use rfl ((hE rfl).2.1 _ (by decide +kernel))
  have hinX1 : ∀ w ∈ u_ws RX1 TX1 3, w ∈ wsX3_size := by decide +kernel
  have hinX3 : ∀ w ∈ u_ws RX3 TX3 4, w ∈ wsX3_size := by decide +kernel
  have hS : va_S (fun _ => False) s.heap s.heap [] := va_S.rf
  obtain ⟨f, ho, hp, hf⟩ := hR.2.2.2.2.1 (0) (by omega)
  refine lv_aload_n hx hb dX3_size_0 rfl (lv_at hl 0 rfl) ?_
  refine va_get (D := D) (ci := 3) (v := .ref (ad 1)) (C := RX3) (T := TX3) (N := 4) hx hb hts hinX3 hown hK hP 0 (tt_bg (by omega) hR.1) rfl 0 (by decide) hf11 (fun _ h9 => h9) rfl dX3_size_1 ?_
  refine lv_iconst (v := 0) hx hb dX3_size_4 (by decide) ?_
  refine va_aldq hx hb hK hP 1 2 (tt_bg (by omega) hR.2.1) rfl (vp_in_nI (n := 0) (by omega) (by omega)) dX3_size_5 ?_
  refine tt_rer (show va_rf (some (ad (7 + (nI 0).toNatClampNeg))) = .ref (ad (7 + 0)) from by rw [nI_clamp (by omega)]; rfl) ?_
  refine va_getN (host := "TripleTrees") (D := D) (ci := 1) (v := .int (nI ((L 0).length))) (C := RX1) (T := TX1) (N := 3) hx hb hts hinX1 hown hK hP (7 + 0) (tt_bg (by omega) ho) rfl 2 (by decide) hN36 (fun _ h9 => h9) rfl dX3_size_6 ?_
  exact kr _ _ _ _ hS dX3_size_9
set_option maxHeartbeats 4000000 in
set_option maxRecDepth 100000 in
theorem c_X3_changes (l : Launch) (D : va_G) (cI cZ cO cC : ClassId) (ad : Nat → Nat) (cx : Nat → va_E) (L : Nat → List tt_T3) (ch : Nat) (C : Nat → tt_CU) (hR : tt_R cI cZ cO cC ad cx L ch C)  : tt_Pure l yX3_changes wsX3_changes ({ frames := 0, cells := 0, slots := 0, locals := 0 } : Room) D (tt_tys cI cZ cO cC) true (tt_blk 21 ad cx) [.ref (ad 0)] (nI ch) := by
  refine tt_pure (cc := cX3_changes) (maxL := 1) (rt := .int) (by decide) rfl (rfl) (Nat.le_of_ble_eq_true rfl) ?_
  intro p e s m below meth c Q ls hfix hK hP hE hl kr
  obtain ⟨hx, hb, hml, hown, hts⟩ := id hfix
  have hown : s.vm.findClass RX3 = some m.cls := hown
  have hfix : CallFix p m c cX3_changes 1 s ([.ref (ad 0)] : List Value).toArray wsX3_changes RX3 := hfix
  have hl : lv_has ls 1 [(0, .ref (ad 0))] := hl
  have hf44 := hts (.fieldLink RX3 44 "TripleTrees" "changed" "I") (by decide +kernel)
  have hinX3 : ∀ w ∈ u_ws RX3 TX3 4, w ∈ wsX3_changes := by decide +kernel
  have hS : va_S (fun _ => False) s.heap s.heap [] := va_S.rf
  refine lv_aload_n hx hb dX3_changes_0 rfl (lv_at hl 0 rfl) ?_
  refine va_get (D := D) (ci := 3) (v := .int (nI ch)) (C := RX3) (T := TX3) (N := 4) hx hb hts hinX3 hown hK hP 0 (tt_bg (by omega) hR.1) rfl 3 (by decide) hf44 (fun _ h9 => h9) rfl dX3_changes_1 ?_
  exact kr _ _ _ _ hS dX3_changes_4
set_option maxHeartbeats 4000000 in
set_option maxRecDepth 100000 in
theorem c_X3_chains (l : Launch) (D : va_G) (cI cZ cO cC : ClassId) (ad : Nat → Nat) (cx : Nat → va_E) (L : Nat → List tt_T3) (ch : Nat) (C : Nat → tt_CU) (hR : tt_R cI cZ cO cC ad cx L ch C) (p1 q1 : Int32) (hI : tt_I L) : tt_Pure l yX3_chains wsX3_chains ({ frames := 5, cells := 0, slots := 0, locals := 128 } : Room) D (tt_tys cI cZ cO cC) true (tt_blk 21 ad cx) [.ref (ad 0), .int p1, .int q1] (nI (tt_sm (fun j => tt_mn 3 (tt_pp 2 (tt_gt (L 1) j)) q1 0 L) (tt_st 2 0 p1 0 L) (tt_en 2 0 p1 0 L - tt_st 2 0 p1 0 L))) := by
  refine tt_pure (cc := cX3_chains) (maxL := 6) (rt := .int) (by decide) rfl (rfl) (Nat.le_of_ble_eq_true rfl) ?_
  intro p e s m below meth c Q ls hfix hK hP hE hl kr
  obtain ⟨hx, hb, hml, hown, hts⟩ := id hfix
  have hown : s.vm.findClass RX3 = some m.cls := hown
  have hfix : CallFix p m c cX3_chains 6 s ([.ref (ad 0), .int p1, .int q1] : List Value).toArray wsX3_chains RX3 := hfix
  have hl : lv_has ls 6 [(0, .ref (ad 0)), (1, .int p1), (2, .int q1)] := hl
  have hf11 := hts (.fieldLink RX3 11 "TripleTrees" "orders" "[LTripleTrees$Order;") (by decide +kernel)
  have hinX3 : ∀ w ∈ u_ws RX3 TX3 4, w ∈ wsX3_chains := by decide +kernel
  have hS : va_S (fun _ => False) s.heap s.heap [] := va_S.rf
  have hse := tt_st_en 2 0 p1 0 L
  have hel : tt_en 2 0 p1 0 L ≤ (L 1).length := (tt_en_le 2 0 p1 0 hI).1
  have hl1 := (hI 1 (by omega)).2.2
  obtain ⟨f, ho, hp, hf⟩ := hR.2.2.2.2.1 (1) (by omega)
  have loop : ∀ (d i : Nat), (tt_st 2 0 p1 0 L + d + i = tt_en 2 0 p1 0 L) → ∀ (H : Heap) (locs : List Loc) (ls : Array Slot), va_P D vwCl (tt_blk 21 ad cx) H → va_S (fun _ => False) s.heap H locs → lv_has ls 6 [(5, .int (nI (tt_st 2 0 p1 0 L + i))), (4, .int (nI (tt_en 2 0 p1 0 L))), (3, .int (nI (tt_sm (fun j => tt_mn 3 (tt_pp 2 (tt_gt (L 1) j)) q1 0 L) (tt_st 2 0 p1 0 L) i))), (0, .ref (ad 0)), (1, .int p1), (2, .int q1)] → W p l e ({ frames := 5, cells := 0, slots := 0, locals := 128 } : Room) s m ([.ref (ad 0), .int p1, .int q1] : List Value).toArray below meth c H locs 0 0 Q (F0 m 22 ls []) := by
    intro d
    induction d with
    | zero =>
      intro i hd H locs ls hP hS hl
      refine lv_iload hx hb dX3_chains_22 (lv_at hl 0 rfl) ?_
      refine lv_iload hx hb dX3_chains_24 (lv_at hl 1 rfl) ?_
      refine lv_icmp_ge (tgt := 57) hx hb dX3_chains_26 (by decide) (fun hb26 => ?_) (fun hb26 => ?_)
      · have hb26 : tt_en 2 0 p1 0 L ≤ tt_st 2 0 p1 0 L + i := (nI_leI (a := tt_en 2 0 p1 0 L) (b := tt_st 2 0 p1 0 L + i) (by omega) (by omega)).mp hb26
        refine lv_iload_n hx hb dX3_chains_57 rfl (lv_at hl 2 rfl) ?_
        have hi : i = tt_en 2 0 p1 0 L - tt_st 2 0 p1 0 L := by omega
        rw [hi]
        exact kr _ _ _ _ hS dX3_chains_58
      · have hb26 : ¬ tt_en 2 0 p1 0 L ≤ tt_st 2 0 p1 0 L + i := fun hz9 => hb26 ((nI_leI (a := tt_en 2 0 p1 0 L) (b := tt_st 2 0 p1 0 L + i) (by omega) (by omega)).mpr hz9)
        exact absurd hb26 (by omega)
    | succ d ih =>
      intro i hd H locs ls hP hS hl
      refine lv_iload hx hb dX3_chains_22 (lv_at hl 0 rfl) ?_
      refine lv_iload hx hb dX3_chains_24 (lv_at hl 1 rfl) ?_
      refine lv_icmp_ge (tgt := 57) hx hb dX3_chains_26 (by decide) (fun hb26 => ?_) (fun hb26 => ?_)
      · have hb26 : tt_en 2 0 p1 0 L ≤ tt_st 2 0 p1 0 L + i := (nI_leI (a := tt_en 2 0 p1 0 L) (b := tt_st 2 0 p1 0 L + i) (by omega) (by omega)).mp hb26
        exact absurd hb26 (by omega)
      · have hb26 : ¬ tt_en 2 0 p1 0 L ≤ tt_st 2 0 p1 0 L + i := fun hz9 => hb26 ((nI_leI (a := tt_en 2 0 p1 0 L) (b := tt_st 2 0 p1 0 L + i) (by omega) (by omega)).mpr hz9)
        refine lv_iload_n hx hb dX3_chains_29 rfl (lv_at hl 2 rfl) ?_
        refine lv_aload_n hx hb dX3_chains_30 rfl (lv_at hl 3 rfl) ?_
        refine lv_iconst (v := 3) hx hb dX3_chains_31 (by decide) ?_
        refine lv_aload_n hx hb dX3_chains_32 rfl (lv_at hl 3 rfl) ?_
        refine va_get (D := D) (ci := 3) (v := .ref (ad 1)) (C := RX3) (T := TX3) (N := 4) hx hb hts hinX3 hown hK hP 0 (tt_bg (by omega) hR.1) rfl 0 (by decide) hf11 (fun _ h9 => h9) rfl dX3_chains_33 ?_
        refine lv_iconst (v := 1) hx hb dX3_chains_36 (by decide) ?_
        refine va_aldq hx hb hK hP 1 2 (tt_bg (by omega) hR.2.1) rfl (vp_in_nI (n := 1) (by omega) (by omega)) dX3_chains_37 ?_
        refine tt_rer (show va_rf (some (ad (7 + (nI 1).toNatClampNeg))) = .ref (ad (7 + 1)) from by rw [nI_clamp (by omega)]; rfl) ?_
        refine lv_iload hx hb dX3_chains_38 (lv_at hl 0 rfl) ?_
        refine lv_iconst (v := 2) hx hb dX3_chains_40 (by decide) ?_
        have hPc := tt_pick2 hP (tt_bg (n := 21) (k := 7 + 1) (by omega) ho) (tt_bg (n := 21) (k := 10 + 1) (by omega) hp)
        refine tt_calli (va_runV (As := [.int (nI (tt_st 2 0 p1 0 L + i)), .int 2]) (rest := [.int 3, .ref (ad 0), .int (nI (tt_sm (fun j => tt_mn 3 (tt_pp 2 (tt_gt (L 1) j)) q1 0 L) (tt_st 2 0 p1 0 L) i))]) hfix (c_X1_partAt l D cI cZ cO cC (ad (7 + 1)) (ad (10 + 1)) 1 (L 1).length f (nI (tt_st 2 0 p1 0 L + i)) 2 (by omega) hl1) (cwV 2 hts gX3_chains_X1_partAt rfl rfl rfl (by decide +kernel) ⟨Nat.le_of_ble_eq_true rfl, Nat.le_of_ble_eq_true rfl⟩) (tt_preV (q0 := 0) (ci := 1) hK hPc tt_E.no rfl rfl) rfl rfl hl.1 rfl (lv_room (Nat.le_of_ble_eq_true rfl)) dX3_chains_41 ⟨Nat.zero_le _, Nat.zero_le _⟩) hP hS (fun H locs hP hS => ?_)
        refine tt_rei (show (tt_pa (L 1).length 1 f (nI (tt_st 2 0 p1 0 L + i)) 2) = tt_pp 2 (tt_gt (L 1) (tt_st 2 0 p1 0 L + i)) from tt_pa_pp (t := 2) hf (by omega) hl1 (by omega) (by omega)) ?_
        refine lv_iload_n hx hb dX3_chains_44 rfl (lv_at hl 5 rfl) ?_
        refine lv_iconst (v := 0) hx hb dX3_chains_45 (by decide) ?_
        have hPc := hP
        refine tt_calli (va_runV (As := [.int 3, .int (tt_pp 2 (tt_gt (L 1) (tt_st 2 0 p1 0 L + i))), .int q1, .int 0]) (rest := [.int (nI (tt_sm (fun j => tt_mn 3 (tt_pp 2 (tt_gt (L 1) j)) q1 0 L) (tt_st 2 0 p1 0 L) i))]) hfix (c_X3_matching l D cI cZ cO cC ad cx L ch C hR 3 (tt_pp 2 (tt_gt (L 1) (tt_st 2 0 p1 0 L + i))) q1 0 (by omega) hI) (cwV 4 hts gX3_chains_X3_matching rfl rfl rfl (by decide +kernel) ⟨Nat.le_of_ble_eq_true rfl, Nat.le_of_ble_eq_true rfl⟩) (tt_preV (q0 := 0) (ci := 3) hK hPc ((hE.at hS).narrow (fun _ h => h.elim)) (tt_bg (by omega) hR.1) rfl) rfl rfl hl.1 rfl (lv_room (Nat.le_of_ble_eq_true rfl)) dX3_chains_46 ⟨Nat.zero_le _, Nat.zero_le _⟩) hP hS (fun H locs hP hS => ?_)
        refine lv_iadd hx hb dX3_chains_49 ?_
        refine tt_rei (show ((nI (tt_sm (fun j => tt_mn 3 (tt_pp 2 (tt_gt (L 1) j)) q1 0 L) (tt_st 2 0 p1 0 L) i)) + (nI (tt_mn 3 (tt_pp 2 (tt_gt (L 1) (tt_st 2 0 p1 0 L + i))) q1 0 L))) = nI (tt_sm (fun j => tt_mn 3 (tt_pp 2 (tt_gt (L 1) j)) q1 0 L) (tt_st 2 0 p1 0 L) i + (tt_mn 3 (tt_pp 2 (tt_gt (L 1) (tt_st 2 0 p1 0 L + i))) q1 0 L)) from nI_add (tt_sm (fun j => tt_mn 3 (tt_pp 2 (tt_gt (L 1) j)) q1 0 L) (tt_st 2 0 p1 0 L) i) (tt_mn 3 (tt_pp 2 (tt_gt (L 1) (tt_st 2 0 p1 0 L + i))) q1 0 L)) ?_
        refine lv_istore_n (lv' := [(3, .int (nI (tt_sm (fun j => tt_mn 3 (tt_pp 2 (tt_gt (L 1) j)) q1 0 L) (tt_st 2 0 p1 0 L) i + (tt_mn 3 (tt_pp 2 (tt_gt (L 1) (tt_st 2 0 p1 0 L + i))) q1 0 L)))), (5, .int (nI (tt_st 2 0 p1 0 L + i))), (4, .int (nI (tt_en 2 0 p1 0 L))), (0, .ref (ad 0)), (1, .int p1), (2, .int q1)]) hx hb dX3_chains_50 rfl hl (by decide) rfl (fun ls hl => ?_)
        refine lv_iinc (v := nI (tt_st 2 0 p1 0 L + i + 1)) (lv' := [(5, .int (nI (tt_st 2 0 p1 0 L + i + 1))), (3, .int (nI (tt_sm (fun j => tt_mn 3 (tt_pp 2 (tt_gt (L 1) j)) q1 0 L) (tt_st 2 0 p1 0 L) i + (tt_mn 3 (tt_pp 2 (tt_gt (L 1) (tt_st 2 0 p1 0 L + i))) q1 0 L)))), (4, .int (nI (tt_en 2 0 p1 0 L))), (0, .ref (ad 0)), (1, .int p1), (2, .int q1)]) hx hb dX3_chains_51 hl (k := 1) rfl (nI_add (tt_st 2 0 p1 0 L + i) 1) (by decide) rfl (fun ls hl => ?_)
        refine lv_goto (tgt := 22) hx hb dX3_chains_54 (by decide) ?_
        exact ih (i + 1) (by omega) H locs ls hP hS (lv_sub hl [0, 2, 1, 3, 4, 5] rfl)
  refine lv_iconst (v := 0) hx hb dX3_chains_0 (by decide) ?_
  refine lv_istore_n (lv' := [(3, .int 0), (0, .ref (ad 0)), (1, .int p1), (2, .int q1)]) hx hb dX3_chains_1 rfl hl (by decide) rfl (fun ls hl => ?_)
  refine lv_aload_n hx hb dX3_chains_2 rfl (lv_at hl 1 rfl) ?_
  refine lv_iconst (v := 2) hx hb dX3_chains_3 (by decide) ?_
  refine lv_iconst (v := 0) hx hb dX3_chains_4 (by decide) ?_
  refine lv_iload_n hx hb dX3_chains_5 rfl (lv_at hl 2 rfl) ?_
  refine lv_iconst (v := 0) hx hb dX3_chains_6 (by decide) ?_
  have hPc := hP
  refine tt_calli (va_runV (As := [.int 2, .int 0, .int p1, .int 0]) (rest := []) hfix (c_X3_endOf l D cI cZ cO cC ad cx L ch C hR 2 0 p1 0 (by omega) hI) (cwV 4 hts gX3_chains_X3_endOf rfl rfl rfl (by decide +kernel) ⟨Nat.le_of_ble_eq_true rfl, Nat.le_of_ble_eq_true rfl⟩) (tt_preV (q0 := 0) (ci := 3) hK hPc ((hE.at hS).narrow (fun _ h => h.elim)) (tt_bg (by omega) hR.1) rfl) rfl rfl hl.1 rfl (lv_room (Nat.le_of_ble_eq_true rfl)) dX3_chains_7 ⟨Nat.zero_le _, Nat.zero_le _⟩) hP hS (fun H locs hP hS => ?_)
  refine lv_istore (lv' := [(4, .int (nI (tt_en 2 0 p1 0 L))), (3, .int 0), (0, .ref (ad 0)), (1, .int p1), (2, .int q1)]) hx hb dX3_chains_10 hl (by decide) rfl (fun ls hl => ?_)
  refine lv_aload_n hx hb dX3_chains_12 rfl (lv_at hl 2 rfl) ?_
  refine lv_iconst (v := 2) hx hb dX3_chains_13 (by decide) ?_
  refine lv_iconst (v := 0) hx hb dX3_chains_14 (by decide) ?_
  refine lv_iload_n hx hb dX3_chains_15 rfl (lv_at hl 3 rfl) ?_
  refine lv_iconst (v := 0) hx hb dX3_chains_16 (by decide) ?_
  have hPc := hP
  refine tt_calli (va_runV (As := [.int 2, .int 0, .int p1, .int 0]) (rest := []) hfix (c_X3_startOf l D cI cZ cO cC ad cx L ch C hR 2 0 p1 0 (by omega) hI) (cwV 4 hts gX3_chains_X3_startOf rfl rfl rfl (by decide +kernel) ⟨Nat.le_of_ble_eq_true rfl, Nat.le_of_ble_eq_true rfl⟩) (tt_preV (q0 := 0) (ci := 3) hK hPc ((hE.at hS).narrow (fun _ h => h.elim)) (tt_bg (by omega) hR.1) rfl) rfl rfl hl.1 rfl (lv_room (Nat.le_of_ble_eq_true rfl)) dX3_chains_17 ⟨Nat.zero_le _, Nat.zero_le _⟩) hP hS (fun H locs hP hS => ?_)
  refine lv_istore (lv' := [(5, .int (nI (tt_st 2 0 p1 0 L))), (4, .int (nI (tt_en 2 0 p1 0 L))), (3, .int 0), (0, .ref (ad 0)), (1, .int p1), (2, .int q1)]) hx hb dX3_chains_20 hl (by decide) rfl (fun ls hl => ?_)
  exact loop (tt_en 2 0 p1 0 L - tt_st 2 0 p1 0 L) 0 (by omega) _ _ ls hP hS (lv_sub hl [0, 1, 2, 3, 4, 5] rfl)
set_option maxHeartbeats 4000000 in
set_option maxRecDepth 100000 in
theorem c_X3_part (l : Launch) (D : va_G) (cI cZ cO cC : ClassId) (ad : Nat → Nat) (cx : Nat → va_E) (L : Nat → List tt_T3) (ch : Nat) (C : Nat → tt_CU) (hR : tt_R cI cZ cO cC ad cx L ch C) (c1 x2 : Int32) (hI : tt_I L) (hCI : tt_CI C ch) (hch : ch < 2 ^ 30) : tt_Pure l yX3_part wsX3_part ({ frames := 1, cells := 0, slots := 0, locals := 22 } : Room) D (tt_tys cI cZ cO cC) true (tt_blk 21 ad cx) [.ref (ad 0), .int c1, .int x2] (if tt_op C c1 then (fun j => tt_prj (C j) ch L x2) c1.toNatClampNeg else 0) := by
  refine tt_pure (cc := cX3_part) (maxL := 4) (rt := .int) (by decide) rfl (rfl) (Nat.le_of_ble_eq_true rfl) ?_
  intro p e s m below meth c Q ls hfix hK hP hE hl kr
  obtain ⟨hx, hb, hml, hown, hts⟩ := id hfix
  have hown : s.vm.findClass RX3 = some m.cls := hown
  have hfix : CallFix p m c cX3_part 4 s ([.ref (ad 0), .int c1, .int x2] : List Value).toArray wsX3_part RX3 := hfix
  have hl : lv_has ls 4 [(0, .ref (ad 0)), (1, .int c1), (2, .int x2)] := hl
  have hf20 := hts (.fieldLink RX3 20 "TripleTrees" "cursors" "[LTripleTrees$Cursor;") (by decide +kernel)
  have hN92 : (Cond.fieldLinkNest RX3 92 "TripleTrees$Cursor" "hasCurrent" "Z" "TripleTrees").before ([.ref (ad 0), .int c1, .int x2] : List Value).toArray s = true := va_Nw.use rfl ((hE rfl).2.1 _ (by decide +kernel))
  have hf11 := hts (.fieldLink RX3 11 "TripleTrees" "orders" "[LTripleTrees$Order;") (by decide +kernel)
  have hN82 : (Cond.fieldLinkNest RX3 82 "TripleTrees$Cursor" "order" "I" "TripleTrees").before ([.ref (ad 0), .int c1, .int x2] : List Value).toArray s = true := va_Nw.use rfl ((hE rfl).2.1 _ (by decide +kernel))
  have hN95 : (Cond.fieldLinkNest RX3 95 "TripleTrees$Cursor" "following" "I" "TripleTrees").before ([.ref (ad 0), .int c1, .int x2] : List Value).toArray s = true := va_Nw.use rfl ((hE rfl).2.1 _ (by decide +kernel))
  have hinX0 : ∀ w ∈ u_ws RX0 TX0 6, w ∈ wsX3_part := by decide +kernel
  have hinX3 : ∀ w ∈ u_ws RX3 TX3 4, w ∈ wsX3_part := by decide +kernel
  have hS : va_S (fun _ => False) s.heap s.heap [] := va_S.rf
  refine lv_aload_n hx hb dX3_part_0 rfl (lv_at hl 0 rfl) ?_
  refine lv_iload_n hx hb dX3_part_1 rfl (lv_at hl 1 rfl) ?_
  have hPc := hP
  refine tt_calli (va_runV (As := [.int c1]) (rest := []) hfix (c_X3_isOpenCursor l D cI cZ cO cC ad cx L ch C hR c1) (cwV 1 hts gX3_part_X3_isOpenCursor rfl rfl rfl (by decide +kernel) ⟨Nat.le_of_ble_eq_true rfl, Nat.le_of_ble_eq_true rfl⟩) (tt_preV (q0 := 0) (ci := 3) hK hPc ((hE.at hS).narrow (fun _ h => h.elim)) (tt_bg (by omega) hR.1) rfl) rfl rfl hl.1 rfl (lv_room (Nat.le_of_ble_eq_true rfl)) dX3_part_2 ⟨Nat.zero_le _, Nat.zero_le _⟩) hP hS (fun H locs hP hS => ?_)
  refine lv_if_eq (tgt := 28) hx hb dX3_part_5 (by decide) (fun hb5 => ?_) (fun hb5 => ?_)
  · refine lv_iconst (v := 0) hx hb dX3_part_28 (by decide) ?_
    refine tt_rei (show (0 : Int32) = if tt_op C c1 then (fun j => tt_prj (C j) ch L x2) c1.toNatClampNeg else 0 from (if_neg (tt_if0 hb5)).symm) ?_
    exact kr _ _ _ _ hS dX3_part_29
  · obtain ⟨j, hj, e1⟩ : ∃ j : Nat, j < 8 ∧ c1 = nI j := tt_ix (n := 8) (by omega) (tt_if1 hb5).1 (tt_if1 hb5).2.1
    have hop := tt_if1 hb5
    subst e1
    obtain ⟨hq1, hq2, hq3, hq4, hq5⟩ := hCI j hj
    refine lv_aload_n hx hb dX3_part_8 rfl (lv_at hl 0 rfl) ?_
    refine lv_iload_n hx hb dX3_part_9 rfl (lv_at hl 1 rfl) ?_
    have hPc := hP
    refine tt_calli (va_runV (As := [.int (nI j)]) (rest := []) hfix (c_X3_isStale l D cI cZ cO cC ad cx L ch C hR j hj (by omega) (by omega)) (cwV 1 hts gX3_part_X3_isStale rfl rfl rfl (by decide +kernel) ⟨Nat.le_of_ble_eq_true rfl, Nat.le_of_ble_eq_true rfl⟩) (tt_preV (q0 := 0) (ci := 3) hK hPc ((hE.at hS).narrow (fun _ h => h.elim)) (tt_bg (by omega) hR.1) rfl) rfl rfl hl.1 rfl (lv_room (Nat.le_of_ble_eq_true rfl)) dX3_part_10 ⟨Nat.zero_le _, Nat.zero_le _⟩) hP hS (fun H locs hP hS => ?_)
    refine lv_if_ne (tgt := 28) hx hb dX3_part_13 (by decide) (fun hb13 => ?_) (fun hb13 => ?_)
    · refine lv_iconst (v := 0) hx hb dX3_part_28 (by decide) ?_
      refine tt_rei (show (0 : Int32) = if tt_op C (nI j) then (fun j => tt_prj (C j) ch L x2) (nI j).toNatClampNeg else 0 from ((tt_op_if hj (fun j => tt_prj (C j) ch L x2) 0 ((tt_op_in hj).mp hop)).trans (tt_prj_out (by first | exact Or.inl (tt_if1 hb13) | exact Or.inr (tt_b0 hb25)))).symm) ?_
      exact kr _ _ _ _ hS dX3_part_29
    · refine lv_aload_n hx hb dX3_part_16 rfl (lv_at hl 0 rfl) ?_
      refine va_get (D := D) (ci := 3) (v := .ref (ad 2)) (C := RX3) (T := TX3) (N := 4) hx hb hts hinX3 hown hK hP 0 (tt_bg (by omega) hR.1) rfl 1 (by decide) hf20 (fun _ h9 => h9) rfl dX3_part_17 ?_
      refine lv_iload_n hx hb dX3_part_20 rfl (lv_at hl 1 rfl) ?_
      refine va_aldq hx hb hK hP 2 3 (tt_bg (by omega) hR.2.2.1) rfl (vp_in_nI (n := j) (by omega) (by omega)) dX3_part_21 ?_
      refine tt_rer (show va_rf (some (ad (13 + (nI j).toNatClampNeg))) = .ref (ad (13 + j)) from by rw [nI_clamp (by omega)]; rfl) ?_
      refine va_getN (host := "TripleTrees") (D := D) (ci := 0) (v := .int (tt_b (C j).2.1)) (C := RX0) (T := TX0) (N := 6) hx hb hts hinX0 hown hK hP (13 + j) (tt_bg (by omega) (hR.2.2.2.2.2 j hj)) rfl 1 (by decide) hN92 (fun _ h9 => h9) rfl dX3_part_22 ?_
      refine lv_if_ne (tgt := 30) hx hb dX3_part_25 (by decide) (fun hb25 => ?_) (fun hb25 => ?_)
      · have hcur := tt_b1 hb25
        have hfo := hq5 hcur
        obtain ⟨f, ho, hp, hf⟩ := hR.2.2.2.2.1 ((C j).2.2.1) hq1
        refine lv_aload_n hx hb dX3_part_30 rfl (lv_at hl 0 rfl) ?_
        refine va_get (D := D) (ci := 3) (v := .ref (ad 2)) (C := RX3) (T := TX3) (N := 4) hx hb hts hinX3 hown hK hP 0 (tt_bg (by omega) hR.1) rfl 1 (by decide) hf20 (fun _ h9 => h9) rfl dX3_part_31 ?_
        refine lv_iload_n hx hb dX3_part_34 rfl (lv_at hl 1 rfl) ?_
        refine va_aldq hx hb hK hP 2 3 (tt_bg (by omega) hR.2.2.1) rfl (vp_in_nI (n := j) (by omega) (by omega)) dX3_part_35 ?_
        refine tt_rer (show va_rf (some (ad (13 + (nI j).toNatClampNeg))) = .ref (ad (13 + j)) from by rw [nI_clamp (by omega)]; rfl) ?_
        refine lv_astore_n (lv' := [(3, .ref (ad (13 + j))), (0, .ref (ad 0)), (1, .int (nI j)), (2, .int x2)]) hx hb dX3_part_36 rfl hl (by decide) rfl (fun ls hl => ?_)
        refine lv_aload_n hx hb dX3_part_37 rfl (lv_at hl 1 rfl) ?_
        refine va_get (D := D) (ci := 3) (v := .ref (ad 1)) (C := RX3) (T := TX3) (N := 4) hx hb hts hinX3 hown hK hP 0 (tt_bg (by omega) hR.1) rfl 0 (by decide) hf11 (fun _ h9 => h9) rfl dX3_part_38 ?_
        refine lv_aload_n hx hb dX3_part_41 rfl (lv_at hl 0 rfl) ?_
        refine va_getN (host := "TripleTrees") (D := D) (ci := 0) (v := .int (nI ((C j).2.2.1))) (C := RX0) (T := TX0) (N := 6) hx hb hts hinX0 hown hK hP (13 + j) (tt_bg (by omega) (hR.2.2.2.2.2 j hj)) rfl 2 (by decide) hN82 (fun _ h9 => h9) rfl dX3_part_42 ?_
        refine va_aldq hx hb hK hP 1 2 (tt_bg (by omega) hR.2.1) rfl (vp_in_nI (n := (C j).2.2.1) (by omega) (by omega)) dX3_part_45 ?_
        refine tt_rer (show va_rf (some (ad (7 + (nI ((C j).2.2.1)).toNatClampNeg))) = .ref (ad (7 + ((C j).2.2.1))) from by rw [nI_clamp (by omega)]; rfl) ?_
        refine lv_aload_n hx hb dX3_part_46 rfl (lv_at hl 0 rfl) ?_
        refine va_getN (host := "TripleTrees") (D := D) (ci := 0) (v := .int (nI ((C j).2.2.2.2.1))) (C := RX0) (T := TX0) (N := 6) hx hb hts hinX0 hown hK hP (13 + j) (tt_bg (by omega) (hR.2.2.2.2.2 j hj)) rfl 4 (by decide) hN95 (fun _ h9 => h9) rfl dX3_part_47 ?_
        refine lv_iconst (v := 1) hx hb dX3_part_50 (by decide) ?_
        refine lv_isub hx hb dX3_part_51 ?_
        refine tt_rei (show ((nI ((C j).2.2.2.2.1)) - 1) = nI ((C j).2.2.2.2.1 - 1) from pk_sub (a := (C j).2.2.2.2.1) (b := 1) (by omega)) ?_
        refine lv_iload_n hx hb dX3_part_52 rfl (lv_at hl 3 rfl) ?_
        have hPc := tt_pick2 hP (tt_bg (n := 21) (k := 7 + ((C j).2.2.1)) (by omega) ho) (tt_bg (n := 21) (k := 10 + ((C j).2.2.1)) (by omega) hp)
        refine tt_calli (va_runV (As := [.int (nI ((C j).2.2.2.2.1 - 1)), .int x2]) (rest := []) hfix (c_X1_partAt l D cI cZ cO cC (ad (7 + ((C j).2.2.1))) (ad (10 + ((C j).2.2.1))) ((C j).2.2.1) (L ((C j).2.2.1)).length f (nI ((C j).2.2.2.2.1 - 1)) x2 hq1 (hI _ hq1).2.2) (cwV 2 hts gX3_part_X1_partAt rfl rfl rfl (by decide +kernel) ⟨Nat.le_of_ble_eq_true rfl, Nat.le_of_ble_eq_true rfl⟩) (tt_preV (q0 := 0) (ci := 1) hK hPc tt_E.no rfl rfl) rfl rfl hl.1 rfl (lv_room (Nat.le_of_ble_eq_true rfl)) dX3_part_53 ⟨Nat.zero_le _, Nat.zero_le _⟩) hP hS (fun H locs hP hS => ?_)
        refine tt_rei (show (tt_pa (L (C j).2.2.1).length (C j).2.2.1 f (nI ((C j).2.2.2.2.1 - 1)) x2) = tt_at (L (C j).2.2.1) (nI ((C j).2.2.2.2.1 - 1)) x2 from tt_pa_at hf hq1 (hI _ hq1).2.2 _ x2) ?_
        refine tt_rei (show tt_at (L (C j).2.2.1) (nI ((C j).2.2.2.2.1 - 1)) x2 = if tt_op C (nI j) then (fun j => tt_prj (C j) ch L x2) (nI j).toNatClampNeg else 0 from ((tt_op_if hj (fun j => tt_prj (C j) ch L x2) 0 ((tt_op_in hj).mp hop)).trans (tt_prj_in (Decidable.not_not.mp (tt_if0 hb13)) hcur)).symm) ?_
        exact kr _ _ _ _ hS dX3_part_56
      · refine lv_iconst (v := 0) hx hb dX3_part_28 (by decide) ?_
        refine tt_rei (show (0 : Int32) = if tt_op C (nI j) then (fun j => tt_prj (C j) ch L x2) (nI j).toNatClampNeg else 0 from ((tt_op_if hj (fun j => tt_prj (C j) ch L x2) 0 ((tt_op_in hj).mp hop)).trans (tt_prj_out (by first | exact Or.inl (tt_if1 hb13) | exact Or.inr (tt_b0 hb25)))).symm) ?_
        exact kr _ _ _ _ hS dX3_part_29

/-! own words: what the cells of a TripleTreesModel hold -/
/-- a cursor of the reference: open, stale, mask, s, p, o, place + 1 -/
abbrev tt_KU : Type := Bool × Bool × Nat × Int32 × Int32 × Int32 × Nat
def tt_kp (K : Nat → tt_KU) (i : Nat) : Int32 := tt_pt (i % 3) (K (i / 3)).2.2.2.1 (K (i / 3)).2.2.2.2.1 (K (i / 3)).2.2.2.2.2.1
def tt_RQ (k : Nat) (f : Nat → Int32) (l : List tt_T3) : Prop := ∀ j, j < l.length → ∀ i, i < 3 → f (2101 * k + 3 * j + i) = tt_pp i (tt_gt l j)
def tt_C9 (cx : Nat → va_E) (E0 E1 E2 E3 E4 E5 E6 E7 E8 : va_E) : Prop := cx 0 = E0 ∧ cx 1 = E1 ∧ cx 2 = E2 ∧ cx 3 = E3 ∧ cx 4 = E4 ∧ cx 5 = E5 ∧ cx 6 = E6 ∧ cx 7 = E7 ∧ cx 8 = E8
theorem tt_C9.set0 {cx : Nat → va_E} {E0 E1 E2 E3 E4 E5 E6 E7 E8 E : va_E} (h : tt_C9 cx E0 E1 E2 E3 E4 E5 E6 E7 E8) : tt_C9 (va_up cx 0 E) E E1 E2 E3 E4 E5 E6 E7 E8 := by
  obtain ⟨h0, h1, h2, h3, h4, h5, h6, h7, h8⟩ := h
  exact ⟨va_up_self _ _ _, (va_up_ne _ _ (by omega)).trans h1, (va_up_ne _ _ (by omega)).trans h2, (va_up_ne _ _ (by omega)).trans h3, (va_up_ne _ _ (by omega)).trans h4, (va_up_ne _ _ (by omega)).trans h5, (va_up_ne _ _ (by omega)).trans h6, (va_up_ne _ _ (by omega)).trans h7, (va_up_ne _ _ (by omega)).trans h8⟩
theorem tt_C9.set1 {cx : Nat → va_E} {E0 E1 E2 E3 E4 E5 E6 E7 E8 E : va_E} (h : tt_C9 cx E0 E1 E2 E3 E4 E5 E6 E7 E8) : tt_C9 (va_up cx 1 E) E0 E E2 E3 E4 E5 E6 E7 E8 := by
  obtain ⟨h0, h1, h2, h3, h4, h5, h6, h7, h8⟩ := h
  exact ⟨(va_up_ne _ _ (by omega)).trans h0, va_up_self _ _ _, (va_up_ne _ _ (by omega)).trans h2, (va_up_ne _ _ (by omega)).trans h3, (va_up_ne _ _ (by omega)).trans h4, (va_up_ne _ _ (by omega)).trans h5, (va_up_ne _ _ (by omega)).trans h6, (va_up_ne _ _ (by omega)).trans h7, (va_up_ne _ _ (by omega)).trans h8⟩
theorem tt_C9.set2 {cx : Nat → va_E} {E0 E1 E2 E3 E4 E5 E6 E7 E8 E : va_E} (h : tt_C9 cx E0 E1 E2 E3 E4 E5 E6 E7 E8) : tt_C9 (va_up cx 2 E) E0 E1 E E3 E4 E5 E6 E7 E8 := by
  obtain ⟨h0, h1, h2, h3, h4, h5, h6, h7, h8⟩ := h
  exact ⟨(va_up_ne _ _ (by omega)).trans h0, (va_up_ne _ _ (by omega)).trans h1, va_up_self _ _ _, (va_up_ne _ _ (by omega)).trans h3, (va_up_ne _ _ (by omega)).trans h4, (va_up_ne _ _ (by omega)).trans h5, (va_up_ne _ _ (by omega)).trans h6, (va_up_ne _ _ (by omega)).trans h7, (va_up_ne _ _ (by omega)).trans h8⟩
theorem tt_C9.set3 {cx : Nat → va_E} {E0 E1 E2 E3 E4 E5 E6 E7 E8 E : va_E} (h : tt_C9 cx E0 E1 E2 E3 E4 E5 E6 E7 E8) : tt_C9 (va_up cx 3 E) E0 E1 E2 E E4 E5 E6 E7 E8 := by
  obtain ⟨h0, h1, h2, h3, h4, h5, h6, h7, h8⟩ := h
  exact ⟨(va_up_ne _ _ (by omega)).trans h0, (va_up_ne _ _ (by omega)).trans h1, (va_up_ne _ _ (by omega)).trans h2, va_up_self _ _ _, (va_up_ne _ _ (by omega)).trans h4, (va_up_ne _ _ (by omega)).trans h5, (va_up_ne _ _ (by omega)).trans h6, (va_up_ne _ _ (by omega)).trans h7, (va_up_ne _ _ (by omega)).trans h8⟩
theorem tt_C9.set4 {cx : Nat → va_E} {E0 E1 E2 E3 E4 E5 E6 E7 E8 E : va_E} (h : tt_C9 cx E0 E1 E2 E3 E4 E5 E6 E7 E8) : tt_C9 (va_up cx 4 E) E0 E1 E2 E3 E E5 E6 E7 E8 := by
  obtain ⟨h0, h1, h2, h3, h4, h5, h6, h7, h8⟩ := h
  exact ⟨(va_up_ne _ _ (by omega)).trans h0, (va_up_ne _ _ (by omega)).trans h1, (va_up_ne _ _ (by omega)).trans h2, (va_up_ne _ _ (by omega)).trans h3, va_up_self _ _ _, (va_up_ne _ _ (by omega)).trans h5, (va_up_ne _ _ (by omega)).trans h6, (va_up_ne _ _ (by omega)).trans h7, (va_up_ne _ _ (by omega)).trans h8⟩
theorem tt_C9.set5 {cx : Nat → va_E} {E0 E1 E2 E3 E4 E5 E6 E7 E8 E : va_E} (h : tt_C9 cx E0 E1 E2 E3 E4 E5 E6 E7 E8) : tt_C9 (va_up cx 5 E) E0 E1 E2 E3 E4 E E6 E7 E8 := by
  obtain ⟨h0, h1, h2, h3, h4, h5, h6, h7, h8⟩ := h
  exact ⟨(va_up_ne _ _ (by omega)).trans h0, (va_up_ne _ _ (by omega)).trans h1, (va_up_ne _ _ (by omega)).trans h2, (va_up_ne _ _ (by omega)).trans h3, (va_up_ne _ _ (by omega)).trans h4, va_up_self _ _ _, (va_up_ne _ _ (by omega)).trans h6, (va_up_ne _ _ (by omega)).trans h7, (va_up_ne _ _ (by omega)).trans h8⟩
theorem tt_C9.set6 {cx : Nat → va_E} {E0 E1 E2 E3 E4 E5 E6 E7 E8 E : va_E} (h : tt_C9 cx E0 E1 E2 E3 E4 E5 E6 E7 E8) : tt_C9 (va_up cx 6 E) E0 E1 E2 E3 E4 E5 E E7 E8 := by
  obtain ⟨h0, h1, h2, h3, h4, h5, h6, h7, h8⟩ := h
  exact ⟨(va_up_ne _ _ (by omega)).trans h0, (va_up_ne _ _ (by omega)).trans h1, (va_up_ne _ _ (by omega)).trans h2, (va_up_ne _ _ (by omega)).trans h3, (va_up_ne _ _ (by omega)).trans h4, (va_up_ne _ _ (by omega)).trans h5, va_up_self _ _ _, (va_up_ne _ _ (by omega)).trans h7, (va_up_ne _ _ (by omega)).trans h8⟩
theorem tt_C9.set7 {cx : Nat → va_E} {E0 E1 E2 E3 E4 E5 E6 E7 E8 E : va_E} (h : tt_C9 cx E0 E1 E2 E3 E4 E5 E6 E7 E8) : tt_C9 (va_up cx 7 E) E0 E1 E2 E3 E4 E5 E6 E E8 := by
  obtain ⟨h0, h1, h2, h3, h4, h5, h6, h7, h8⟩ := h
  exact ⟨(va_up_ne _ _ (by omega)).trans h0, (va_up_ne _ _ (by omega)).trans h1, (va_up_ne _ _ (by omega)).trans h2, (va_up_ne _ _ (by omega)).trans h3, (va_up_ne _ _ (by omega)).trans h4, (va_up_ne _ _ (by omega)).trans h5, (va_up_ne _ _ (by omega)).trans h6, va_up_self _ _ _, (va_up_ne _ _ (by omega)).trans h8⟩
theorem tt_C9.set8 {cx : Nat → va_E} {E0 E1 E2 E3 E4 E5 E6 E7 E8 E : va_E} (h : tt_C9 cx E0 E1 E2 E3 E4 E5 E6 E7 E8) : tt_C9 (va_up cx 8 E) E0 E1 E2 E3 E4 E5 E6 E7 E := by
  obtain ⟨h0, h1, h2, h3, h4, h5, h6, h7, h8⟩ := h
  exact ⟨(va_up_ne _ _ (by omega)).trans h0, (va_up_ne _ _ (by omega)).trans h1, (va_up_ne _ _ (by omega)).trans h2, (va_up_ne _ _ (by omega)).trans h3, (va_up_ne _ _ (by omega)).trans h4, (va_up_ne _ _ (by omega)).trans h5, (va_up_ne _ _ (by omega)).trans h6, (va_up_ne _ _ (by omega)).trans h7, va_up_self _ _ _⟩
def tt_Q (cI cZ : ClassId) (ad : Nat → Nat) (cx : Nat → va_E) (n : Nat) (L : Nat → List tt_T3) (ch : Nat) (K : Nat → tt_KU) : Prop := ∃ (mt : Int32) (f me ms : Nat → Int32), tt_C9 cx (.inr (4, [.ref (ad 1), .int (nI n), .int (nI ch), .ref (ad 2), .ref (ad 3), .ref (ad 4), .ref (ad 5), .ref (ad 6), .ref (ad 7), .ref (ad 8), .int mt])) (.inl (cI, 6303, .inl f)) (.inl (cZ, 8, .inl (fun j => tt_b (K j).1))) (.inl (cZ, 8, .inl (fun j => tt_b (K j).2.1))) (.inl (cI, 8, .inl (fun j => nI (K j).2.2.1))) (.inl (cI, 24, .inl (tt_kp K))) (.inl (cI, 8, .inl (fun j => nI (K j).2.2.2.2.2.2 - 1))) (.inl (cI, 1402, .inl me)) (.inl (cI, 1402, .inl ms)) ∧ ∀ k, k < 3 → tt_RQ k f (L k)
theorem tt_o_val : ∀ mk, mk < 8 → tt_o mk = if mk = 2 ∨ mk = 6 then 1 else if mk = 4 ∨ mk = 5 then 2 else 0 := by decide
theorem tt_78 (x : Int32) : (7 : Int32) < x ↔ 8 ≤ x := by
  rw [Int32.lt_iff_toInt_lt, tt_i_le]
  have e7 : (7 : Int32).toInt = 7 := by decide
  have e8 : (8 : Int32).toInt = 8 := by decide
  omega
theorem tt_23 (x : Int32) : (2 : Int32) < x ↔ 3 ≤ x := by
  rw [Int32.lt_iff_toInt_lt, tt_i_le]
  have e7 : (2 : Int32).toInt = 2 := by decide
  have e8 : (3 : Int32).toInt = 3 := by decide
  omega
section
variable {k : Nat} {t : tt_T3} {s p o : Int32}
theorem tt_cu_def : tt_cu k 3 t (s, p, o) = if ¬ tt_pp ((k + 0) % 3) t = tt_pt ((k + 0) % 3) s p o then (if tt_pt ((k + 0) % 3) s p o ≤ tt_pp ((k + 0) % 3) t then 1 else -1) else if ¬ tt_pp ((k + 1) % 3) t = tt_pt ((k + 1) % 3) s p o then (if tt_pt ((k + 1) % 3) s p o ≤ tt_pp ((k + 1) % 3) t then 1 else -1) else if ¬ tt_pp ((k + 2) % 3) t = tt_pt ((k + 2) % 3) s p o then (if tt_pt ((k + 2) % 3) s p o ≤ tt_pp ((k + 2) % 3) t then 1 else -1) else 0 := by
  have h0 : ¬ (3 : Int32) ≤ 0 := by decide
  have h1 : ¬ (3 : Int32) ≤ 1 := by decide
  have h2 : ¬ (3 : Int32) ≤ 2 := by decide
  show tt_cmp 3 _ _ _ (tt_pt ((k + 0) % 3) s p o) (tt_pt ((k + 1) % 3) s p o) (tt_pt ((k + 2) % 3) s p o) = _
  unfold tt_cmp
  simp only [h0, h1, h2, not_false_eq_true, true_and]
theorem tt_cu_eq (e0 : tt_pp ((k + 0) % 3) t = tt_pt ((k + 0) % 3) s p o) (e1 : tt_pp ((k + 1) % 3) t = tt_pt ((k + 1) % 3) s p o) (e2 : tt_pp ((k + 2) % 3) t = tt_pt ((k + 2) % 3) s p o) : (0 : Int32) = tt_cu k 3 t (s, p, o) := by
  rw [tt_cu_def, if_neg (fun h => h e0), if_neg (fun h => h e1), if_neg (fun h => h e2)]
theorem tt_cu_gt0 (h : ¬ tt_pp ((k + 0) % 3) t = tt_pt ((k + 0) % 3) s p o) (h' : tt_pt ((k + 0) % 3) s p o ≤ tt_pp ((k + 0) % 3) t) : (1 : Int32) = tt_cu k 3 t (s, p, o) := by
  rw [tt_cu_def, if_pos h, if_pos h']
theorem tt_cu_lt0 (h : ¬ tt_pp ((k + 0) % 3) t = tt_pt ((k + 0) % 3) s p o) (h' : ¬ tt_pt ((k + 0) % 3) s p o ≤ tt_pp ((k + 0) % 3) t) : (-1 : Int32) = tt_cu k 3 t (s, p, o) := by
  rw [tt_cu_def, if_pos h, if_neg h']
theorem tt_cu_gt1 (e0 : tt_pp ((k + 0) % 3) t = tt_pt ((k + 0) % 3) s p o) (h : ¬ tt_pp ((k + 1) % 3) t = tt_pt ((k + 1) % 3) s p o) (h' : tt_pt ((k + 1) % 3) s p o ≤ tt_pp ((k + 1) % 3) t) : (1 : Int32) = tt_cu k 3 t (s, p, o) := by
  rw [tt_cu_def, if_neg (fun h => h e0), if_pos h, if_pos h']
theorem tt_cu_lt1 (e0 : tt_pp ((k + 0) % 3) t = tt_pt ((k + 0) % 3) s p o) (h : ¬ tt_pp ((k + 1) % 3) t = tt_pt ((k + 1) % 3) s p o) (h' : ¬ tt_pt ((k + 1) % 3) s p o ≤ tt_pp ((k + 1) % 3) t) : (-1 : Int32) = tt_cu k 3 t (s, p, o) := by
  rw [tt_cu_def, if_neg (fun h => h e0), if_pos h, if_neg h']
theorem tt_cu_gt2 (e0 : tt_pp ((k + 0) % 3) t = tt_pt ((k + 0) % 3) s p o) (e1 : tt_pp ((k + 1) % 3) t = tt_pt ((k + 1) % 3) s p o) (h : ¬ tt_pp ((k + 2) % 3) t = tt_pt ((k + 2) % 3) s p o) (h' : tt_pt ((k + 2) % 3) s p o ≤ tt_pp ((k + 2) % 3) t) : (1 : Int32) = tt_cu k 3 t (s, p, o) := by
  rw [tt_cu_def, if_neg (fun h => h e0), if_neg (fun h => h e1), if_pos h, if_pos h']
theorem tt_cu_lt2 (e0 : tt_pp ((k + 0) % 3) t = tt_pt ((k + 0) % 3) s p o) (e1 : tt_pp ((k + 1) % 3) t = tt_pt ((k + 1) % 3) s p o) (h : ¬ tt_pp ((k + 2) % 3) t = tt_pt ((k + 2) % 3) s p o) (h' : ¬ tt_pt ((k + 2) % 3) s p o ≤ tt_pp ((k + 2) % 3) t) : (-1 : Int32) = tt_cu k 3 t (s, p, o) := by
  rw [tt_cu_def, if_neg (fun h => h e0), if_neg (fun h => h e1), if_pos h, if_neg h']
end
theorem tt_cu_self (k : Nat) (t : tt_T3) : tt_cu k 3 t t = 0 := (tt_cu_eq (k := k) (t := t) (s := t.1) (p := t.2.1) (o := t.2.2) rfl rfl rfl).symm
theorem tt_cu_0 {k : Nat} (hk : k < 3) {t u : tt_T3} (h : tt_cu k 3 t u = 0) : t = u := by
  have h1 := (tt_cmpE 3 (tt_pp ((k + 0) % 3) t) (tt_pp ((k + 1) % 3) t) (tt_pp ((k + 2) % 3) t) (tt_pp ((k + 0) % 3) u) (tt_pp ((k + 1) % 3) u) (tt_pp ((k + 2) % 3) u)).mp ⟨by rw [show tt_cmp 3 _ _ _ _ _ _ = 0 from h]; decide, by rw [show tt_cmp 3 _ _ _ _ _ _ = 0 from h]; decide⟩
  rw [tt_e3] at h1
  rcases h1 with h1 | ⟨a, h1 | ⟨b, h1 | c⟩⟩
  · omega
  · omega
  · omega
  · exact tt_pp_ext3 hk a b c
theorem tt_cu0_mem {L : Nat → List tt_T3} (hI : tt_I L) {s p o : Int32} (h1 : tt_pos 0 (s, p, o) (L 0) < (L 0).length) (h2 : tt_cu 0 3 (tt_gt (L 0) (tt_pos 0 (s, p, o) (L 0))) (s, p, o) = 0) : (s, p, o) ∈ L 0 := by
  rw [← tt_cu_0 (by omega) h2]
  exact tt_gt_mem h1
theorem tt_mem_cu0 {L : Nat → List tt_T3} (hI : tt_I L) {s p o : Int32} (h : (s, p, o) ∈ L 0) (hn : ¬ tt_pos 0 (s, p, o) (L 0) < (L 0).length ∨ ¬ tt_cu 0 3 (tt_gt (L 0) (tt_pos 0 (s, p, o) (L 0))) (s, p, o) = 0) : False := by
  obtain ⟨h1, h2⟩ := tt_pos_mem (hI 0 (by omega)).1 h
  rcases hn with hn | hn
  · exact hn h1
  · rw [h2] at hn
    exact hn (tt_cu_self 0 _)
theorem tt_and : ∀ mk, mk < 8 → (nI mk &&& 1 = 0 ↔ mk % 2 = 0) ∧ (nI mk &&& 2 = 0 ↔ mk / 2 % 2 = 0) ∧ (nI mk &&& 4 = 0 ↔ mk / 4 % 2 = 0) := by decide +kernel
theorem tt_pp0 (t : tt_T3) : tt_pp 0 t = t.1 := rfl
theorem tt_pp1 (t : tt_T3) : tt_pp 1 t = t.2.1 := rfl
theorem tt_pp2 (t : tt_T3) : tt_pp 2 t = t.2.2 := rfl
theorem tt_mt_if (mk : Nat) (s p o : Int32) (t : tt_T3) : (if tt_mt mk s p o t = true then (1 : Int32) else 0) = if (mk % 2 = 0 ∨ t.1 = s) ∧ (mk / 2 % 2 = 0 ∨ t.2.1 = p) ∧ (mk / 4 % 2 = 0 ∨ t.2.2 = o) then 1 else 0 := by
  have h : tt_mt mk s p o t = true ↔ ((mk % 2 = 0 ∨ t.1 = s) ∧ (mk / 2 % 2 = 0 ∨ t.2.1 = p) ∧ (mk / 4 % 2 = 0 ∨ t.2.2 = o)) := by
    unfold tt_mt
    simp only [Bool.and_eq_true, Bool.or_eq_true, decide_eq_true_eq, and_assoc]
  by_cases hc : tt_mt mk s p o t = true
  · rw [if_pos hc, if_pos (h.mp hc)]
  · rw [if_neg hc, if_neg (fun q => hc (h.mpr q))]
abbrev tt_ok (K : Nat → tt_KU) (c : Int32) : Prop := ¬ c < 0 ∧ ¬ 8 ≤ c ∧ (K c.toNatClampNeg).1 = true
theorem tt_ok_in {K : Nat → tt_KU} {j : Nat} (hj : j < 8) : tt_ok K (nI j) ↔ (K j).1 = true := by
  unfold tt_ok
  rw [nI_clamp (by omega)]
  exact ⟨fun h => h.2.2, fun h => ⟨nI_pos (by omega), nI_ge (b := 8) hj (by omega), h⟩⟩
set_option maxHeartbeats 4000000 in
set_option maxRecDepth 100000 in
theorem c_X4_orderOf (l : Launch) (D : va_G) (cI cZ cO cC : ClassId) (mk : Nat) (hm : mk < 8) : tt_Pure l yX4_orderOf wsX4_orderOf ({ frames := 0, cells := 0, slots := 0, locals := 0 } : Room) D (tt_tys cI cZ cO cC) false [] [.int (nI mk)] (nI (tt_o mk)) := by
  refine tt_pure (cc := cX4_orderOf) (maxL := 1) (rt := .int) (by decide) rfl (rfl) (Nat.le_of_ble_eq_true rfl) ?_
  intro p e s m below meth c Q ls hfix hK hP hE hl kr
  obtain ⟨hx, hb, hml, hown, hts⟩ := id hfix
  have hown : s.vm.findClass RX4 = some m.cls := hown
  have hfix : CallFix p m c cX4_orderOf 1 s ([.int (nI mk)] : List Value).toArray wsX4_orderOf RX4 := hfix
  have hl : lv_has ls 1 [(0, .int (nI mk))] := hl
  have hS : va_S (fun _ => False) s.heap s.heap [] := va_S.rf
  refine lv_iload_n hx hb dX4_orderOf_0 rfl (lv_at hl 0 rfl) ?_
  refine lv_iconst (v := 2) hx hb dX4_orderOf_1 (by decide) ?_
  refine lv_icmp_eq (tgt := 11) hx hb dX4_orderOf_2 (by decide) (fun hb2 => ?_) (fun hb2 => ?_)
  · have hb2 : mk = 2 := (nI_eq (a := mk) (b := 2) (by omega) (by omega)).mp hb2
    refine lv_iconst (v := 1) hx hb dX4_orderOf_11 (by decide) ?_
    refine lv_goto (tgt := 30) hx hb dX4_orderOf_12 (by decide) ?_
    refine tt_rei (show (1 : Int32) = nI (tt_o mk) from by rw [tt_o_val mk hm]; simp [hb2]; rfl) ?_
    exact kr _ _ _ _ hS dX4_orderOf_30
  · have hb2 : ¬ mk = 2 := fun hz9 => hb2 ((nI_eq (a := mk) (b := 2) (by omega) (by omega)).mpr hz9)
    refine lv_iload_n hx hb dX4_orderOf_5 rfl (lv_at hl 0 rfl) ?_
    refine lv_bipush (v := 6) hx hb dX4_orderOf_6 (by decide) ?_
    refine lv_icmp_ne (tgt := 15) hx hb dX4_orderOf_8 (by decide) (fun hb8 => ?_) (fun hb8 => ?_)
    · have hb8 : ¬ mk = 6 := fun hz9 => hb8 ((nI_eq (a := mk) (b := 6) (by omega) (by omega)).mpr hz9)
      refine lv_iload_n hx hb dX4_orderOf_15 rfl (lv_at hl 0 rfl) ?_
      refine lv_iconst (v := 4) hx hb dX4_orderOf_16 (by decide) ?_
      refine lv_icmp_eq (tgt := 25) hx hb dX4_orderOf_17 (by decide) (fun hb17 => ?_) (fun hb17 => ?_)
      · have hb17 : mk = 4 := (nI_eq (a := mk) (b := 4) (by omega) (by omega)).mp hb17
        refine lv_iconst (v := 2) hx hb dX4_orderOf_25 (by decide) ?_
        refine lv_goto (tgt := 30) hx hb dX4_orderOf_26 (by decide) ?_
        refine tt_rei (show (2 : Int32) = nI (tt_o mk) from by rw [tt_o_val mk hm]; simp [hb2, hb8, hb17]; rfl) ?_
        exact kr _ _ _ _ hS dX4_orderOf_30
      · have hb17 : ¬ mk = 4 := fun hz9 => hb17 ((nI_eq (a := mk) (b := 4) (by omega) (by omega)).mpr hz9)
        refine lv_iload_n hx hb dX4_orderOf_20 rfl (lv_at hl 0 rfl) ?_
        refine lv_iconst (v := 5) hx hb dX4_orderOf_21 (by decide) ?_
        refine lv_icmp_ne (tgt := 29) hx hb dX4_orderOf_22 (by decide) (fun hb22 => ?_) (fun hb22 => ?_)
        · have hb22 : ¬ mk = 5 := fun hz9 => hb22 ((nI_eq (a := mk) (b := 5) (by omega) (by omega)).mpr hz9)
          refine lv_iconst (v := 0) hx hb dX4_orderOf_29 (by decide) ?_
          refine tt_rei (show (0 : Int32) = nI (tt_o mk) from by rw [tt_o_val mk hm]; simp [hb2, hb8, hb17, hb22]; rfl) ?_
          exact kr _ _ _ _ hS dX4_orderOf_30
        · have hb22 : mk = 5 := (nI_eq (a := mk) (b := 5) (by omega) (by omega)).mp hb22
          refine lv_iconst (v := 2) hx hb dX4_orderOf_25 (by decide) ?_
          refine lv_goto (tgt := 30) hx hb dX4_orderOf_26 (by decide) ?_
          refine tt_rei (show (2 : Int32) = nI (tt_o mk) from by rw [tt_o_val mk hm]; simp [hb2, hb8, hb17, hb22]; rfl) ?_
          exact kr _ _ _ _ hS dX4_orderOf_30
    · have hb8 : mk = 6 := (nI_eq (a := mk) (b := 6) (by omega) (by omega)).mp hb8
      refine lv_iconst (v := 1) hx hb dX4_orderOf_11 (by decide) ?_
      refine lv_goto (tgt := 30) hx hb dX4_orderOf_12 (by decide) ?_
      refine tt_rei (show (1 : Int32) = nI (tt_o mk) from by rw [tt_o_val mk hm]; simp [hb2, hb8]; rfl) ?_
      exact kr _ _ _ _ hS dX4_orderOf_30
set_option maxHeartbeats 4000000 in
set_option maxRecDepth 100000 in
theorem c_X4_partOf (l : Launch) (D : va_G) (cI cZ cO cC : ClassId) (k i : Nat) (hk : k < 3) (hi : i < 3) : tt_Pure l yX4_partOf wsX4_partOf ({ frames := 0, cells := 0, slots := 0, locals := 0 } : Room) D (tt_tys cI cZ cO cC) false [] [.int (nI k), .int (nI i)] (nI ((k + i) % 3)) := by
  refine tt_pure (cc := cX4_partOf) (maxL := 2) (rt := .int) (by decide) rfl (rfl) (Nat.le_of_ble_eq_true rfl) ?_
  intro p e s m below meth c Q ls hfix hK hP hE hl kr
  obtain ⟨hx, hb, hml, hown, hts⟩ := id hfix
  have hown : s.vm.findClass RX4 = some m.cls := hown
  have hfix : CallFix p m c cX4_partOf 2 s ([.int (nI k), .int (nI i)] : List Value).toArray wsX4_partOf RX4 := hfix
  have hl : lv_has ls 2 [(0, .int (nI k)), (1, .int (nI i))] := hl
  have hS : va_S (fun _ => False) s.heap s.heap [] := va_S.rf
  refine lv_iload_n hx hb dX4_partOf_0 rfl (lv_at hl 0 rfl) ?_
  refine lv_iload_n hx hb dX4_partOf_1 rfl (lv_at hl 1 rfl) ?_
  refine lv_iadd hx hb dX4_partOf_2 ?_
  refine tt_rei (show ((nI k) + (nI i)) = nI (k + i) from nI_add k i) ?_
  refine lv_iconst (v := 3) hx hb dX4_partOf_3 (by decide) ?_
  refine lv_irem hx hb dX4_partOf_4 (by decide) ?_
  refine tt_rei (show ((nI (k + i)) - (nI (k + i)) / 3 * 3) = nI ((k + i) % 3) from pk_rem (a := k + i) (d := 3) (by omega) (by omega) (by omega)) ?_
  exact kr _ _ _ _ hS dX4_partOf_5
set_option maxHeartbeats 4000000 in
set_option maxRecDepth 100000 in
theorem c_X4_isMask (l : Launch) (D : va_G) (cI cZ cO cC : ClassId) (x1 : Int32) : tt_Pure l yX4_isMask wsX4_isMask ({ frames := 0, cells := 0, slots := 0, locals := 0 } : Room) D (tt_tys cI cZ cO cC) false [] [.int x1] (if ¬ x1 < 0 ∧ ¬ 8 ≤ x1 then 1 else 0) := by
  refine tt_pure (cc := cX4_isMask) (maxL := 1) (rt := .boolean) (by decide) rfl (tt_nbi _) (Nat.le_of_ble_eq_true rfl) ?_
  intro p e s m below meth c Q ls hfix hK hP hE hl kr
  obtain ⟨hx, hb, hml, hown, hts⟩ := id hfix
  have hown : s.vm.findClass RX4 = some m.cls := hown
  have hfix : CallFix p m c cX4_isMask 1 s ([.int x1] : List Value).toArray wsX4_isMask RX4 := hfix
  have hl : lv_has ls 1 [(0, .int x1)] := hl
  have hS : va_S (fun _ => False) s.heap s.heap [] := va_S.rf
  refine lv_iload_n hx hb dX4_isMask_0 rfl (lv_at hl 0 rfl) ?_
  refine lv_if_lt (tgt := 14) hx hb dX4_isMask_1 (by decide) (fun hb1 => ?_) (fun hb1 => ?_)
  · refine lv_iconst (v := 0) hx hb dX4_isMask_14 (by decide) ?_
    refine tt_rei (show 0 = if ¬ x1 < 0 ∧ ¬ 8 ≤ x1 then 1 else 0 from by simp [← tt_78, hb1]) ?_
    exact kr _ _ _ _ hS dX4_isMask_15
  · refine lv_iload_n hx hb dX4_isMask_4 rfl (lv_at hl 0 rfl) ?_
    refine lv_bipush (v := 7) hx hb dX4_isMask_5 (by decide) ?_
    refine lv_icmp_gt (tgt := 14) hx hb dX4_isMask_7 (by decide) (fun hb7 => ?_) (fun hb7 => ?_)
    · refine lv_iconst (v := 0) hx hb dX4_isMask_14 (by decide) ?_
      refine tt_rei (show 0 = if ¬ x1 < 0 ∧ ¬ 8 ≤ x1 then 1 else 0 from by simp [← tt_78, hb1, hb7]) ?_
      exact kr _ _ _ _ hS dX4_isMask_15
    · refine lv_iconst (v := 1) hx hb dX4_isMask_10 (by decide) ?_
      refine lv_goto (tgt := 15) hx hb dX4_isMask_11 (by decide) ?_
      refine tt_rei (show 1 = if ¬ x1 < 0 ∧ ¬ 8 ≤ x1 then 1 else 0 from by simp [← tt_78, hb1, hb7]) ?_
      exact kr _ _ _ _ hS dX4_isMask_15
set_option maxHeartbeats 4000000 in
set_option maxRecDepth 100000 in
theorem c_X4_cell (l : Launch) (D : va_G) (cI cZ cO cC : ClassId) (ad : Nat → Nat) (cx : Nat → va_E) (n : Nat) (L : Nat → List tt_T3) (ch : Nat) (K : Nat → tt_KU) (hQ : tt_Q cI cZ ad cx n L ch K) (k j t : Nat) (hk : k < 3) (hj : j < (L k).length) (ht : t < 3) (h700 : (L k).length ≤ 700) : tt_Pure l yX4_cell wsX4_cell ({ frames := 0, cells := 0, slots := 0, locals := 0 } : Room) D (tt_tys cI cZ cO cC) false (tt_blk 9 ad cx) [.ref (ad 0), .int (nI k), .int (nI j), .int (nI t)] (tt_pp t (tt_gt (L k) j)) := by
  refine tt_pure (cc := cX4_cell) (maxL := 4) (rt := .int) (by decide) rfl (rfl) (Nat.le_of_ble_eq_true rfl) ?_
  intro p e s m below meth c Q ls hfix hK hP hE hl kr
  obtain ⟨hx, hb, hml, hown, hts⟩ := id hfix
  have hown : s.vm.findClass RX4 = some m.cls := hown
  have hfix : CallFix p m c cX4_cell 4 s ([.ref (ad 0), .int (nI k), .int (nI j), .int (nI t)] : List Value).toArray wsX4_cell RX4 := hfix
  have hl : lv_has ls 4 [(0, .ref (ad 0)), (1, .int (nI k)), (2, .int (nI j)), (3, .int (nI t))] := hl
  have hf7 := hts (.fieldLink RX4 7 "TripleTreesModel" "rows" "[I") (by decide +kernel)
  have hinX4 : ∀ w ∈ u_ws RX4 TX4 11, w ∈ wsX4_cell := by decide +kernel
  have hS : va_S (fun _ => False) s.heap s.heap [] := va_S.rf
  obtain ⟨mt, f, me, ms, h9, hf⟩ := id hQ
  refine lv_aload_n hx hb dX4_cell_0 rfl (lv_at hl 0 rfl) ?_
  refine va_get (D := D) (ci := 4) (v := .ref (ad 1)) (C := RX4) (T := TX4) (N := 11) hx hb hts hinX4 hown hK hP 0 (tt_bg (by omega) h9.1) rfl 0 (by decide) hf7 (fun _ h9 => h9) rfl dX4_cell_1 ?_
  refine lv_sipush (v := 2101) hx hb dX4_cell_4 (by decide) ?_
  refine lv_iload_n hx hb dX4_cell_7 rfl (lv_at hl 1 rfl) ?_
  refine lv_imul hx hb dX4_cell_8 ?_
  refine tt_rei (show (2101 * (nI k)) = nI (2101 * k) from pk_mul 2101 k) ?_
  refine lv_iconst (v := 3) hx hb dX4_cell_9 (by decide) ?_
  refine lv_iload_n hx hb dX4_cell_10 rfl (lv_at hl 2 rfl) ?_
  refine lv_imul hx hb dX4_cell_11 ?_
  refine tt_rei (show (3 * (nI j)) = nI (3 * j) from pk_mul 3 j) ?_
  refine lv_iadd hx hb dX4_cell_12 ?_
  refine tt_rei (show ((nI (2101 * k)) + (nI (3 * j))) = nI (2101 * k + (3 * j)) from nI_add (2101 * k) (3 * j)) ?_
  refine lv_iload_n hx hb dX4_cell_13 rfl (lv_at hl 3 rfl) ?_
  refine lv_iadd hx hb dX4_cell_14 ?_
  refine tt_rei (show ((nI (2101 * k + (3 * j))) + (nI t)) = nI (2101 * k + (3 * j) + t) from nI_add (2101 * k + (3 * j)) t) ?_
  refine va_iald hx hb hK hP 1 0 (tt_bg (by omega) h9.2.1) rfl (vp_in_nI (n := 2101 * k + (3 * j) + t) (by omega) (by omega)) dX4_cell_15 ?_
  refine tt_rei (show (f (nI (2101 * k + (3 * j) + t)).toNatClampNeg) = f (2101 * k + (3 * j) + t) from congrArg f (nI_clamp (n := 2101 * k + (3 * j) + t) (by omega))) ?_
  refine tt_rei (show f (2101 * k + (3 * j) + t) = tt_pp t (tt_gt (L k) j) from by exact hf k hk j hj t ht) ?_
  exact kr _ _ _ _ hS dX4_cell_16
set_option maxHeartbeats 4000000 in
set_option maxRecDepth 100000 in
theorem c_X4_compare (l : Launch) (D : va_G) (cI cZ cO cC : ClassId) (ad : Nat → Nat) (cx : Nat → va_E) (n : Nat) (L : Nat → List tt_T3) (ch : Nat) (K : Nat → tt_KU) (hQ : tt_Q cI cZ ad cx n L ch K) (k j : Nat) (s1 p1 o1 : Int32) (hk : k < 3) (hj : j < (L k).length) (h700 : (L k).length ≤ 700) : tt_Pure l yX4_compare wsX4_compare ({ frames := 1, cells := 0, slots := 0, locals := 23 } : Room) D (tt_tys cI cZ cO cC) false (tt_blk 9 ad cx) [.ref (ad 0), .int (nI k), .int (nI j), .int s1, .int p1, .int o1] (tt_cu k 3 (tt_gt (L k) j) (s1, p1, o1)) := by
  refine tt_pure (cc := cX4_compare) (maxL := 10) (rt := .int) (by decide) rfl (rfl) (Nat.le_of_ble_eq_true rfl) ?_
  intro p e s m below meth c Q ls hfix hK hP hE hl kr
  obtain ⟨hx, hb, hml, hown, hts⟩ := id hfix
  have hown : s.vm.findClass RX4 = some m.cls := hown
  have hfix : CallFix p m c cX4_compare 10 s ([.ref (ad 0), .int (nI k), .int (nI j), .int s1, .int p1, .int o1] : List Value).toArray wsX4_compare RX4 := hfix
  have hl : lv_has ls 10 [(0, .ref (ad 0)), (1, .int (nI k)), (2, .int (nI j)), (3, .int s1), (4, .int p1), (5, .int o1)] := hl
  have hS : va_S (fun _ => False) s.heap s.heap [] := va_S.rf
  obtain ⟨mt, f, me, ms, h9, hf⟩ := id hQ
  refine lv_iconst (v := 0) hx hb dX4_compare_0 (by decide) ?_
  refine lv_istore (lv' := [(6, .int 0), (0, .ref (ad 0)), (1, .int (nI k)), (2, .int (nI j)), (3, .int s1), (4, .int p1), (5, .int o1)]) hx hb dX4_compare_1 hl (by decide) rfl (fun ls hl => ?_)
  refine lv_iload hx hb dX4_compare_3 (lv_at hl 0 rfl) ?_
  refine lv_iconst (v := 3) hx hb dX4_compare_5 (by decide) ?_
  refine lv_icmp_ge (tgt := 77) hx hb dX4_compare_6 (by decide) (fun hb6 => ?_) (fun hb6 => ?_)
  · exact absurd hb6 (by decide)
  · refine lv_iload_n hx hb dX4_compare_9 rfl (lv_at hl 2 rfl) ?_
    refine lv_iload hx hb dX4_compare_10 (lv_at hl 0 rfl) ?_
    refine tt_calli (va_runS (As := [.int (nI k), .int 0]) (rest := []) hfix (c_X4_partOf l D cI cZ cO cC k 0 hk (by omega)) (va_cwS 2 hts gX4_compare_X4_partOf rfl rfl rfl (by decide +kernel) ⟨Nat.le_of_ble_eq_true rfl, Nat.le_of_ble_eq_true rfl⟩) (tt_preS hK tt_P0 tt_E.no) rfl rfl hl.1 rfl (lv_room (Nat.le_of_ble_eq_true rfl)) dX4_compare_12 ⟨Nat.zero_le _, Nat.zero_le _⟩) hP hS (fun H locs hP hS => ?_)
    refine lv_istore (lv' := [(7, .int (nI ((k + 0) % 3))), (6, .int 0), (0, .ref (ad 0)), (1, .int (nI k)), (2, .int (nI j)), (3, .int s1), (4, .int p1), (5, .int o1)]) hx hb dX4_compare_15 hl (by decide) rfl (fun ls hl => ?_)
    refine lv_aload_n hx hb dX4_compare_17 rfl (lv_at hl 2 rfl) ?_
    refine lv_iload_n hx hb dX4_compare_18 rfl (lv_at hl 3 rfl) ?_
    refine lv_iload_n hx hb dX4_compare_19 rfl (lv_at hl 4 rfl) ?_
    refine lv_iload hx hb dX4_compare_20 (lv_at hl 0 rfl) ?_
    have hPc := hP
    refine tt_calli (va_runV (As := [.int (nI k), .int (nI j), .int (nI ((k + 0) % 3))]) (rest := []) hfix (c_X4_cell l D cI cZ cO cC ad cx n L ch K hQ k j ((k + 0) % 3) hk hj (by omega) h700) (cwV 3 hts gX4_compare_X4_cell rfl rfl rfl (by decide +kernel) ⟨Nat.le_of_ble_eq_true rfl, Nat.le_of_ble_eq_true rfl⟩) (tt_preV (q0 := 0) (ci := 4) hK hPc tt_E.no (tt_bg (by omega) h9.1) rfl) rfl rfl hl.1 rfl (lv_room (Nat.le_of_ble_eq_true rfl)) dX4_compare_22 ⟨Nat.zero_le _, Nat.zero_le _⟩) hP hS (fun H locs hP hS => ?_)
    refine lv_istore (lv' := [(8, .int (tt_pp ((k + 0) % 3) (tt_gt (L k) j))), (7, .int (nI ((k + 0) % 3))), (6, .int 0), (0, .ref (ad 0)), (1, .int (nI k)), (2, .int (nI j)), (3, .int s1), (4, .int p1), (5, .int o1)]) hx hb dX4_compare_25 hl (by decide) rfl (fun ls hl => ?_)
    have J0 : W p l e ({ frames := 1, cells := 0, slots := 0, locals := 23 } : Room) s m ([.ref (ad 0), .int (nI k), .int (nI j), .int s1, .int p1, .int o1] : List Value).toArray below meth c H locs 0 0 Q (F0 m 49 ls [.int (tt_pt ((k + 0) % 3) s1 p1 o1)]) := by
      refine lv_istore (lv' := [(9, .int (tt_pt ((k + 0) % 3) s1 p1 o1)), (8, .int (tt_pp ((k + 0) % 3) (tt_gt (L k) j))), (7, .int (nI ((k + 0) % 3))), (6, .int 0), (0, .ref (ad 0)), (1, .int (nI k)), (2, .int (nI j)), (3, .int s1), (4, .int p1), (5, .int o1)]) hx hb dX4_compare_49 hl (by decide) rfl (fun ls hl => ?_)
      refine lv_iload hx hb dX4_compare_51 (lv_at hl 1 rfl) ?_
      refine lv_iload hx hb dX4_compare_53 (lv_at hl 0 rfl) ?_
      refine lv_icmp_eq (tgt := 71) hx hb dX4_compare_55 (by decide) (fun hb55 => ?_) (fun hb55 => ?_)
      · have e0 := hb55
        refine lv_iinc (v := 1) (lv' := [(6, .int 1), (9, .int (tt_pt ((k + 0) % 3) s1 p1 o1)), (8, .int (tt_pp ((k + 0) % 3) (tt_gt (L k) j))), (7, .int (nI ((k + 0) % 3))), (0, .ref (ad 0)), (1, .int (nI k)), (2, .int (nI j)), (3, .int s1), (4, .int p1), (5, .int o1)]) hx hb dX4_compare_71 hl (k := 3) rfl (rfl) (by decide) rfl (fun ls hl => ?_)
        refine lv_goto (tgt := 3) hx hb dX4_compare_74 (by decide) ?_
        refine lv_iload hx hb dX4_compare_3 (lv_at hl 0 rfl) ?_
        refine lv_iconst (v := 3) hx hb dX4_compare_5 (by decide) ?_
        refine lv_icmp_ge (tgt := 77) hx hb dX4_compare_6 (by decide) (fun hb6 => ?_) (fun hb6 => ?_)
        · exact absurd hb6 (by decide)
        · refine lv_iload_n hx hb dX4_compare_9 rfl (lv_at hl 5 rfl) ?_
          refine lv_iload hx hb dX4_compare_10 (lv_at hl 0 rfl) ?_
          refine tt_calli (va_runS (As := [.int (nI k), .int 1]) (rest := []) hfix (c_X4_partOf l D cI cZ cO cC k 1 hk (by omega)) (va_cwS 2 hts gX4_compare_X4_partOf rfl rfl rfl (by decide +kernel) ⟨Nat.le_of_ble_eq_true rfl, Nat.le_of_ble_eq_true rfl⟩) (tt_preS hK tt_P0 tt_E.no) rfl rfl hl.1 rfl (lv_room (Nat.le_of_ble_eq_true rfl)) dX4_compare_12 ⟨Nat.zero_le _, Nat.zero_le _⟩) hP hS (fun H locs hP hS => ?_)
          refine lv_istore (lv' := [(7, .int (nI ((k + 1) % 3))), (6, .int 1), (9, .int (tt_pt ((k + 0) % 3) s1 p1 o1)), (8, .int (tt_pp ((k + 0) % 3) (tt_gt (L k) j))), (0, .ref (ad 0)), (1, .int (nI k)), (2, .int (nI j)), (3, .int s1), (4, .int p1), (5, .int o1)]) hx hb dX4_compare_15 hl (by decide) rfl (fun ls hl => ?_)
          refine lv_aload_n hx hb dX4_compare_17 rfl (lv_at hl 4 rfl) ?_
          refine lv_iload_n hx hb dX4_compare_18 rfl (lv_at hl 5 rfl) ?_
          refine lv_iload_n hx hb dX4_compare_19 rfl (lv_at hl 6 rfl) ?_
          refine lv_iload hx hb dX4_compare_20 (lv_at hl 0 rfl) ?_
          have hPc := hP
          refine tt_calli (va_runV (As := [.int (nI k), .int (nI j), .int (nI ((k + 1) % 3))]) (rest := []) hfix (c_X4_cell l D cI cZ cO cC ad cx n L ch K hQ k j ((k + 1) % 3) hk hj (by omega) h700) (cwV 3 hts gX4_compare_X4_cell rfl rfl rfl (by decide +kernel) ⟨Nat.le_of_ble_eq_true rfl, Nat.le_of_ble_eq_true rfl⟩) (tt_preV (q0 := 0) (ci := 4) hK hPc tt_E.no (tt_bg (by omega) h9.1) rfl) rfl rfl hl.1 rfl (lv_room (Nat.le_of_ble_eq_true rfl)) dX4_compare_22 ⟨Nat.zero_le _, Nat.zero_le _⟩) hP hS (fun H locs hP hS => ?_)
          refine lv_istore (lv' := [(8, .int (tt_pp ((k + 1) % 3) (tt_gt (L k) j))), (7, .int (nI ((k + 1) % 3))), (6, .int 1), (9, .int (tt_pt ((k + 0) % 3) s1 p1 o1)), (0, .ref (ad 0)), (1, .int (nI k)), (2, .int (nI j)), (3, .int s1), (4, .int p1), (5, .int o1)]) hx hb dX4_compare_25 hl (by decide) rfl (fun ls hl => ?_)
          have J1 : W p l e ({ frames := 1, cells := 0, slots := 0, locals := 23 } : Room) s m ([.ref (ad 0), .int (nI k), .int (nI j), .int s1, .int p1, .int o1] : List Value).toArray below meth c H locs 0 0 Q (F0 m 49 ls [.int (tt_pt ((k + 1) % 3) s1 p1 o1)]) := by
            refine lv_istore (lv' := [(9, .int (tt_pt ((k + 1) % 3) s1 p1 o1)), (8, .int (tt_pp ((k + 1) % 3) (tt_gt (L k) j))), (7, .int (nI ((k + 1) % 3))), (6, .int 1), (0, .ref (ad 0)), (1, .int (nI k)), (2, .int (nI j)), (3, .int s1), (4, .int p1), (5, .int o1)]) hx hb dX4_compare_49 hl (by decide) rfl (fun ls hl => ?_)
            refine lv_iload hx hb dX4_compare_51 (lv_at hl 1 rfl) ?_
            refine lv_iload hx hb dX4_compare_53 (lv_at hl 0 rfl) ?_
            refine lv_icmp_eq (tgt := 71) hx hb dX4_compare_55 (by decide) (fun hb55 => ?_) (fun hb55 => ?_)
            · have e1 := hb55
              refine lv_iinc (v := 2) (lv' := [(6, .int 2), (9, .int (tt_pt ((k + 1) % 3) s1 p1 o1)), (8, .int (tt_pp ((k + 1) % 3) (tt_gt (L k) j))), (7, .int (nI ((k + 1) % 3))), (0, .ref (ad 0)), (1, .int (nI k)), (2, .int (nI j)), (3, .int s1), (4, .int p1), (5, .int o1)]) hx hb dX4_compare_71 hl (k := 3) rfl (rfl) (by decide) rfl (fun ls hl => ?_)
              refine lv_goto (tgt := 3) hx hb dX4_compare_74 (by decide) ?_
              refine lv_iload hx hb dX4_compare_3 (lv_at hl 0 rfl) ?_
              refine lv_iconst (v := 3) hx hb dX4_compare_5 (by decide) ?_
              refine lv_icmp_ge (tgt := 77) hx hb dX4_compare_6 (by decide) (fun hb6 => ?_) (fun hb6 => ?_)
              · exact absurd hb6 (by decide)
              · refine lv_iload_n hx hb dX4_compare_9 rfl (lv_at hl 5 rfl) ?_
                refine lv_iload hx hb dX4_compare_10 (lv_at hl 0 rfl) ?_
                refine tt_calli (va_runS (As := [.int (nI k), .int 2]) (rest := []) hfix (c_X4_partOf l D cI cZ cO cC k 2 hk (by omega)) (va_cwS 2 hts gX4_compare_X4_partOf rfl rfl rfl (by decide +kernel) ⟨Nat.le_of_ble_eq_true rfl, Nat.le_of_ble_eq_true rfl⟩) (tt_preS hK tt_P0 tt_E.no) rfl rfl hl.1 rfl (lv_room (Nat.le_of_ble_eq_true rfl)) dX4_compare_12 ⟨Nat.zero_le _, Nat.zero_le _⟩) hP hS (fun H locs hP hS => ?_)
                refine lv_istore (lv' := [(7, .int (nI ((k + 2) % 3))), (6, .int 2), (9, .int (tt_pt ((k + 1) % 3) s1 p1 o1)), (8, .int (tt_pp ((k + 1) % 3) (tt_gt (L k) j))), (0, .ref (ad 0)), (1, .int (nI k)), (2, .int (nI j)), (3, .int s1), (4, .int p1), (5, .int o1)]) hx hb dX4_compare_15 hl (by decide) rfl (fun ls hl => ?_)
                refine lv_aload_n hx hb dX4_compare_17 rfl (lv_at hl 4 rfl) ?_
                refine lv_iload_n hx hb dX4_compare_18 rfl (lv_at hl 5 rfl) ?_
                refine lv_iload_n hx hb dX4_compare_19 rfl (lv_at hl 6 rfl) ?_
                refine lv_iload hx hb dX4_compare_20 (lv_at hl 0 rfl) ?_
                have hPc := hP
                refine tt_calli (va_runV (As := [.int (nI k), .int (nI j), .int (nI ((k + 2) % 3))]) (rest := []) hfix (c_X4_cell l D cI cZ cO cC ad cx n L ch K hQ k j ((k + 2) % 3) hk hj (by omega) h700) (cwV 3 hts gX4_compare_X4_cell rfl rfl rfl (by decide +kernel) ⟨Nat.le_of_ble_eq_true rfl, Nat.le_of_ble_eq_true rfl⟩) (tt_preV (q0 := 0) (ci := 4) hK hPc tt_E.no (tt_bg (by omega) h9.1) rfl) rfl rfl hl.1 rfl (lv_room (Nat.le_of_ble_eq_true rfl)) dX4_compare_22 ⟨Nat.zero_le _, Nat.zero_le _⟩) hP hS (fun H locs hP hS => ?_)
                refine lv_istore (lv' := [(8, .int (tt_pp ((k + 2) % 3) (tt_gt (L k) j))), (7, .int (nI ((k + 2) % 3))), (6, .int 2), (9, .int (tt_pt ((k + 1) % 3) s1 p1 o1)), (0, .ref (ad 0)), (1, .int (nI k)), (2, .int (nI j)), (3, .int s1), (4, .int p1), (5, .int o1)]) hx hb dX4_compare_25 hl (by decide) rfl (fun ls hl => ?_)
                have J2 : W p l e ({ frames := 1, cells := 0, slots := 0, locals := 23 } : Room) s m ([.ref (ad 0), .int (nI k), .int (nI j), .int s1, .int p1, .int o1] : List Value).toArray below meth c H locs 0 0 Q (F0 m 49 ls [.int (tt_pt ((k + 2) % 3) s1 p1 o1)]) := by
                  refine lv_istore (lv' := [(9, .int (tt_pt ((k + 2) % 3) s1 p1 o1)), (8, .int (tt_pp ((k + 2) % 3) (tt_gt (L k) j))), (7, .int (nI ((k + 2) % 3))), (6, .int 2), (0, .ref (ad 0)), (1, .int (nI k)), (2, .int (nI j)), (3, .int s1), (4, .int p1), (5, .int o1)]) hx hb dX4_compare_49 hl (by decide) rfl (fun ls hl => ?_)
                  refine lv_iload hx hb dX4_compare_51 (lv_at hl 1 rfl) ?_
                  refine lv_iload hx hb dX4_compare_53 (lv_at hl 0 rfl) ?_
                  refine lv_icmp_eq (tgt := 71) hx hb dX4_compare_55 (by decide) (fun hb55 => ?_) (fun hb55 => ?_)
                  · have e2 := hb55
                    refine lv_iinc (v := 3) (lv' := [(6, .int 3), (9, .int (tt_pt ((k + 2) % 3) s1 p1 o1)), (8, .int (tt_pp ((k + 2) % 3) (tt_gt (L k) j))), (7, .int (nI ((k + 2) % 3))), (0, .ref (ad 0)), (1, .int (nI k)), (2, .int (nI j)), (3, .int s1), (4, .int p1), (5, .int o1)]) hx hb dX4_compare_71 hl (k := 3) rfl (rfl) (by decide) rfl (fun ls hl => ?_)
                    refine lv_goto (tgt := 3) hx hb dX4_compare_74 (by decide) ?_
                    refine lv_iload hx hb dX4_compare_3 (lv_at hl 0 rfl) ?_
                    refine lv_iconst (v := 3) hx hb dX4_compare_5 (by decide) ?_
                    refine lv_icmp_ge (tgt := 77) hx hb dX4_compare_6 (by decide) (fun hb6 => ?_) (fun hb6 => ?_)
                    · refine lv_iconst (v := 0) hx hb dX4_compare_77 (by decide) ?_
                      refine tt_rei (show (0 : Int32) = tt_cu k 3 (tt_gt (L k) j) (s1, p1, o1) from tt_cu_eq e0 e1 e2) ?_
                      exact kr _ _ _ _ hS dX4_compare_78
                    · exact absurd (by decide) hb6
                  · refine lv_iload hx hb dX4_compare_58 (lv_at hl 1 rfl) ?_
                    refine lv_iload hx hb dX4_compare_60 (lv_at hl 0 rfl) ?_
                    refine lv_icmp_ge (tgt := 69) hx hb dX4_compare_62 (by decide) (fun hb62 => ?_) (fun hb62 => ?_)
                    · refine lv_iconst (v := 1) hx hb dX4_compare_69 (by decide) ?_
                      refine tt_rei (show (1 : Int32) = tt_cu k 3 (tt_gt (L k) j) (s1, p1, o1) from tt_cu_gt2 e0 e1 hb55 hb62) ?_
                      exact kr _ _ _ _ hS dX4_compare_70
                    · refine lv_iconst (v := (-1)) hx hb dX4_compare_65 (by decide) ?_
                      refine lv_goto (tgt := 70) hx hb dX4_compare_66 (by decide) ?_
                      refine tt_rei (show (-1 : Int32) = tt_cu k 3 (tt_gt (L k) j) (s1, p1, o1) from tt_cu_lt2 e0 e1 hb55 hb62) ?_
                      exact kr _ _ _ _ hS dX4_compare_70
                refine lv_iload hx hb dX4_compare_27 (lv_at hl 1 rfl) ?_
                refine lv_if_ne (tgt := 36) hx hb dX4_compare_29 (by decide) (fun hb29 => ?_) (fun hb29 => ?_)
                · have hb29 : ¬ (k + 2) % 3 = 0 := fun hz9 => hb29 ((nI_eq (a := (k + 2) % 3) (b := 0) (by omega) (by omega)).mpr hz9)
                  refine lv_iload hx hb dX4_compare_36 (lv_at hl 1 rfl) ?_
                  refine lv_iconst (v := 1) hx hb dX4_compare_38 (by decide) ?_
                  refine lv_icmp_ne (tgt := 47) hx hb dX4_compare_39 (by decide) (fun hb39 => ?_) (fun hb39 => ?_)
                  · have hb39 : ¬ (k + 2) % 3 = 1 := fun hz9 => hb39 ((nI_eq (a := (k + 2) % 3) (b := 1) (by omega) (by omega)).mpr hz9)
                    refine lv_iload hx hb dX4_compare_47 (lv_at hl 9 rfl) ?_
                    refine tt_rei (show o1 = tt_pt ((k + 2) % 3) s1 p1 o1 from by unfold tt_pt; rw [if_neg hb29, if_neg hb39]) ?_
                    exact J2
                  · have hb39 : (k + 2) % 3 = 1 := (nI_eq (a := (k + 2) % 3) (b := 1) (by omega) (by omega)).mp hb39
                    refine lv_iload hx hb dX4_compare_42 (lv_at hl 8 rfl) ?_
                    refine lv_goto (tgt := 49) hx hb dX4_compare_44 (by decide) ?_
                    refine tt_rei (show p1 = tt_pt ((k + 2) % 3) s1 p1 o1 from by unfold tt_pt; rw [if_neg hb29, if_pos hb39]) ?_
                    exact J2
                · have hb29 : (k + 2) % 3 = 0 := (nI_eq (a := (k + 2) % 3) (b := 0) (by omega) (by omega)).mp hb29
                  refine lv_iload_n hx hb dX4_compare_32 rfl (lv_at hl 7 rfl) ?_
                  refine lv_goto (tgt := 49) hx hb dX4_compare_33 (by decide) ?_
                  refine tt_rei (show s1 = tt_pt ((k + 2) % 3) s1 p1 o1 from by unfold tt_pt; rw [if_pos hb29]) ?_
                  exact J2
            · refine lv_iload hx hb dX4_compare_58 (lv_at hl 1 rfl) ?_
              refine lv_iload hx hb dX4_compare_60 (lv_at hl 0 rfl) ?_
              refine lv_icmp_ge (tgt := 69) hx hb dX4_compare_62 (by decide) (fun hb62 => ?_) (fun hb62 => ?_)
              · refine lv_iconst (v := 1) hx hb dX4_compare_69 (by decide) ?_
                refine tt_rei (show (1 : Int32) = tt_cu k 3 (tt_gt (L k) j) (s1, p1, o1) from tt_cu_gt1 e0 hb55 hb62) ?_
                exact kr _ _ _ _ hS dX4_compare_70
              · refine lv_iconst (v := (-1)) hx hb dX4_compare_65 (by decide) ?_
                refine lv_goto (tgt := 70) hx hb dX4_compare_66 (by decide) ?_
                refine tt_rei (show (-1 : Int32) = tt_cu k 3 (tt_gt (L k) j) (s1, p1, o1) from tt_cu_lt1 e0 hb55 hb62) ?_
                exact kr _ _ _ _ hS dX4_compare_70
          refine lv_iload hx hb dX4_compare_27 (lv_at hl 1 rfl) ?_
          refine lv_if_ne (tgt := 36) hx hb dX4_compare_29 (by decide) (fun hb29 => ?_) (fun hb29 => ?_)
          · have hb29 : ¬ (k + 1) % 3 = 0 := fun hz9 => hb29 ((nI_eq (a := (k + 1) % 3) (b := 0) (by omega) (by omega)).mpr hz9)
            refine lv_iload hx hb dX4_compare_36 (lv_at hl 1 rfl) ?_
            refine lv_iconst (v := 1) hx hb dX4_compare_38 (by decide) ?_
            refine lv_icmp_ne (tgt := 47) hx hb dX4_compare_39 (by decide) (fun hb39 => ?_) (fun hb39 => ?_)
            · have hb39 : ¬ (k + 1) % 3 = 1 := fun hz9 => hb39 ((nI_eq (a := (k + 1) % 3) (b := 1) (by omega) (by omega)).mpr hz9)
              refine lv_iload hx hb dX4_compare_47 (lv_at hl 9 rfl) ?_
              refine tt_rei (show o1 = tt_pt ((k + 1) % 3) s1 p1 o1 from by unfold tt_pt; rw [if_neg hb29, if_neg hb39]) ?_
              exact J1
            · have hb39 : (k + 1) % 3 = 1 := (nI_eq (a := (k + 1) % 3) (b := 1) (by omega) (by omega)).mp hb39
              refine lv_iload hx hb dX4_compare_42 (lv_at hl 8 rfl) ?_
              refine lv_goto (tgt := 49) hx hb dX4_compare_44 (by decide) ?_
              refine tt_rei (show p1 = tt_pt ((k + 1) % 3) s1 p1 o1 from by unfold tt_pt; rw [if_neg hb29, if_pos hb39]) ?_
              exact J1
          · have hb29 : (k + 1) % 3 = 0 := (nI_eq (a := (k + 1) % 3) (b := 0) (by omega) (by omega)).mp hb29
            refine lv_iload_n hx hb dX4_compare_32 rfl (lv_at hl 7 rfl) ?_
            refine lv_goto (tgt := 49) hx hb dX4_compare_33 (by decide) ?_
            refine tt_rei (show s1 = tt_pt ((k + 1) % 3) s1 p1 o1 from by unfold tt_pt; rw [if_pos hb29]) ?_
            exact J1
      · refine lv_iload hx hb dX4_compare_58 (lv_at hl 1 rfl) ?_
        refine lv_iload hx hb dX4_compare_60 (lv_at hl 0 rfl) ?_
        refine lv_icmp_ge (tgt := 69) hx hb dX4_compare_62 (by decide) (fun hb62 => ?_) (fun hb62 => ?_)
        · refine lv_iconst (v := 1) hx hb dX4_compare_69 (by decide) ?_
          refine tt_rei (show (1 : Int32) = tt_cu k 3 (tt_gt (L k) j) (s1, p1, o1) from tt_cu_gt0  hb55 hb62) ?_
          exact kr _ _ _ _ hS dX4_compare_70
        · refine lv_iconst (v := (-1)) hx hb dX4_compare_65 (by decide) ?_
          refine lv_goto (tgt := 70) hx hb dX4_compare_66 (by decide) ?_
          refine tt_rei (show (-1 : Int32) = tt_cu k 3 (tt_gt (L k) j) (s1, p1, o1) from tt_cu_lt0  hb55 hb62) ?_
          exact kr _ _ _ _ hS dX4_compare_70
    refine lv_iload hx hb dX4_compare_27 (lv_at hl 1 rfl) ?_
    refine lv_if_ne (tgt := 36) hx hb dX4_compare_29 (by decide) (fun hb29 => ?_) (fun hb29 => ?_)
    · have hb29 : ¬ (k + 0) % 3 = 0 := fun hz9 => hb29 ((nI_eq (a := (k + 0) % 3) (b := 0) (by omega) (by omega)).mpr hz9)
      refine lv_iload hx hb dX4_compare_36 (lv_at hl 1 rfl) ?_
      refine lv_iconst (v := 1) hx hb dX4_compare_38 (by decide) ?_
      refine lv_icmp_ne (tgt := 47) hx hb dX4_compare_39 (by decide) (fun hb39 => ?_) (fun hb39 => ?_)
      · have hb39 : ¬ (k + 0) % 3 = 1 := fun hz9 => hb39 ((nI_eq (a := (k + 0) % 3) (b := 1) (by omega) (by omega)).mpr hz9)
        refine lv_iload hx hb dX4_compare_47 (lv_at hl 8 rfl) ?_
        refine tt_rei (show o1 = tt_pt ((k + 0) % 3) s1 p1 o1 from by unfold tt_pt; rw [if_neg hb29, if_neg hb39]) ?_
        exact J0
      · have hb39 : (k + 0) % 3 = 1 := (nI_eq (a := (k + 0) % 3) (b := 1) (by omega) (by omega)).mp hb39
        refine lv_iload hx hb dX4_compare_42 (lv_at hl 7 rfl) ?_
        refine lv_goto (tgt := 49) hx hb dX4_compare_44 (by decide) ?_
        refine tt_rei (show p1 = tt_pt ((k + 0) % 3) s1 p1 o1 from by unfold tt_pt; rw [if_neg hb29, if_pos hb39]) ?_
        exact J0
    · have hb29 : (k + 0) % 3 = 0 := (nI_eq (a := (k + 0) % 3) (b := 0) (by omega) (by omega)).mp hb29
      refine lv_iload_n hx hb dX4_compare_32 rfl (lv_at hl 6 rfl) ?_
      refine lv_goto (tgt := 49) hx hb dX4_compare_33 (by decide) ?_
      refine tt_rei (show s1 = tt_pt ((k + 0) % 3) s1 p1 o1 from by unfold tt_pt; rw [if_pos hb29]) ?_
      exact J0
set_option maxHeartbeats 4000000 in
set_option maxRecDepth 100000 in
theorem c_X4_placeOf (l : Launch) (D : va_G) (cI cZ cO cC : ClassId) (ad : Nat → Nat) (cx : Nat → va_E) (n : Nat) (L : Nat → List tt_T3) (ch : Nat) (K : Nat → tt_KU) (hQ : tt_Q cI cZ ad cx n L ch K) (k : Nat) (s1 p1 o1 : Int32) (hk : k < 3) (hs : tt_So k (L k)) (hn : (L k).length = n) (h700 : n ≤ 700) : tt_Pure l yX4_placeOf wsX4_placeOf ({ frames := 2, cells := 0, slots := 0, locals := 52 } : Room) D (tt_tys cI cZ cO cC) false (tt_blk 9 ad cx) [.ref (ad 0), .int (nI k), .int s1, .int p1, .int o1] (nI (tt_pos k (s1, p1, o1) (L k))) := by
  refine tt_pure (cc := cX4_placeOf) (maxL := 6) (rt := .int) (by decide) rfl (rfl) (Nat.le_of_ble_eq_true rfl) ?_
  intro p e s m below meth c Q ls hfix hK hP hE hl kr
  obtain ⟨hx, hb, hml, hown, hts⟩ := id hfix
  have hown : s.vm.findClass RX4 = some m.cls := hown
  have hfix : CallFix p m c cX4_placeOf 6 s ([.ref (ad 0), .int (nI k), .int s1, .int p1, .int o1] : List Value).toArray wsX4_placeOf RX4 := hfix
  have hl : lv_has ls 6 [(0, .ref (ad 0)), (1, .int (nI k)), (2, .int s1), (3, .int p1), (4, .int o1)] := hl
  have hf35 := hts (.fieldLink RX4 35 "TripleTreesModel" "size" "I") (by decide +kernel)
  have hinX4 : ∀ w ∈ u_ws RX4 TX4 11, w ∈ wsX4_placeOf := by decide +kernel
  have hS : va_S (fun _ => False) s.heap s.heap [] := va_S.rf
  obtain ⟨mt, f, me, ms, h9, hf⟩ := id hQ
  obtain ⟨hb1, hb2, hb3⟩ := tt_pos_bd hs (s1, p1, o1)
  have loop : ∀ (d i : Nat), (d + i = n) → (i ≤ tt_pos k (s1, p1, o1) (L k)) → ∀ (H : Heap) (locs : List Loc) (ls : Array Slot), va_P D vwCl (tt_blk 9 ad cx) H → va_S (fun _ => False) s.heap H locs → lv_has ls 6 [(5, .int (nI i)), (0, .ref (ad 0)), (1, .int (nI k)), (2, .int s1), (3, .int p1), (4, .int o1)] → W p l e ({ frames := 2, cells := 0, slots := 0, locals := 52 } : Room) s m ([.ref (ad 0), .int (nI k), .int s1, .int p1, .int o1] : List Value).toArray below meth c H locs 0 0 Q (F0 m 3 ls []) := by
    intro d
    induction d with
    | zero =>
      intro i hd hi H locs ls hP hS hl
      refine lv_iload hx hb dX4_placeOf_3 (lv_at hl 0 rfl) ?_
      refine lv_aload_n hx hb dX4_placeOf_5 rfl (lv_at hl 1 rfl) ?_
      refine va_get (D := D) (ci := 4) (v := .int (nI n)) (C := RX4) (T := TX4) (N := 11) hx hb hts hinX4 hown hK hP 0 (tt_bg (by omega) h9.1) rfl 1 (by decide) hf35 (fun _ h9 => h9) rfl dX4_placeOf_6 ?_
      refine lv_icmp_ge (tgt := 32) hx hb dX4_placeOf_9 (by decide) (fun hb9 => ?_) (fun hb9 => ?_)
      · have hb9 : n ≤ i := (nI_leI (a := n) (b := i) (by omega) (by omega)).mp hb9
        refine lv_iload hx hb dX4_placeOf_32 (lv_at hl 0 rfl) ?_
        have hir : i = tt_pos k (s1, p1, o1) (L k) := by omega
        rw [hir]
        exact kr _ _ _ _ hS dX4_placeOf_34
      · have hb9 : ¬ n ≤ i := fun hz9 => hb9 ((nI_leI (a := n) (b := i) (by omega) (by omega)).mpr hz9)
        exact absurd hb9 (by omega)
    | succ d ih =>
      intro i hd hi H locs ls hP hS hl
      refine lv_iload hx hb dX4_placeOf_3 (lv_at hl 0 rfl) ?_
      refine lv_aload_n hx hb dX4_placeOf_5 rfl (lv_at hl 1 rfl) ?_
      refine va_get (D := D) (ci := 4) (v := .int (nI n)) (C := RX4) (T := TX4) (N := 11) hx hb hts hinX4 hown hK hP 0 (tt_bg (by omega) h9.1) rfl 1 (by decide) hf35 (fun _ h9 => h9) rfl dX4_placeOf_6 ?_
      refine lv_icmp_ge (tgt := 32) hx hb dX4_placeOf_9 (by decide) (fun hb9 => ?_) (fun hb9 => ?_)
      · have hb9 : n ≤ i := (nI_leI (a := n) (b := i) (by omega) (by omega)).mp hb9
        exact absurd hb9 (by omega)
      · have hb9 : ¬ n ≤ i := fun hz9 => hb9 ((nI_leI (a := n) (b := i) (by omega) (by omega)).mpr hz9)
        refine lv_aload_n hx hb dX4_placeOf_12 rfl (lv_at hl 1 rfl) ?_
        refine lv_iload_n hx hb dX4_placeOf_13 rfl (lv_at hl 2 rfl) ?_
        refine lv_iload hx hb dX4_placeOf_14 (lv_at hl 0 rfl) ?_
        refine lv_iload_n hx hb dX4_placeOf_16 rfl (lv_at hl 3 rfl) ?_
        refine lv_iload_n hx hb dX4_placeOf_17 rfl (lv_at hl 4 rfl) ?_
        refine lv_iload hx hb dX4_placeOf_18 (lv_at hl 5 rfl) ?_
        have hPc := hP
        refine tt_calli (va_runV (As := [.int (nI k), .int (nI i), .int s1, .int p1, .int o1]) (rest := []) hfix (c_X4_compare l D cI cZ cO cC ad cx n L ch K hQ k i s1 p1 o1 hk (by omega) (by omega)) (cwV 5 hts gX4_placeOf_X4_compare rfl rfl rfl (by decide +kernel) ⟨Nat.le_of_ble_eq_true rfl, Nat.le_of_ble_eq_true rfl⟩) (tt_preV (q0 := 0) (ci := 4) hK hPc tt_E.no (tt_bg (by omega) h9.1) rfl) rfl rfl hl.1 rfl (lv_room (Nat.le_of_ble_eq_true rfl)) dX4_placeOf_20 ⟨Nat.zero_le _, Nat.zero_le _⟩) hP hS (fun H locs hP hS => ?_)
        refine lv_if_ge (tgt := 32) hx hb dX4_placeOf_23 (by decide) (fun hb23 => ?_) (fun hb23 => ?_)
        · refine lv_iload hx hb dX4_placeOf_32 (lv_at hl 0 rfl) ?_
          have hir : i = tt_pos k (s1, p1, o1) (L k) := Nat.le_antisymm hi (Nat.le_of_not_lt (fun h => hb2 i h hb23))
          rw [hir]
          exact kr _ _ _ _ hS dX4_placeOf_34
        · refine lv_iinc (v := nI (i + 1)) (lv' := [(5, .int (nI (i + 1))), (0, .ref (ad 0)), (1, .int (nI k)), (2, .int s1), (3, .int p1), (4, .int o1)]) hx hb dX4_placeOf_26 hl (k := 0) rfl (nI_add i 1) (by decide) rfl (fun ls hl => ?_)
          refine lv_goto (tgt := 3) hx hb dX4_placeOf_29 (by decide) ?_
          exact ih (i + 1) (by omega) (Nat.lt_of_not_le (fun h => hb3 i h (by omega) hb23)) H locs ls hP hS (lv_sub hl [0, 1, 2, 3, 4, 5] rfl)
  refine lv_iconst (v := 0) hx hb dX4_placeOf_0 (by decide) ?_
  refine lv_istore (lv' := [(5, .int 0), (0, .ref (ad 0)), (1, .int (nI k)), (2, .int s1), (3, .int p1), (4, .int o1)]) hx hb dX4_placeOf_1 hl (by decide) rfl (fun ls hl => ?_)
  exact loop n 0 (by omega) (Nat.zero_le _) _ _ ls hP hS (lv_sub hl [0, 1, 2, 3, 4, 5] rfl)
set_option maxHeartbeats 4000000 in
set_option maxRecDepth 100000 in
theorem c_X4_holds (l : Launch) (D : va_G) (cI cZ cO cC : ClassId) (ad : Nat → Nat) (cx : Nat → va_E) (n : Nat) (L : Nat → List tt_T3) (ch : Nat) (K : Nat → tt_KU) (hQ : tt_Q cI cZ ad cx n L ch K) (s1 p1 o1 : Int32) (hI : tt_I L) (hn : n = (L 0).length) : tt_Pure l yX4_holds wsX4_holds ({ frames := 3, cells := 0, slots := 0, locals := 77 } : Room) D (tt_tys cI cZ cO cC) false (tt_blk 9 ad cx) [.ref (ad 0), .int s1, .int p1, .int o1] (if 0 < tt_mn 7 s1 p1 o1 L then 1 else 0) := by
  refine tt_pure (cc := cX4_holds) (maxL := 5) (rt := .boolean) (by decide) rfl (tt_nbi _) (Nat.le_of_ble_eq_true rfl) ?_
  intro p e s m below meth c Q ls hfix hK hP hE hl kr
  obtain ⟨hx, hb, hml, hown, hts⟩ := id hfix
  have hown : s.vm.findClass RX4 = some m.cls := hown
  have hfix : CallFix p m c cX4_holds 5 s ([.ref (ad 0), .int s1, .int p1, .int o1] : List Value).toArray wsX4_holds RX4 := hfix
  have hl : lv_has ls 5 [(0, .ref (ad 0)), (1, .int s1), (2, .int p1), (3, .int o1)] := hl
  have hf35 := hts (.fieldLink RX4 35 "TripleTreesModel" "size" "I") (by decide +kernel)
  have hinX4 : ∀ w ∈ u_ws RX4 TX4 11, w ∈ wsX4_holds := by decide +kernel
  have hS : va_S (fun _ => False) s.heap s.heap [] := va_S.rf
  obtain ⟨mt, f, me, ms, h9, hf⟩ := id hQ
  have h700 := (hI 0 (by omega)).2.2
  have hpl := tt_pos_le 0 (s1, p1, o1) (L 0)
  refine lv_aload_n hx hb dX4_holds_0 rfl (lv_at hl 0 rfl) ?_
  refine lv_iconst (v := 0) hx hb dX4_holds_1 (by decide) ?_
  refine lv_iload_n hx hb dX4_holds_2 rfl (lv_at hl 1 rfl) ?_
  refine lv_iload_n hx hb dX4_holds_3 rfl (lv_at hl 2 rfl) ?_
  refine lv_iload_n hx hb dX4_holds_4 rfl (lv_at hl 3 rfl) ?_
  have hPc := hP
  refine tt_calli (va_runV (As := [.int 0, .int s1, .int p1, .int o1]) (rest := []) hfix (c_X4_placeOf l D cI cZ cO cC ad cx n L ch K hQ 0 s1 p1 o1 (by omega) (hI 0 (by omega)).1 hn.symm (by omega)) (cwV 4 hts gX4_holds_X4_placeOf rfl rfl rfl (by decide +kernel) ⟨Nat.le_of_ble_eq_true rfl, Nat.le_of_ble_eq_true rfl⟩) (tt_preV (q0 := 0) (ci := 4) hK hPc tt_E.no (tt_bg (by omega) h9.1) rfl) rfl rfl hl.1 rfl (lv_room (Nat.le_of_ble_eq_true rfl)) dX4_holds_5 ⟨Nat.zero_le _, Nat.zero_le _⟩) hP hS (fun H locs hP hS => ?_)
  refine lv_istore (lv' := [(4, .int (nI (tt_pos 0 (s1, p1, o1) (L 0)))), (0, .ref (ad 0)), (1, .int s1), (2, .int p1), (3, .int o1)]) hx hb dX4_holds_8 hl (by decide) rfl (fun ls hl => ?_)
  refine lv_iload hx hb dX4_holds_10 (lv_at hl 0 rfl) ?_
  refine lv_aload_n hx hb dX4_holds_12 rfl (lv_at hl 1 rfl) ?_
  refine va_get (D := D) (ci := 4) (v := .int (nI n)) (C := RX4) (T := TX4) (N := 11) hx hb hts hinX4 hown hK hP 0 (tt_bg (by omega) h9.1) rfl 1 (by decide) hf35 (fun _ h9 => h9) rfl dX4_holds_13 ?_
  refine lv_icmp_ge (tgt := 36) hx hb dX4_holds_16 (by decide) (fun hb16 => ?_) (fun hb16 => ?_)
  · have hb16 : n ≤ tt_pos 0 (s1, p1, o1) (L 0) := (nI_leI (a := n) (b := tt_pos 0 (s1, p1, o1) (L 0)) (by omega) (by omega)).mp hb16
    refine lv_iconst (v := 0) hx hb dX4_holds_36 (by decide) ?_
    refine tt_rei (show (0 : Int32) = if 0 < tt_mn 7 s1 p1 o1 L then 1 else 0 from (if_neg (fun h9 => tt_mem_cu0 hI ((tt_mem7 s1 p1 o1 hI).mp h9) (by first | exact Or.inl (by omega) | exact Or.inr hb29))).symm) ?_
    exact kr _ _ _ _ hS dX4_holds_37
  · have hb16 : ¬ n ≤ tt_pos 0 (s1, p1, o1) (L 0) := fun hz9 => hb16 ((nI_leI (a := n) (b := tt_pos 0 (s1, p1, o1) (L 0)) (by omega) (by omega)).mpr hz9)
    refine lv_aload_n hx hb dX4_holds_19 rfl (lv_at hl 1 rfl) ?_
    refine lv_iconst (v := 0) hx hb dX4_holds_20 (by decide) ?_
    refine lv_iload hx hb dX4_holds_21 (lv_at hl 0 rfl) ?_
    refine lv_iload_n hx hb dX4_holds_23 rfl (lv_at hl 2 rfl) ?_
    refine lv_iload_n hx hb dX4_holds_24 rfl (lv_at hl 3 rfl) ?_
    refine lv_iload_n hx hb dX4_holds_25 rfl (lv_at hl 4 rfl) ?_
    have hPc := hP
    refine tt_calli (va_runV (As := [.int 0, .int (nI (tt_pos 0 (s1, p1, o1) (L 0))), .int s1, .int p1, .int o1]) (rest := []) hfix (c_X4_compare l D cI cZ cO cC ad cx n L ch K hQ 0 (tt_pos 0 (s1, p1, o1) (L 0)) s1 p1 o1 (by omega) (by omega) (by omega)) (cwV 5 hts gX4_holds_X4_compare rfl rfl rfl (by decide +kernel) ⟨Nat.le_of_ble_eq_true rfl, Nat.le_of_ble_eq_true rfl⟩) (tt_preV (q0 := 0) (ci := 4) hK hPc tt_E.no (tt_bg (by omega) h9.1) rfl) rfl rfl hl.1 rfl (lv_room (Nat.le_of_ble_eq_true rfl)) dX4_holds_26 ⟨Nat.zero_le _, Nat.zero_le _⟩) hP hS (fun H locs hP hS => ?_)
    refine lv_if_ne (tgt := 36) hx hb dX4_holds_29 (by decide) (fun hb29 => ?_) (fun hb29 => ?_)
    · refine lv_iconst (v := 0) hx hb dX4_holds_36 (by decide) ?_
      refine tt_rei (show (0 : Int32) = if 0 < tt_mn 7 s1 p1 o1 L then 1 else 0 from (if_neg (fun h9 => tt_mem_cu0 hI ((tt_mem7 s1 p1 o1 hI).mp h9) (by first | exact Or.inl (by omega) | exact Or.inr hb29))).symm) ?_
      exact kr _ _ _ _ hS dX4_holds_37
    · refine lv_iconst (v := 1) hx hb dX4_holds_32 (by decide) ?_
      refine lv_goto (tgt := 37) hx hb dX4_holds_33 (by decide) ?_
      refine tt_rei (show (1 : Int32) = if 0 < tt_mn 7 s1 p1 o1 L then 1 else 0 from (if_pos ((tt_mem7 s1 p1 o1 hI).mpr (tt_cu0_mem hI (by omega) hb29))).symm) ?_
      exact kr _ _ _ _ hS dX4_holds_37
set_option maxHeartbeats 4000000 in
set_option maxRecDepth 100000 in
theorem c_X4_matches (l : Launch) (D : va_G) (cI cZ cO cC : ClassId) (ad : Nat → Nat) (cx : Nat → va_E) (n : Nat) (L : Nat → List tt_T3) (ch : Nat) (K : Nat → tt_KU) (hQ : tt_Q cI cZ ad cx n L ch K) (k j mk : Nat) (s1 p1 o1 : Int32) (hk : k < 3) (hj : j < (L k).length) (h700 : (L k).length ≤ 700) (hm : mk < 8) : tt_Pure l yX4_matches wsX4_matches ({ frames := 1, cells := 0, slots := 0, locals := 23 } : Room) D (tt_tys cI cZ cO cC) false (tt_blk 9 ad cx) [.ref (ad 0), .int (nI k), .int (nI j), .int (nI mk), .int s1, .int p1, .int o1] (if tt_mt mk s1 p1 o1 (tt_gt (L k) j) = true then 1 else 0) := by
  refine tt_pure (cc := cX4_matches) (maxL := 7) (rt := .boolean) (by decide) rfl (tt_nbi _) (Nat.le_of_ble_eq_true rfl) ?_
  intro p e s m below meth c Q ls hfix hK hP hE hl kr
  obtain ⟨hx, hb, hml, hown, hts⟩ := id hfix
  have hown : s.vm.findClass RX4 = some m.cls := hown
  have hfix : CallFix p m c cX4_matches 7 s ([.ref (ad 0), .int (nI k), .int (nI j), .int (nI mk), .int s1, .int p1, .int o1] : List Value).toArray wsX4_matches RX4 := hfix
  have hl : lv_has ls 7 [(0, .ref (ad 0)), (1, .int (nI k)), (2, .int (nI j)), (3, .int (nI mk)), (4, .int s1), (5, .int p1), (6, .int o1)] := hl
  have hS : va_S (fun _ => False) s.heap s.heap [] := va_S.rf
  obtain ⟨mt, f, me, ms, h9, hf⟩ := id hQ
  obtain ⟨ea1, ea2, ea4⟩ := tt_and mk hm
  refine lv_iload_n hx hb dX4_matches_0 rfl (lv_at hl 3 rfl) ?_
  refine lv_iconst (v := 1) hx hb dX4_matches_1 (by decide) ?_
  refine lv_iand hx hb dX4_matches_2 ?_
  refine lv_if_eq (tgt := 18) hx hb dX4_matches_3 (by decide) (fun hb3 => ?_) (fun hb3 => ?_)
  · refine lv_iload_n hx hb dX4_matches_18 rfl (lv_at hl 3 rfl) ?_
    refine lv_iconst (v := 2) hx hb dX4_matches_19 (by decide) ?_
    refine lv_iand hx hb dX4_matches_20 ?_
    refine lv_if_eq (tgt := 36) hx hb dX4_matches_21 (by decide) (fun hb21 => ?_) (fun hb21 => ?_)
    · refine lv_iload_n hx hb dX4_matches_36 rfl (lv_at hl 3 rfl) ?_
      refine lv_iconst (v := 4) hx hb dX4_matches_37 (by decide) ?_
      refine lv_iand hx hb dX4_matches_38 ?_
      refine lv_if_eq (tgt := 54) hx hb dX4_matches_39 (by decide) (fun hb39 => ?_) (fun hb39 => ?_)
      · refine lv_iconst (v := 1) hx hb dX4_matches_54 (by decide) ?_
        refine lv_goto (tgt := 59) hx hb dX4_matches_55 (by decide) ?_
        refine tt_rei (show 1 = if tt_mt mk s1 p1 o1 (tt_gt (L k) j) = true then 1 else 0 from by rw [tt_mt_if]; simp [← ea1, ← ea2, ← ea4, ← tt_pp0, ← tt_pp1, ← tt_pp2, hb3, hb21, hb39]) ?_
        exact kr _ _ _ _ hS dX4_matches_59
      · refine lv_aload_n hx hb dX4_matches_42 rfl (lv_at hl 0 rfl) ?_
        refine lv_iload_n hx hb dX4_matches_43 rfl (lv_at hl 1 rfl) ?_
        refine lv_iload_n hx hb dX4_matches_44 rfl (lv_at hl 2 rfl) ?_
        refine lv_iconst (v := 2) hx hb dX4_matches_45 (by decide) ?_
        have hPc := hP
        refine tt_calli (va_runV (As := [.int (nI k), .int (nI j), .int 2]) (rest := []) hfix (c_X4_cell l D cI cZ cO cC ad cx n L ch K hQ k j 2 hk hj (by omega) h700) (cwV 3 hts gX4_matches_X4_cell rfl rfl rfl (by decide +kernel) ⟨Nat.le_of_ble_eq_true rfl, Nat.le_of_ble_eq_true rfl⟩) (tt_preV (q0 := 0) (ci := 4) hK hPc tt_E.no (tt_bg (by omega) h9.1) rfl) rfl rfl hl.1 rfl (lv_room (Nat.le_of_ble_eq_true rfl)) dX4_matches_46 ⟨Nat.zero_le _, Nat.zero_le _⟩) hP hS (fun H locs hP hS => ?_)
        refine lv_iload hx hb dX4_matches_49 (lv_at hl 6 rfl) ?_
        refine lv_icmp_ne (tgt := 58) hx hb dX4_matches_51 (by decide) (fun hb51 => ?_) (fun hb51 => ?_)
        · refine lv_iconst (v := 0) hx hb dX4_matches_58 (by decide) ?_
          refine tt_rei (show 0 = if tt_mt mk s1 p1 o1 (tt_gt (L k) j) = true then 1 else 0 from by rw [tt_mt_if]; simp [← ea1, ← ea2, ← ea4, ← tt_pp0, ← tt_pp1, ← tt_pp2, hb3, hb21, hb39, hb51]) ?_
          exact kr _ _ _ _ hS dX4_matches_59
        · refine lv_iconst (v := 1) hx hb dX4_matches_54 (by decide) ?_
          refine lv_goto (tgt := 59) hx hb dX4_matches_55 (by decide) ?_
          refine tt_rei (show 1 = if tt_mt mk s1 p1 o1 (tt_gt (L k) j) = true then 1 else 0 from by rw [tt_mt_if]; simp [← ea1, ← ea2, ← ea4, ← tt_pp0, ← tt_pp1, ← tt_pp2, hb3, hb21, hb39, hb51]) ?_
          exact kr _ _ _ _ hS dX4_matches_59
    · refine lv_aload_n hx hb dX4_matches_24 rfl (lv_at hl 0 rfl) ?_
      refine lv_iload_n hx hb dX4_matches_25 rfl (lv_at hl 1 rfl) ?_
      refine lv_iload_n hx hb dX4_matches_26 rfl (lv_at hl 2 rfl) ?_
      refine lv_iconst (v := 1) hx hb dX4_matches_27 (by decide) ?_
      have hPc := hP
      refine tt_calli (va_runV (As := [.int (nI k), .int (nI j), .int 1]) (rest := []) hfix (c_X4_cell l D cI cZ cO cC ad cx n L ch K hQ k j 1 hk hj (by omega) h700) (cwV 3 hts gX4_matches_X4_cell rfl rfl rfl (by decide +kernel) ⟨Nat.le_of_ble_eq_true rfl, Nat.le_of_ble_eq_true rfl⟩) (tt_preV (q0 := 0) (ci := 4) hK hPc tt_E.no (tt_bg (by omega) h9.1) rfl) rfl rfl hl.1 rfl (lv_room (Nat.le_of_ble_eq_true rfl)) dX4_matches_28 ⟨Nat.zero_le _, Nat.zero_le _⟩) hP hS (fun H locs hP hS => ?_)
      refine lv_iload hx hb dX4_matches_31 (lv_at hl 5 rfl) ?_
      refine lv_icmp_ne (tgt := 58) hx hb dX4_matches_33 (by decide) (fun hb33 => ?_) (fun hb33 => ?_)
      · refine lv_iconst (v := 0) hx hb dX4_matches_58 (by decide) ?_
        refine tt_rei (show 0 = if tt_mt mk s1 p1 o1 (tt_gt (L k) j) = true then 1 else 0 from by rw [tt_mt_if]; simp [← ea1, ← ea2, ← ea4, ← tt_pp0, ← tt_pp1, ← tt_pp2, hb3, hb21, hb33]) ?_
        exact kr _ _ _ _ hS dX4_matches_59
      · refine lv_iload_n hx hb dX4_matches_36 rfl (lv_at hl 3 rfl) ?_
        refine lv_iconst (v := 4) hx hb dX4_matches_37 (by decide) ?_
        refine lv_iand hx hb dX4_matches_38 ?_
        refine lv_if_eq (tgt := 54) hx hb dX4_matches_39 (by decide) (fun hb39 => ?_) (fun hb39 => ?_)
        · refine lv_iconst (v := 1) hx hb dX4_matches_54 (by decide) ?_
          refine lv_goto (tgt := 59) hx hb dX4_matches_55 (by decide) ?_
          refine tt_rei (show 1 = if tt_mt mk s1 p1 o1 (tt_gt (L k) j) = true then 1 else 0 from by rw [tt_mt_if]; simp [← ea1, ← ea2, ← ea4, ← tt_pp0, ← tt_pp1, ← tt_pp2, hb3, hb21, hb33, hb39]) ?_
          exact kr _ _ _ _ hS dX4_matches_59
        · refine lv_aload_n hx hb dX4_matches_42 rfl (lv_at hl 0 rfl) ?_
          refine lv_iload_n hx hb dX4_matches_43 rfl (lv_at hl 1 rfl) ?_
          refine lv_iload_n hx hb dX4_matches_44 rfl (lv_at hl 2 rfl) ?_
          refine lv_iconst (v := 2) hx hb dX4_matches_45 (by decide) ?_
          have hPc := hP
          refine tt_calli (va_runV (As := [.int (nI k), .int (nI j), .int 2]) (rest := []) hfix (c_X4_cell l D cI cZ cO cC ad cx n L ch K hQ k j 2 hk hj (by omega) h700) (cwV 3 hts gX4_matches_X4_cell rfl rfl rfl (by decide +kernel) ⟨Nat.le_of_ble_eq_true rfl, Nat.le_of_ble_eq_true rfl⟩) (tt_preV (q0 := 0) (ci := 4) hK hPc tt_E.no (tt_bg (by omega) h9.1) rfl) rfl rfl hl.1 rfl (lv_room (Nat.le_of_ble_eq_true rfl)) dX4_matches_46 ⟨Nat.zero_le _, Nat.zero_le _⟩) hP hS (fun H locs hP hS => ?_)
          refine lv_iload hx hb dX4_matches_49 (lv_at hl 6 rfl) ?_
          refine lv_icmp_ne (tgt := 58) hx hb dX4_matches_51 (by decide) (fun hb51 => ?_) (fun hb51 => ?_)
          · refine lv_iconst (v := 0) hx hb dX4_matches_58 (by decide) ?_
            refine tt_rei (show 0 = if tt_mt mk s1 p1 o1 (tt_gt (L k) j) = true then 1 else 0 from by rw [tt_mt_if]; simp [← ea1, ← ea2, ← ea4, ← tt_pp0, ← tt_pp1, ← tt_pp2, hb3, hb21, hb33, hb39, hb51]) ?_
            exact kr _ _ _ _ hS dX4_matches_59
          · refine lv_iconst (v := 1) hx hb dX4_matches_54 (by decide) ?_
            refine lv_goto (tgt := 59) hx hb dX4_matches_55 (by decide) ?_
            refine tt_rei (show 1 = if tt_mt mk s1 p1 o1 (tt_gt (L k) j) = true then 1 else 0 from by rw [tt_mt_if]; simp [← ea1, ← ea2, ← ea4, ← tt_pp0, ← tt_pp1, ← tt_pp2, hb3, hb21, hb33, hb39, hb51]) ?_
            exact kr _ _ _ _ hS dX4_matches_59
  · refine lv_aload_n hx hb dX4_matches_6 rfl (lv_at hl 0 rfl) ?_
    refine lv_iload_n hx hb dX4_matches_7 rfl (lv_at hl 1 rfl) ?_
    refine lv_iload_n hx hb dX4_matches_8 rfl (lv_at hl 2 rfl) ?_
    refine lv_iconst (v := 0) hx hb dX4_matches_9 (by decide) ?_
    have hPc := hP
    refine tt_calli (va_runV (As := [.int (nI k), .int (nI j), .int 0]) (rest := []) hfix (c_X4_cell l D cI cZ cO cC ad cx n L ch K hQ k j 0 hk hj (by omega) h700) (cwV 3 hts gX4_matches_X4_cell rfl rfl rfl (by decide +kernel) ⟨Nat.le_of_ble_eq_true rfl, Nat.le_of_ble_eq_true rfl⟩) (tt_preV (q0 := 0) (ci := 4) hK hPc tt_E.no (tt_bg (by omega) h9.1) rfl) rfl rfl hl.1 rfl (lv_room (Nat.le_of_ble_eq_true rfl)) dX4_matches_10 ⟨Nat.zero_le _, Nat.zero_le _⟩) hP hS (fun H locs hP hS => ?_)
    refine lv_iload hx hb dX4_matches_13 (lv_at hl 4 rfl) ?_
    refine lv_icmp_ne (tgt := 58) hx hb dX4_matches_15 (by decide) (fun hb15 => ?_) (fun hb15 => ?_)
    · refine lv_iconst (v := 0) hx hb dX4_matches_58 (by decide) ?_
      refine tt_rei (show 0 = if tt_mt mk s1 p1 o1 (tt_gt (L k) j) = true then 1 else 0 from by rw [tt_mt_if]; simp [← ea1, ← ea2, ← ea4, ← tt_pp0, ← tt_pp1, ← tt_pp2, hb3, hb15]) ?_
      exact kr _ _ _ _ hS dX4_matches_59
    · refine lv_iload_n hx hb dX4_matches_18 rfl (lv_at hl 3 rfl) ?_
      refine lv_iconst (v := 2) hx hb dX4_matches_19 (by decide) ?_
      refine lv_iand hx hb dX4_matches_20 ?_
      refine lv_if_eq (tgt := 36) hx hb dX4_matches_21 (by decide) (fun hb21 => ?_) (fun hb21 => ?_)
      · refine lv_iload_n hx hb dX4_matches_36 rfl (lv_at hl 3 rfl) ?_
        refine lv_iconst (v := 4) hx hb dX4_matches_37 (by decide) ?_
        refine lv_iand hx hb dX4_matches_38 ?_
        refine lv_if_eq (tgt := 54) hx hb dX4_matches_39 (by decide) (fun hb39 => ?_) (fun hb39 => ?_)
        · refine lv_iconst (v := 1) hx hb dX4_matches_54 (by decide) ?_
          refine lv_goto (tgt := 59) hx hb dX4_matches_55 (by decide) ?_
          refine tt_rei (show 1 = if tt_mt mk s1 p1 o1 (tt_gt (L k) j) = true then 1 else 0 from by rw [tt_mt_if]; simp [← ea1, ← ea2, ← ea4, ← tt_pp0, ← tt_pp1, ← tt_pp2, hb3, hb15, hb21, hb39]) ?_
          exact kr _ _ _ _ hS dX4_matches_59
        · refine lv_aload_n hx hb dX4_matches_42 rfl (lv_at hl 0 rfl) ?_
          refine lv_iload_n hx hb dX4_matches_43 rfl (lv_at hl 1 rfl) ?_
          refine lv_iload_n hx hb dX4_matches_44 rfl (lv_at hl 2 rfl) ?_
          refine lv_iconst (v := 2) hx hb dX4_matches_45 (by decide) ?_
          have hPc := hP
          refine tt_calli (va_runV (As := [.int (nI k), .int (nI j), .int 2]) (rest := []) hfix (c_X4_cell l D cI cZ cO cC ad cx n L ch K hQ k j 2 hk hj (by omega) h700) (cwV 3 hts gX4_matches_X4_cell rfl rfl rfl (by decide +kernel) ⟨Nat.le_of_ble_eq_true rfl, Nat.le_of_ble_eq_true rfl⟩) (tt_preV (q0 := 0) (ci := 4) hK hPc tt_E.no (tt_bg (by omega) h9.1) rfl) rfl rfl hl.1 rfl (lv_room (Nat.le_of_ble_eq_true rfl)) dX4_matches_46 ⟨Nat.zero_le _, Nat.zero_le _⟩) hP hS (fun H locs hP hS => ?_)
          refine lv_iload hx hb dX4_matches_49 (lv_at hl 6 rfl) ?_
          refine lv_icmp_ne (tgt := 58) hx hb dX4_matches_51 (by decide) (fun hb51 => ?_) (fun hb51 => ?_)
          · refine lv_iconst (v := 0) hx hb dX4_matches_58 (by decide) ?_
            refine tt_rei (show 0 = if tt_mt mk s1 p1 o1 (tt_gt (L k) j) = true then 1 else 0 from by rw [tt_mt_if]; simp [← ea1, ← ea2, ← ea4, ← tt_pp0, ← tt_pp1, ← tt_pp2, hb3, hb15, hb21, hb39, hb51]) ?_
            exact kr _ _ _ _ hS dX4_matches_59
          · refine lv_iconst (v := 1) hx hb dX4_matches_54 (by decide) ?_
            refine lv_goto (tgt := 59) hx hb dX4_matches_55 (by decide) ?_
            refine tt_rei (show 1 = if tt_mt mk s1 p1 o1 (tt_gt (L k) j) = true then 1 else 0 from by rw [tt_mt_if]; simp [← ea1, ← ea2, ← ea4, ← tt_pp0, ← tt_pp1, ← tt_pp2, hb3, hb15, hb21, hb39, hb51]) ?_
            exact kr _ _ _ _ hS dX4_matches_59
      · refine lv_aload_n hx hb dX4_matches_24 rfl (lv_at hl 0 rfl) ?_
        refine lv_iload_n hx hb dX4_matches_25 rfl (lv_at hl 1 rfl) ?_
        refine lv_iload_n hx hb dX4_matches_26 rfl (lv_at hl 2 rfl) ?_
        refine lv_iconst (v := 1) hx hb dX4_matches_27 (by decide) ?_
        have hPc := hP
        refine tt_calli (va_runV (As := [.int (nI k), .int (nI j), .int 1]) (rest := []) hfix (c_X4_cell l D cI cZ cO cC ad cx n L ch K hQ k j 1 hk hj (by omega) h700) (cwV 3 hts gX4_matches_X4_cell rfl rfl rfl (by decide +kernel) ⟨Nat.le_of_ble_eq_true rfl, Nat.le_of_ble_eq_true rfl⟩) (tt_preV (q0 := 0) (ci := 4) hK hPc tt_E.no (tt_bg (by omega) h9.1) rfl) rfl rfl hl.1 rfl (lv_room (Nat.le_of_ble_eq_true rfl)) dX4_matches_28 ⟨Nat.zero_le _, Nat.zero_le _⟩) hP hS (fun H locs hP hS => ?_)
        refine lv_iload hx hb dX4_matches_31 (lv_at hl 5 rfl) ?_
        refine lv_icmp_ne (tgt := 58) hx hb dX4_matches_33 (by decide) (fun hb33 => ?_) (fun hb33 => ?_)
        · refine lv_iconst (v := 0) hx hb dX4_matches_58 (by decide) ?_
          refine tt_rei (show 0 = if tt_mt mk s1 p1 o1 (tt_gt (L k) j) = true then 1 else 0 from by rw [tt_mt_if]; simp [← ea1, ← ea2, ← ea4, ← tt_pp0, ← tt_pp1, ← tt_pp2, hb3, hb15, hb21, hb33]) ?_
          exact kr _ _ _ _ hS dX4_matches_59
        · refine lv_iload_n hx hb dX4_matches_36 rfl (lv_at hl 3 rfl) ?_
          refine lv_iconst (v := 4) hx hb dX4_matches_37 (by decide) ?_
          refine lv_iand hx hb dX4_matches_38 ?_
          refine lv_if_eq (tgt := 54) hx hb dX4_matches_39 (by decide) (fun hb39 => ?_) (fun hb39 => ?_)
          · refine lv_iconst (v := 1) hx hb dX4_matches_54 (by decide) ?_
            refine lv_goto (tgt := 59) hx hb dX4_matches_55 (by decide) ?_
            refine tt_rei (show 1 = if tt_mt mk s1 p1 o1 (tt_gt (L k) j) = true then 1 else 0 from by rw [tt_mt_if]; simp [← ea1, ← ea2, ← ea4, ← tt_pp0, ← tt_pp1, ← tt_pp2, hb3, hb15, hb21, hb33, hb39]) ?_
            exact kr _ _ _ _ hS dX4_matches_59
          · refine lv_aload_n hx hb dX4_matches_42 rfl (lv_at hl 0 rfl) ?_
            refine lv_iload_n hx hb dX4_matches_43 rfl (lv_at hl 1 rfl) ?_
            refine lv_iload_n hx hb dX4_matches_44 rfl (lv_at hl 2 rfl) ?_
            refine lv_iconst (v := 2) hx hb dX4_matches_45 (by decide) ?_
            have hPc := hP
            refine tt_calli (va_runV (As := [.int (nI k), .int (nI j), .int 2]) (rest := []) hfix (c_X4_cell l D cI cZ cO cC ad cx n L ch K hQ k j 2 hk hj (by omega) h700) (cwV 3 hts gX4_matches_X4_cell rfl rfl rfl (by decide +kernel) ⟨Nat.le_of_ble_eq_true rfl, Nat.le_of_ble_eq_true rfl⟩) (tt_preV (q0 := 0) (ci := 4) hK hPc tt_E.no (tt_bg (by omega) h9.1) rfl) rfl rfl hl.1 rfl (lv_room (Nat.le_of_ble_eq_true rfl)) dX4_matches_46 ⟨Nat.zero_le _, Nat.zero_le _⟩) hP hS (fun H locs hP hS => ?_)
            refine lv_iload hx hb dX4_matches_49 (lv_at hl 6 rfl) ?_
            refine lv_icmp_ne (tgt := 58) hx hb dX4_matches_51 (by decide) (fun hb51 => ?_) (fun hb51 => ?_)
            · refine lv_iconst (v := 0) hx hb dX4_matches_58 (by decide) ?_
              refine tt_rei (show 0 = if tt_mt mk s1 p1 o1 (tt_gt (L k) j) = true then 1 else 0 from by rw [tt_mt_if]; simp [← ea1, ← ea2, ← ea4, ← tt_pp0, ← tt_pp1, ← tt_pp2, hb3, hb15, hb21, hb33, hb39, hb51]) ?_
              exact kr _ _ _ _ hS dX4_matches_59
            · refine lv_iconst (v := 1) hx hb dX4_matches_54 (by decide) ?_
              refine lv_goto (tgt := 59) hx hb dX4_matches_55 (by decide) ?_
              refine tt_rei (show 1 = if tt_mt mk s1 p1 o1 (tt_gt (L k) j) = true then 1 else 0 from by rw [tt_mt_if]; simp [← ea1, ← ea2, ← ea4, ← tt_pp0, ← tt_pp1, ← tt_pp2, hb3, hb15, hb21, hb33, hb39, hb51]) ?_
              exact kr _ _ _ _ hS dX4_matches_59
set_option maxHeartbeats 4000000 in
set_option maxRecDepth 100000 in
theorem c_X4_isCursor (l : Launch) (D : va_G) (cI cZ cO cC : ClassId) (ad : Nat → Nat) (cx : Nat → va_E) (n : Nat) (L : Nat → List tt_T3) (ch : Nat) (K : Nat → tt_KU) (hQ : tt_Q cI cZ ad cx n L ch K) (c1 : Int32) : tt_Pure l yX4_isCursor wsX4_isCursor ({ frames := 0, cells := 0, slots := 0, locals := 0 } : Room) D (tt_tys cI cZ cO cC) false (tt_blk 9 ad cx) [.ref (ad 0), .int c1] (if tt_ok K c1 then 1 else 0) := by
  refine tt_pure (cc := cX4_isCursor) (maxL := 2) (rt := .boolean) (by decide) rfl (tt_nbi _) (Nat.le_of_ble_eq_true rfl) ?_
  intro p e s m below meth c Q ls hfix hK hP hE hl kr
  obtain ⟨hx, hb, hml, hown, hts⟩ := id hfix
  have hown : s.vm.findClass RX4 = some m.cls := hown
  have hfix : CallFix p m c cX4_isCursor 2 s ([.ref (ad 0), .int c1] : List Value).toArray wsX4_isCursor RX4 := hfix
  have hl : lv_has ls 2 [(0, .ref (ad 0)), (1, .int c1)] := hl
  have hf13 := hts (.fieldLink RX4 13 "TripleTreesModel" "isOpen" "[Z") (by decide +kernel)
  have hinX4 : ∀ w ∈ u_ws RX4 TX4 11, w ∈ wsX4_isCursor := by decide +kernel
  have hS : va_S (fun _ => False) s.heap s.heap [] := va_S.rf
  obtain ⟨mt, f, me, ms, h9, hf⟩ := id hQ
  refine lv_iload_n hx hb dX4_isCursor_0 rfl (lv_at hl 1 rfl) ?_
  refine lv_if_lt (tgt := 23) hx hb dX4_isCursor_1 (by decide) (fun hb1 => ?_) (fun hb1 => ?_)
  · refine lv_iconst (v := 0) hx hb dX4_isCursor_23 (by decide) ?_
    refine tt_rei (show (0 : Int32) = if tt_ok K c1 then 1 else 0 from (if_neg (fun q => by first | exact q.1 hb1 | exact q.2.1 hb7)).symm) ?_
    exact kr _ _ _ _ hS dX4_isCursor_24
  · refine lv_iload_n hx hb dX4_isCursor_4 rfl (lv_at hl 1 rfl) ?_
    refine lv_bipush (v := 8) hx hb dX4_isCursor_5 (by decide) ?_
    refine lv_icmp_ge (tgt := 23) hx hb dX4_isCursor_7 (by decide) (fun hb7 => ?_) (fun hb7 => ?_)
    · refine lv_iconst (v := 0) hx hb dX4_isCursor_23 (by decide) ?_
      refine tt_rei (show (0 : Int32) = if tt_ok K c1 then 1 else 0 from (if_neg (fun q => by first | exact q.1 hb1 | exact q.2.1 hb7)).symm) ?_
      exact kr _ _ _ _ hS dX4_isCursor_24
    · obtain ⟨j, hj, e1⟩ : ∃ j : Nat, j < 8 ∧ c1 = nI j := tt_ix (n := 8) (by omega) hb1 hb7
      subst e1
      refine lv_aload_n hx hb dX4_isCursor_10 rfl (lv_at hl 0 rfl) ?_
      refine va_get (D := D) (ci := 4) (v := .ref (ad 2)) (C := RX4) (T := TX4) (N := 11) hx hb hts hinX4 hown hK hP 0 (tt_bg (by omega) h9.1) rfl 3 (by decide) hf13 (fun _ h9 => h9) rfl dX4_isCursor_11 ?_
      refine lv_iload_n hx hb dX4_isCursor_14 rfl (lv_at hl 1 rfl) ?_
      refine va_zald hx hb hK hP 2 1 (tt_bg (by omega) h9.2.2.1) rfl (vp_in_nI (n := j) (by omega) (by omega)) dX4_isCursor_15 ?_
      refine tt_rei (show ((fun j => tt_b (K j).1) (nI j).toNatClampNeg) = tt_b (K j).1 from congrArg (fun j => tt_b (K j).1) (nI_clamp (n := j) (by omega))) ?_
      refine lv_if_eq (tgt := 23) hx hb dX4_isCursor_16 (by decide) (fun hb16 => ?_) (fun hb16 => ?_)
      · refine lv_iconst (v := 0) hx hb dX4_isCursor_23 (by decide) ?_
        refine tt_rei (show (0 : Int32) = if tt_ok K (nI j) then 1 else 0 from (if_neg (fun h9 => by rw [tt_ok_in hj] at h9; rw [h9] at hb16; exact absurd hb16 (by decide))).symm) ?_
        exact kr _ _ _ _ hS dX4_isCursor_24
      · refine lv_iconst (v := 1) hx hb dX4_isCursor_19 (by decide) ?_
        refine lv_goto (tgt := 24) hx hb dX4_isCursor_20 (by decide) ?_
        refine tt_rei (show (1 : Int32) = if tt_ok K (nI j) then 1 else 0 from (if_pos ((tt_ok_in hj).mpr (tt_b1 hb16))).symm) ?_
        exact kr _ _ _ _ hS dX4_isCursor_24

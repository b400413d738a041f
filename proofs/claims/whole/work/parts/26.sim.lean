/-! own rows: the class and the reference side by side -/
/-- a cursor of the class and one of the reference tell the same -/
def tt_SC (u : tt_CU) (v : tt_KU) (L : Nat → List tt_T3) (ch : Nat) : Prop :=
  u.1 = v.1 ∧ (v.1 = true → ((v.2.1 = true ↔ ¬ u.2.2.2.1 = ch) ∧ (v.2.1 = false → u.2.2.1 = tt_o v.2.2.1 ∧ u.2.2.2.2.2 = tt_en v.2.2.1 v.2.2.2.1 v.2.2.2.2.1 v.2.2.2.2.2.1 L ∧
    ((u.2.1 = true ∧ v.2.2.2.2.2.2 = u.2.2.2.2.1 ∧ tt_st v.2.2.1 v.2.2.2.1 v.2.2.2.2.1 v.2.2.2.2.2.1 L < u.2.2.2.2.1 ∧ u.2.2.2.2.1 ≤ u.2.2.2.2.2) ∨
     (u.2.1 = false ∧ v.2.2.2.2.2.2 = 0 ∧ u.2.2.2.2.1 = tt_st v.2.2.1 v.2.2.2.1 v.2.2.2.2.1 v.2.2.2.2.2.1 L) ∨
     (u.2.1 = false ∧ v.2.2.2.2.2.2 = (L 0).length + 1 ∧ u.2.2.2.2.1 = u.2.2.2.2.2)))))
/-- behind at most cnt calls -/
def tt_SM (L : Nat → List tt_T3) (ch : Nat) (C : Nat → tt_CU) (K : Nat → tt_KU) (cnt : Nat) : Prop := tt_I L ∧ (L 0).length + ch ≤ 2 * cnt ∧ (L 0).length ≤ cnt ∧ tt_CI C ch ∧ tt_KI K (L 0).length ∧ ∀ j, j < 8 → tt_SC (C j) (K j) L ch
theorem tt_SC_congr {u : tt_CU} {v : tt_KU} {L L' : Nat → List tt_T3} {ch : Nat} (h : tt_SC u v L ch) (e : ∀ k, k < 3 → L' k = L k) : tt_SC u v L' ch := by
  have e1 : ∀ (mk : Nat) (s p o : Int32), tt_st mk s p o L' = tt_st mk s p o L := fun mk s p o => by unfold tt_st; rw [e _ (tt_o_lt mk)]
  have e2 : ∀ (mk : Nat) (s p o : Int32), tt_en mk s p o L' = tt_en mk s p o L := fun mk s p o => by unfold tt_en; rw [e _ (tt_o_lt mk)]
  unfold tt_SC
  rw [e1, e2, e 0 (by omega)]
  exact h
theorem tt_SM_congr {L L' : Nat → List tt_T3} {ch cnt : Nat} {C : Nat → tt_CU} {K : Nat → tt_KU} (h : tt_SM L ch C K cnt) (e : ∀ k, k < 3 → L' k = L k) : tt_SM L' ch C K cnt := by
  obtain ⟨h1, h2, h3, h4, h5, h6⟩ := h
  refine ⟨fun k hk => ?_, by rw [e 0 (by omega)]; exact h2, by rw [e 0 (by omega)]; exact h3, h4, by rw [e 0 (by omega)]; exact h5, fun j hj => tt_SC_congr (h6 j hj) e⟩
  rw [e k hk, e 0 (by omega)]
  exact h1 k hk
theorem tt_SM_more {L : Nat → List tt_T3} {ch cnt cnt' : Nat} {C : Nat → tt_CU} {K : Nat → tt_KU} (h : tt_SM L ch C K cnt) (hc : cnt ≤ cnt') : tt_SM L ch C K cnt' := by
  obtain ⟨h1, h2, h3, h4, h5, h6⟩ := h
  exact ⟨h1, by omega, by omega, h4, h5, h6⟩
/-- the set changes: every open cursor is stale -/
theorem tt_SC_change {u : tt_CU} {K : Nat → tt_KU} {j : Nat} (hj : j < 8) {L L' : Nat → List tt_T3} {ch ch' : Nat} (h : tt_SC u (K j) L ch) (ho : u.2.2.2.1 ≤ ch) (hc : ch < ch') : tt_SC u (tt_ks K j) L' ch' := by
  have e : tt_ks K j = ((K j).1, (K j).1, (K j).2.2) := if_pos hj
  unfold tt_SC
  rw [e]
  refine ⟨h.1, fun h1 => ⟨⟨fun _ => by omega, fun _ => h1⟩, fun h2 => ?_⟩⟩
  have h1 : (K j).1 = true := h1
  rw [h1] at h2
  cases h2
theorem tt_CI_more {C : Nat → tt_CU} {ch ch' : Nat} (h : tt_CI C ch) (hc : ch ≤ ch') : tt_CI C ch' := fun j hj => by
  obtain ⟨h1, h2, h3⟩ := h j hj
  exact ⟨h1, by omega, h3⟩
theorem tt_KI_ks {K : Nat → tt_KU} {n n' : Nat} (h : tt_KI K n) : tt_KI (tt_ks K) n' := fun j hj => by
  rw [tt_ks_2]
  obtain ⟨h1, h2⟩ := h j hj
  exact ⟨h1, by omega⟩
theorem tt_SM_change {L L' : Nat → List tt_T3} {ch ch' cnt cnt' : Nat} {C : Nat → tt_CU} {K : Nat → tt_KU} (h : tt_SM L ch C K cnt) (hI : tt_I L') (hc : ch < ch') (h1 : (L' 0).length + ch' ≤ 2 * cnt') (h2 : (L' 0).length ≤ cnt') : tt_SM L' ch' C (tt_ks K) cnt' := by
  obtain ⟨-, -, -, q4, q5, q6⟩ := h
  exact ⟨hI, h1, h2, tt_CI_more q4 (by omega), tt_KI_ks q5, fun j hj => tt_SC_change hj (q6 j hj) (q4 j hj).2.1 hc⟩
theorem tt_SM_add {L : Nat → List tt_T3} {ch cnt : Nat} {C : Nat → tt_CU} {K : Nat → tt_KU} (h : tt_SM L ch C K cnt) (hc : cnt < 700) {s p o : Int32} (hn : ¬ 0 < tt_mn 7 s p o L) : tt_SM (tt_La (s, p, o) L) (ch + 1) C (tt_ks K) (cnt + 1) := by
  have hI := h.1
  have hl : (tt_La (s, p, o) L 0).length = (L 0).length + 1 := tt_ins_len 0 _ _
  have h2 := h.2.1
  have h3 := h.2.2.1
  exact tt_SM_change h (tt_I_add hI (fun q => hn ((tt_mem7 s p o hI).mpr q)) (by omega)) (by omega) (by omega) (by omega)
theorem tt_Lr7 (s p o : Int32) (L : Nat → List tt_T3) (k : Nat) : tt_Lr 7 s p o L k = tt_Ld (s, p, o) L k := by
  unfold tt_Lr tt_Ld tt_del
  apply List.filter_congr
  intro u _
  by_cases e : u = (s, p, o)
  · rw [tt_mt7.mpr e]
    simp [e]
  · have : tt_mt 7 s p o u = false := by
      cases hc : tt_mt 7 s p o u
      · rfl
      · exact absurd (tt_mt7.mp hc) e
    simp [this, e]
theorem tt_Lr_0 {mk : Nat} (hm : mk < 8) {s p o : Int32} {L : Nat → List tt_T3} (hI : tt_I L) (h : ¬ 0 < tt_mn mk s p o L) {k : Nat} (hk : k < 3) : tt_Lr mk s p o L k = L k := by
  unfold tt_Lr
  refine List.filter_eq_self.mpr (fun u hu => ?_)
  cases hc : tt_mt mk s p o u
  · rfl
  · refine absurd ?_ h
    rw [tt_mn_count hm s p o hI, List.countP_pos_iff]
    exact ⟨u, (hI k hk).2.1.mem_iff.mp hu, hc⟩
theorem tt_Lr_len {mk : Nat} (hm : mk < 8) (s p o : Int32) {L : Nat → List tt_T3} (hI : tt_I L) : (tt_Lr mk s p o L 0).length + tt_mn mk s p o L = (L 0).length := by
  rw [tt_mn_count hm s p o hI]
  unfold tt_Lr
  rw [← List.countP_eq_length_filter]
  have := List.length_eq_countP_add_countP (p := tt_mt mk s p o) (l := L 0)
  have e : (L 0).countP (fun u => !tt_mt mk s p o u) = (L 0).countP (fun u => decide ¬ tt_mt mk s p o u = true) := by
    apply List.countP_congr
    intro u _
    cases tt_mt mk s p o u <;> simp
  rw [e]
  omega
theorem tt_mn7_le {s p o : Int32} {L : Nat → List tt_T3} (hI : tt_I L) : tt_mn 7 s p o L ≤ 1 := by
  by_cases h : 0 < tt_mn 7 s p o L
  · have h1 := tt_Lr_len (mk := 7) (by omega) s p o hI
    have hm := (tt_mem7 s p o hI).mp h
    rw [tt_Lr7] at h1
    obtain ⟨h2, h3⟩ := tt_pos_mem (hI 0 (by omega)).1 hm
    have h4 := tt_del_len (tt_I_nd hI (by omega)) h2
    rw [h3] at h4
    have h5 : (tt_Ld (s, p, o) L 0).length = (L 0).length - 1 := h4
    omega
  · omega
theorem tt_SM_rem {L : Nat → List tt_T3} {ch cnt mk : Nat} {C : Nat → tt_CU} {K : Nat → tt_KU} (hm : mk < 8) {s p o : Int32} (h : tt_SM L ch C K cnt) : tt_SM (tt_Lr mk s p o L) (ch + tt_mn mk s p o L) C (tt_kc K (tt_mn mk s p o L)) cnt := by
  have hI := h.1
  have hln := tt_Lr_len hm s p o hI
  by_cases h0 : 0 < tt_mn mk s p o L
  · have e : tt_kc K (tt_mn mk s p o L) = tt_ks K := if_neg (by omega)
    rw [e]
    have h2 := h.2.1
    have h3 := h.2.2.1
    exact tt_SM_change h (tt_I_filter hI _) (by omega) (by omega) (by omega)
  · have e0 : tt_mn mk s p o L = 0 := by omega
    rw [e0]
    exact tt_SM_congr h (fun k hk => tt_Lr_0 hm hI h0 hk)
/-- the least closed cursor -/
theorem tt_fc_ex (C : Nat → tt_CU) : ∃ q, tt_fc C q := by
  have key : ∀ d q, d + q = 8 → (∀ i, i < q → (C i).1 = true) → ∃ q, tt_fc C q := by
    intro d
    induction d with
    | zero => exact fun q hq h => ⟨q, by omega, h, fun h8 => by omega⟩
    | succ d ih =>
      intro q hq h
      cases hc : (C q).1
      · exact ⟨q, by omega, h, fun _ => hc⟩
      · refine ih (q + 1) (by omega) (fun i hi => ?_)
        by_cases e : i = q
        · rw [e]; exact hc
        · exact h i (by omega)
  exact key 8 0 rfl (fun i hi => absurd hi (by omega))
theorem tt_fc_fk {L : Nat → List tt_T3} {ch cnt q : Nat} {C : Nat → tt_CU} {K : Nat → tt_KU} (h : tt_SM L ch C K cnt) (hq : tt_fc C q) : tt_fk K q := by
  have h6 := h.2.2.2.2.2
  exact ⟨hq.1, fun i hi => by rw [← (h6 i (by have := hq.1; omega)).1]; exact hq.2.1 i hi, fun h8 => by rw [← (h6 q h8).1]; exact hq.2.2 h8⟩
theorem tt_op_ok {L : Nat → List tt_T3} {ch cnt : Nat} {C : Nat → tt_CU} {K : Nat → tt_KU} (h : tt_SM L ch C K cnt) (c : Int32) : tt_op C c ↔ tt_ok K c := by
  by_cases h1 : c < 0
  · exact ⟨fun q => absurd h1 q.1, fun q => absurd h1 q.1⟩
  · by_cases h2 : (8 : Int32) ≤ c
    · exact ⟨fun q => absurd h2 q.2.1, fun q => absurd h2 q.2.1⟩
    · obtain ⟨j, hj, e⟩ := tt_ix (n := 8) (by omega) h1 h2
      subst e
      rw [tt_op_in hj, tt_ok_in hj, (h.2.2.2.2.2 j hj).1]
theorem tt_SM_up {L : Nat → List tt_T3} {ch cnt q : Nat} {C : Nat → tt_CU} {K : Nat → tt_KU} (h : tt_SM L ch C K cnt) {u : tt_CU} {v : tt_KU} (hu : u.2.2.1 < 3 ∧ u.2.2.2.1 ≤ ch ∧ u.2.2.2.2.1 ≤ 700 ∧ u.2.2.2.2.2 ≤ 700 ∧ (u.2.1 = true → 1 ≤ u.2.2.2.2.1)) (hv : v.2.2.1 < 8 ∧ v.2.2.2.2.2.2 ≤ 702) (hs : tt_SC u v L ch) : tt_SM L ch (va_up C q u) (va_up K q v) cnt := by
  obtain ⟨h1, h2, h3, h4, h5, h6⟩ := h
  refine ⟨h1, h2, h3, fun j hj => ?_, fun j hj => ?_, fun j hj => ?_⟩
  · by_cases e : j = q
    · rw [e, va_up_self]; exact hu
    · rw [va_up_ne _ _ e]; exact h4 j hj
  · by_cases e : j = q
    · rw [e, va_up_self]; exact ⟨hv.1, by omega⟩
    · rw [va_up_ne _ _ e]; exact h5 j hj
  · by_cases e : j = q
    · rw [e, va_up_self, va_up_self]; exact hs
    · rw [va_up_ne _ _ e, va_up_ne _ _ e]; exact h6 j hj
theorem tt_SM_open {L : Nat → List tt_T3} {ch cnt q mk : Nat} {C : Nat → tt_CU} {K : Nat → tt_KU} (h : tt_SM L ch C K cnt) (hm : mk < 8) (s p o : Int32) : tt_SM L ch (va_up C q (true, false, tt_o mk, ch, tt_st mk s p o L, tt_en mk s p o L)) (va_up K q (true, false, mk, s, p, o, 0)) cnt := by
  have hse := tt_st_en mk s p o L
  have hel := tt_en_le mk s p o h.1
  refine tt_SM_up h ⟨tt_o_lt mk, Nat.le_refl _, by dsimp only; omega, by dsimp only; omega, fun h => by cases h⟩ ⟨hm, Nat.zero_le _⟩ ⟨rfl, fun _ => ⟨⟨fun h => (by cases h), fun h => absurd rfl h⟩, fun _ => ⟨rfl, rfl, Or.inr (Or.inl ⟨rfl, rfl, rfl⟩)⟩⟩⟩
theorem tt_SM_close {L : Nat → List tt_T3} {ch cnt q : Nat} {C : Nat → tt_CU} {K : Nat → tt_KU} (h : tt_SM L ch C K cnt) (hq : q < 8) : tt_SM L ch (va_up C q (false, (C q).2)) (va_up K q (false, false, (K q).2.2)) cnt := by
  have h4 := h.2.2.2.1 q hq
  have h5 := h.2.2.2.2.1 q hq
  exact tt_SM_up h h4 ⟨h5.1, by have := h5.2; dsimp only; omega⟩ ⟨rfl, fun h => by cases h⟩
theorem tt_sc_eq {good : Nat → Bool} : ∀ (d k r : Nat), k ≤ r → r ≤ k + d → (∀ y, k ≤ y → y < r → ¬ good y = true) → (r < k + d → good r = true) → tt_sc good k d = r
  | 0, k, r, h1, h2, _, _ => by
    show k = r
    omega
  | d + 1, k, r, h1, h2, h3, h4 => by
    by_cases e : k = r
    · subst e
      exact tt_sc_1 (h4 (by omega))
    · rw [tt_sc_0 (h3 k (Nat.le_refl _) (by omega))]
      exact tt_sc_eq d (k + 1) r (by omega) (by omega) (fun y q1 q2 => h3 y (by omega) q2) (fun q => h4 (by omega))
/-- where the reference's cursor comes to, out of the class's numbers; pl: the first place that may be taken -/
theorem tt_nx_eq {L : Nat → List tt_T3} {ch n pl : Nat} {u : tt_CU} {v : tt_KU} {tl : Bool} {s p o : Int32} (hI : tt_I L) (hn : n = (L 0).length) (hm : v.2.2.1 < 8) (hs : tt_SC u v L ch) (h1 : v.1 = true) (h2 : v.2.1 = false) (hg : ∀ y, y < n → (tt_gd v (L (tt_o v.2.2.1)) tl s p o y = true ↔ (tt_st v.2.2.1 v.2.2.2.1 v.2.2.2.2.1 v.2.2.2.2.2.1 L ≤ y ∧ y < tt_en v.2.2.1 v.2.2.2.1 v.2.2.2.2.1 v.2.2.2.2.2.1 L ∧ pl ≤ y))) : tt_nx v L n tl s p o = if max u.2.2.2.2.1 pl < u.2.2.2.2.2 then max u.2.2.2.2.1 pl else n := by
  obtain ⟨-, h3⟩ := hs
  obtain ⟨-, h4⟩ := h3 h1
  obtain ⟨q1, q2, q3⟩ := h4 h2
  have hse := tt_st_en v.2.2.1 v.2.2.2.1 v.2.2.2.2.1 v.2.2.2.2.2.1 L
  have hel := (tt_en_le v.2.2.1 v.2.2.2.1 v.2.2.2.2.1 v.2.2.2.2.2.1 hI).1
  have hlk : (L (tt_o v.2.2.1)).length = n := (hI _ (tt_o_lt _)).2.1.length_eq.trans hn.symm
  rw [← q2] at hel hse hg
  have hk0 := tt_k0_le v n
  have hk1 : v.2.2.2.2.2.2 ≤ n → tt_k0 v n = v.2.2.2.2.2.2 := fun h => if_pos h
  have hk2 : ¬ v.2.2.2.2.2.2 ≤ n → tt_k0 v n = n := fun h => if_neg h
  unfold tt_nx
  by_cases hc : max u.2.2.2.2.1 pl < u.2.2.2.2.2
  · rw [if_pos hc]
    refine tt_sc_eq _ _ _ ?_ (by omega) (fun y y1 y2 y3 => ?_) (fun q => (hg _ (by omega)).mpr ⟨by omega, hc, by omega⟩)
    · rcases q3 with ⟨-, a, b, d⟩ | ⟨-, a, b⟩ | ⟨-, a, b⟩ <;> omega
    · have y4 := (hg y (by omega)).mp y3
      rcases q3 with ⟨-, a, b, d⟩ | ⟨-, a, b⟩ | ⟨-, a, b⟩ <;> omega
  · rw [if_neg hc]
    refine tt_sc_eq _ _ _ hk0 (by omega) (fun y y1 y2 y3 => ?_) (fun q => by omega)
    have y4 := (hg y y2).mp y3
    rcases q3 with ⟨-, a, b, d⟩ | ⟨-, a, b⟩ | ⟨-, a, b⟩ <;> omega
theorem tt_SC_go {L : Nat → List tt_T3} {ch n pl : Nat} {u : tt_CU} {v : tt_KU} (hI : tt_I L) (hn : n = (L 0).length) (hs : tt_SC u v L ch) (h1 : v.1 = true) (h2 : v.2.1 = false) : tt_SC (tt_gn (tt_sk u pl)) (tt_kg v (if max u.2.2.2.2.1 pl < u.2.2.2.2.2 then max u.2.2.2.2.1 pl else n)) L ch ∧ tt_gr (tt_sk u pl) = (if (if max u.2.2.2.2.1 pl < u.2.2.2.2.2 then max u.2.2.2.2.1 pl else n) < n then 1 else 0) ∧ (if max u.2.2.2.2.1 pl < u.2.2.2.2.2 then max u.2.2.2.2.1 pl else n) ≤ n := by
  obtain ⟨h0, h3⟩ := hs
  obtain ⟨hst, h4⟩ := h3 h1
  obtain ⟨q1, q2, q3⟩ := h4 h2
  have hse := tt_st_en v.2.2.1 v.2.2.2.1 v.2.2.2.2.1 v.2.2.2.2.2.1 L
  have hel := (tt_en_le v.2.2.1 v.2.2.2.1 v.2.2.2.2.1 v.2.2.2.2.2.1 hI).1
  have hlk : (L (tt_o v.2.2.1)).length = n := (hI _ (tt_o_lt _)).2.1.length_eq.trans hn.symm
  rw [← q2] at hel hse
  have hst1 : tt_st v.2.2.1 v.2.2.2.1 v.2.2.2.2.1 v.2.2.2.2.2.1 L ≤ u.2.2.2.2.1 ∧ u.2.2.2.2.1 ≤ u.2.2.2.2.2 := by rcases q3 with ⟨-, a, b, d⟩ | ⟨-, a, b⟩ | ⟨-, a, b⟩ <;> omega
  by_cases hc : max u.2.2.2.2.1 pl < u.2.2.2.2.2
  · have hmin : min (max u.2.2.2.2.1 pl) u.2.2.2.2.2 = max u.2.2.2.2.1 pl := by omega
    rw [if_pos hc]
    refine ⟨⟨h0, fun _ => ⟨hst, fun _ => ⟨q1, q2, Or.inl ⟨?_, ?_, ?_, ?_⟩⟩⟩⟩, ?_, by omega⟩
    · show decide (min (max u.2.2.2.2.1 pl) u.2.2.2.2.2 < u.2.2.2.2.2) = true
      exact decide_eq_true (by omega)
    · show max u.2.2.2.2.1 pl + 1 = (if min (max u.2.2.2.2.1 pl) u.2.2.2.2.2 < u.2.2.2.2.2 then min (max u.2.2.2.2.1 pl) u.2.2.2.2.2 + 1 else min (max u.2.2.2.2.1 pl) u.2.2.2.2.2)
      rw [if_pos (by omega), hmin]
    · show tt_st v.2.2.1 v.2.2.2.1 v.2.2.2.2.1 v.2.2.2.2.2.1 L < (if min (max u.2.2.2.2.1 pl) u.2.2.2.2.2 < u.2.2.2.2.2 then min (max u.2.2.2.2.1 pl) u.2.2.2.2.2 + 1 else min (max u.2.2.2.2.1 pl) u.2.2.2.2.2)
      rw [if_pos (by omega)]
      omega
    · show (if min (max u.2.2.2.2.1 pl) u.2.2.2.2.2 < u.2.2.2.2.2 then min (max u.2.2.2.2.1 pl) u.2.2.2.2.2 + 1 else min (max u.2.2.2.2.1 pl) u.2.2.2.2.2) ≤ u.2.2.2.2.2
      rw [if_pos (by omega)]
      omega
    · show (if min (max u.2.2.2.2.1 pl) u.2.2.2.2.2 < u.2.2.2.2.2 then (1 : Int32) else 0) = _
      rw [if_pos (by omega), if_pos (by omega)]
  · have hmin : min (max u.2.2.2.2.1 pl) u.2.2.2.2.2 = u.2.2.2.2.2 := by omega
    rw [if_neg hc]
    refine ⟨⟨h0, fun _ => ⟨hst, fun _ => ⟨q1, q2, Or.inr (Or.inr ⟨?_, ?_, ?_⟩)⟩⟩⟩, ?_, by omega⟩
    · show decide (min (max u.2.2.2.2.1 pl) u.2.2.2.2.2 < u.2.2.2.2.2) = false
      exact decide_eq_false (by omega)
    · show n + 1 = (L 0).length + 1
      omega
    · show (if min (max u.2.2.2.2.1 pl) u.2.2.2.2.2 < u.2.2.2.2.2 then min (max u.2.2.2.2.1 pl) u.2.2.2.2.2 + 1 else min (max u.2.2.2.2.1 pl) u.2.2.2.2.2) = u.2.2.2.2.2
      rw [if_neg (by omega), hmin]
    · show (if min (max u.2.2.2.2.1 pl) u.2.2.2.2.2 < u.2.2.2.2.2 then (1 : Int32) else 0) = _
      rw [if_neg (by omega), if_neg (by omega)]
theorem tt_sk_0 {u : tt_CU} (h : u.2.2.2.2.1 ≤ u.2.2.2.2.2) : tt_sk u 0 = u := by
  unfold tt_sk
  rw [show min (max u.2.2.2.2.1 0) u.2.2.2.2.2 = u.2.2.2.2.1 by omega]
theorem tt_gd_next {L : Nat → List tt_T3} {n : Nat} (hI : tt_I L) (hn : n = (L 0).length) {v : tt_KU} (hm : v.2.2.1 < 8) : ∀ y, y < n → (tt_gd v (L (tt_o v.2.2.1)) false 0 0 0 y = true ↔ (tt_st v.2.2.1 v.2.2.2.1 v.2.2.2.2.1 v.2.2.2.2.2.1 L ≤ y ∧ y < tt_en v.2.2.1 v.2.2.2.1 v.2.2.2.2.1 v.2.2.2.2.2.1 L ∧ 0 ≤ y)) := by
  intro y hy
  have hlk : (L (tt_o v.2.2.1)).length = n := (hI _ (tt_o_lt _)).2.1.length_eq.trans hn.symm
  have h := tt_mt_at hm v.2.2.2.1 v.2.2.2.2.1 v.2.2.2.2.2.1 hI (j := y) (by omega)
  constructor
  · intro q
    have q1 : tt_mt v.2.2.1 v.2.2.2.1 v.2.2.2.2.1 v.2.2.2.2.2.1 (tt_gt (L (tt_o v.2.2.1)) y) = true := (Bool.and_eq_true_iff.mp q).1
    have := h.mp q1
    exact ⟨this.1, this.2, Nat.zero_le _⟩
  · intro q
    exact tt_gd_1 (h.mpr ⟨q.1, q.2.1⟩) rfl
theorem tt_ut {k : Nat} (hk : k < 3) (a b c : Int32) : tt_pt ((k + 0) % 3) (tt_us k a b c) (tt_up k a b c) (tt_uo k a b c) = a ∧ tt_pt ((k + 1) % 3) (tt_us k a b c) (tt_up k a b c) (tt_uo k a b c) = b ∧ tt_pt ((k + 2) % 3) (tt_us k a b c) (tt_up k a b c) (tt_uo k a b c) = c := by
  match k, hk with
  | 0, _ => exact ⟨rfl, rfl, rfl⟩
  | 1, _ => exact ⟨rfl, rfl, rfl⟩
  | 2, _ => exact ⟨rfl, rfl, rfl⟩
theorem tt_gd_seek {L : Nat → List tt_T3} {n : Nat} (hI : tt_I L) (hn : n = (L 0).length) {v : tt_KU} (hm : v.2.2.1 < 8) (a b c : Int32) : ∀ y, y < n → (tt_gd v (L (tt_o v.2.2.1)) true (tt_us (tt_o v.2.2.1) a b c) (tt_up (tt_o v.2.2.1) a b c) (tt_uo (tt_o v.2.2.1) a b c) y = true ↔ (tt_st v.2.2.1 v.2.2.2.1 v.2.2.2.2.1 v.2.2.2.2.2.1 L ≤ y ∧ y < tt_en v.2.2.1 v.2.2.2.1 v.2.2.2.2.1 v.2.2.2.2.2.1 L ∧ tt_pl (tt_o v.2.2.1) 3 a b c 0 (L (tt_o v.2.2.1)) ≤ y)) := by
  intro y hy
  have hk := tt_o_lt v.2.2.1
  have hlk : (L (tt_o v.2.2.1)).length = n := (hI _ hk).2.1.length_eq.trans hn.symm
  have h := tt_mt_at hm v.2.2.2.1 v.2.2.2.2.1 v.2.2.2.2.2.1 hI (j := y) (by omega)
  obtain ⟨b1, b2, b3⟩ := tt_bd_pl (hI _ hk).1 3 a b c 0 (Or.inl rfl)
  obtain ⟨e1, e2, e3⟩ := tt_ut hk a b c
  have e : tt_cu (tt_o v.2.2.1) 3 (tt_gt (L (tt_o v.2.2.1)) y) (tt_us (tt_o v.2.2.1) a b c, tt_up (tt_o v.2.2.1) a b c, tt_uo (tt_o v.2.2.1) a b c) = tt_cm (tt_o v.2.2.1) 3 (tt_gt (L (tt_o v.2.2.1)) y) a b c := by
    show tt_cm (tt_o v.2.2.1) 3 (tt_gt (L (tt_o v.2.2.1)) y) (tt_pt ((tt_o v.2.2.1 + 0) % 3) _ _ _) (tt_pt ((tt_o v.2.2.1 + 1) % 3) _ _ _) (tt_pt ((tt_o v.2.2.1 + 2) % 3) _ _ _) = _
    rw [e1, e2, e3]
  constructor
  · intro q
    obtain ⟨q1, q2⟩ := Bool.and_eq_true_iff.mp q
    have q2 : (0 : Int32) ≤ tt_cu (tt_o v.2.2.1) 3 (tt_gt (L (tt_o v.2.2.1)) y) (tt_us (tt_o v.2.2.1) a b c, tt_up (tt_o v.2.2.1) a b c, tt_uo (tt_o v.2.2.1) a b c) := of_decide_eq_true (by simpa using q2)
    rw [e] at q2
    have := h.mp q1
    exact ⟨this.1, this.2, Nat.le_of_not_lt (fun hl => b2 y hl q2)⟩
  · intro q
    refine tt_gd_2 (h.mpr ⟨q.1, q.2.1⟩) ?_
    rw [e]
    exact Decidable.not_not.mp (b3 y q.2.2 (by omega))
theorem tt_part_eq {L : Nat → List tt_T3} {ch : Nat} {u : tt_CU} {v : tt_KU} (hI : tt_I L) (hs : tt_SC u v L ch) (h1 : v.1 = true) (x : Int32) : tt_prj u ch L x = tt_qrj v L x := by
  obtain ⟨-, h3⟩ := hs
  obtain ⟨hst, h4⟩ := h3 h1
  have h700 := (hI 0 (by omega)).2.2
  cases h2 : v.2.1
  · obtain ⟨q1, q2, q3⟩ := h4 h2
    have hch : u.2.2.2.1 = ch := Decidable.byContradiction (fun q => by rw [hst.mpr q] at h2; cases h2)
    rcases q3 with ⟨a, b, c, -⟩ | ⟨a, b, -⟩ | ⟨a, b, -⟩
    · rw [tt_prj_in hch a]
      unfold tt_qrj
      rw [if_pos ⟨h2, by omega⟩, b, q1]
    · rw [tt_prj_out (Or.inr a), tt_qrj_pk b]
    · rw [tt_prj_out (Or.inr a), tt_qrj_end hI rfl (by omega) (by omega)]
  · rw [tt_prj_out (Or.inl (hst.mp h2)), tt_qrj_stale h2]

/-! own rows: what matches a pattern -/
def tt_mt (mk : Nat) (s p o : Int32) (t : tt_T3) : Bool := (decide (mk % 2 = 0) || decide (t.1 = s)) && (decide (mk / 2 % 2 = 0) || decide (t.2.1 = p)) && (decide (mk / 4 % 2 = 0) || decide (t.2.2 = o))
theorem tt_cmpE (told x y z a b c : Int32) : (((0 : Int32) ≤ tt_cmp told x y z a b c) ∧ ¬ (1 : Int32) ≤ tt_cmp told x y z a b c) ↔ (told.toInt ≤ 0 ∨ (x = a ∧ (told.toInt ≤ 1 ∨ (y = b ∧ (told.toInt ≤ 2 ∨ z = c))))) := by
  have h0 := tt_cmp0 told x y z a b c
  have h1 := tt_cmp1 told x y z a b c
  rw [tt_i_eq x a, tt_i_eq y b, tt_i_eq z c]
  constructor
  · rintro ⟨q1, q2⟩
    have q0 := (not_congr h0).mp (fun h => h q1)
    have q3 := (not_congr h1).mp q2
    omega
  · intro h
    refine ⟨Decidable.byContradiction (fun q => ?_), fun q => ?_⟩
    · have := h0.mp q
      omega
    · have := h1.mp q
      omega
theorem tt_cm_mt {mk : Nat} (hm : mk < 8) (s p o : Int32) (t : tt_T3) : (((0 : Int32) ≤ tt_cm (tt_o mk) (nI (tt_told mk)) t (tt_pt ((tt_o mk + 0) % 3) s p o) (tt_pt ((tt_o mk + 1) % 3) s p o) (tt_pt ((tt_o mk + 2) % 3) s p o)) ∧ ¬ (1 : Int32) ≤ tt_cm (tt_o mk) (nI (tt_told mk)) t (tt_pt ((tt_o mk + 0) % 3) s p o) (tt_pt ((tt_o mk + 1) % 3) s p o) (tt_pt ((tt_o mk + 2) % 3) s p o)) ↔ tt_mt mk s p o t = true := by
  unfold tt_cm
  rw [tt_cmpE]
  have e0 : (nI 0).toInt = 0 := by decide
  have e1 : (nI 1).toInt = 1 := by decide
  have e2 : (nI 2).toInt = 2 := by decide
  have e3 : (nI 3).toInt = 3 := by decide
  obtain ⟨a, b, c⟩ := t
  match mk, hm with
  | 0, _ => simp [tt_o, tt_told, tt_mt, e0]
  | 1, _ => simp [tt_o, tt_told, tt_mt, tt_pp, tt_pt, e1]
  | 2, _ => simp [tt_o, tt_told, tt_mt, tt_pp, tt_pt, e1]
  | 3, _ => simp [tt_o, tt_told, tt_mt, tt_pp, tt_pt, e2]
  | 4, _ => simp [tt_o, tt_told, tt_mt, tt_pp, tt_pt, e1]
  | 5, _ => simp [tt_o, tt_told, tt_mt, tt_pp, tt_pt, e2]; exact and_comm
  | 6, _ => simp [tt_o, tt_told, tt_mt, tt_pp, tt_pt, e2]
  | 7, _ => simp [tt_o, tt_told, tt_mt, tt_pp, tt_pt, e3]; exact and_assoc.symm
theorem tt_count3 (v : tt_T3 → Int32) (q : tt_T3 → Bool) (hq : ∀ t, ((0 : Int32) ≤ v t ∧ ¬ (1 : Int32) ≤ v t) ↔ q t = true) : ∀ l : List tt_T3, l.countP (fun t => decide (¬ (1 : Int32) ≤ v t)) = l.countP (fun t => decide (¬ (0 : Int32) ≤ v t)) + l.countP q
  | [] => rfl
  | t :: l => by
    have ih := tt_count3 v q hq l
    have h01 : (1 : Int32) ≤ v t → (0 : Int32) ≤ v t := by
      intro h
      rw [tt_i_le] at h ⊢
      have e0 : (0 : Int32).toInt = 0 := by decide
      have e1 : (1 : Int32).toInt = 1 := by decide
      omega
    simp only [List.countP_cons]
    by_cases h1 : (1 : Int32) ≤ v t
    · have hqt : q t = false := by
        cases hc : q t
        · rfl
        · exact absurd h1 ((hq t).mpr hc).2
      simp only [h1, h01 h1, hqt, not_true_eq_false, decide_false, Bool.false_eq_true, if_false]
      omega
    · by_cases h0 : (0 : Int32) ≤ v t
      · have hqt : q t = true := (hq t).mp ⟨h0, h1⟩
        simp only [h1, h0, hqt, not_true_eq_false, not_false_eq_true, decide_false, decide_true, Bool.false_eq_true, if_false, if_true]
        omega
      · have hqt : q t = false := by
          cases hc : q t
          · rfl
          · exact absurd ((hq t).mpr hc).1 h0
        simp only [h1, h0, hqt, not_false_eq_true, decide_true, Bool.false_eq_true, if_false, if_true]
        omega
theorem tt_mn_count {mk : Nat} (hm : mk < 8) (s p o : Int32) {L : Nat → List tt_T3} (hI : tt_I L) : tt_mn mk s p o L = (L 0).countP (tt_mt mk s p o) := by
  have h := tt_count3 (fun t => tt_cm (tt_o mk) (nI (tt_told mk)) t (tt_pt ((tt_o mk + 0) % 3) s p o) (tt_pt ((tt_o mk + 1) % 3) s p o) (tt_pt ((tt_o mk + 2) % 3) s p o)) (tt_mt mk s p o) (fun t => tt_cm_mt hm s p o t) (L (tt_o mk))
  have h2 := ((hI _ (tt_o_lt mk)).2.1).countP_eq (tt_mt mk s p o)
  have e1 : tt_en mk s p o L = tt_st mk s p o L + (L (tt_o mk)).countP (tt_mt mk s p o) := h
  unfold tt_mn
  omega
/-- the places that match are those from tt_st to tt_en -/
theorem tt_mt_at {mk : Nat} (hm : mk < 8) (s p o : Int32) {L : Nat → List tt_T3} (hI : tt_I L) {j : Nat} (hj : j < (L (tt_o mk)).length) : tt_mt mk s p o (tt_gt (L (tt_o mk)) j) = true ↔ (tt_st mk s p o L ≤ j ∧ j < tt_en mk s p o L) := by
  have hs := (hI _ (tt_o_lt mk)).1
  have b0 : tt_bd (L (tt_o mk)).length (fun j => ¬ (0 : Int32) ≤ tt_cm (tt_o mk) (nI (tt_told mk)) (tt_gt (L (tt_o mk)) j) (tt_pt ((tt_o mk + 0) % 3) s p o) (tt_pt ((tt_o mk + 1) % 3) s p o) (tt_pt ((tt_o mk + 2) % 3) s p o)) (tt_st mk s p o L) := tt_bd_pl hs _ _ _ _ 0 (Or.inl rfl)
  have b1 : tt_bd (L (tt_o mk)).length (fun j => ¬ (1 : Int32) ≤ tt_cm (tt_o mk) (nI (tt_told mk)) (tt_gt (L (tt_o mk)) j) (tt_pt ((tt_o mk + 0) % 3) s p o) (tt_pt ((tt_o mk + 1) % 3) s p o) (tt_pt ((tt_o mk + 2) % 3) s p o)) (tt_en mk s p o L) := tt_bd_pl hs _ _ _ _ 1 (Or.inr rfl)
  rw [← tt_cm_mt hm]
  constructor
  · rintro ⟨q1, q2⟩
    refine ⟨Nat.le_of_not_lt (fun h => b0.2.1 j h q1), Nat.lt_of_not_le (fun h => b1.2.2 j h hj q2)⟩
  · rintro ⟨q1, q2⟩
    exact ⟨Decidable.not_not.mp (b0.2.2 j q1 hj), b1.2.1 j q2⟩
theorem tt_mt7 {s p o : Int32} {t : tt_T3} : tt_mt 7 s p o t = true ↔ t = (s, p, o) := by
  obtain ⟨a, b, c⟩ := t
  simp [tt_mt, and_assoc]
theorem tt_mem7 (s p o : Int32) {L : Nat → List tt_T3} (hI : tt_I L) : 0 < tt_mn 7 s p o L ↔ (s, p, o) ∈ L 0 := by
  rw [tt_mn_count (by omega) s p o hI, List.countP_pos_iff]
  constructor
  · rintro ⟨t, h1, h2⟩
    rw [tt_mt7] at h2
    rw [← h2]
    exact h1
  · intro h
    exact ⟨_, h, tt_mt7.mpr rfl⟩
/-- the lists with one more, without one, without what matches -/
def tt_La (t : tt_T3) (L : Nat → List tt_T3) : Nat → List tt_T3 := fun k => tt_ins k t (L k)
def tt_Ld (t : tt_T3) (L : Nat → List tt_T3) : Nat → List tt_T3 := fun k => tt_del t (L k)
def tt_Lr (mk : Nat) (s p o : Int32) (L : Nat → List tt_T3) : Nat → List tt_T3 := fun k => (L k).filter (fun u => !tt_mt mk s p o u)
theorem tt_I_add {L : Nat → List tt_T3} (hI : tt_I L) {t : tt_T3} (ht : t ∉ L 0) (hn : (L 0).length < 700) : tt_I (tt_La t L) := by
  intro k hk
  obtain ⟨h1, h2, h3⟩ := hI k hk
  refine ⟨tt_So_ins hk h1 (fun h => ht (h2.mem_iff.mp h)), ?_, ?_⟩
  · exact (tt_ins_perm k t (L k)).trans ((List.Perm.cons t h2).trans (tt_ins_perm 0 t (L 0)).symm)
  · show (tt_ins k t (L k)).length ≤ 700
    rw [tt_ins_len, h2.length_eq]
    omega
theorem tt_I_filter {L : Nat → List tt_T3} (hI : tt_I L) (q : tt_T3 → Bool) : tt_I (fun k => (L k).filter q) := by
  intro k hk
  obtain ⟨h1, h2, h3⟩ := hI k hk
  exact ⟨List.Pairwise.filter q h1, h2.filter q, Nat.le_trans (List.length_filter_le _ _) h3⟩
theorem tt_I_nd {L : Nat → List tt_T3} (hI : tt_I L) {k : Nat} (hk : k < 3) : (L k).Nodup := tt_So_nd (hI k hk).1
theorem tt_del_filter (t : tt_T3) (Rm : List tt_T3) (l : List tt_T3) : tt_del t (l.filter (fun u => decide (u ∉ Rm))) = l.filter (fun u => decide (u ∉ t :: Rm)) := by
  unfold tt_del
  rw [List.filter_filter]
  apply List.filter_congr
  intro u _
  by_cases h1 : u = t
  · simp [h1]
  · by_cases h2 : u ∈ Rm <;> simp [h1, h2]
theorem tt_rem_filter {mk : Nat} (hm : mk < 8) (s p o : Int32) {L : Nat → List tt_T3} (hI : tt_I L) {Rm : List tt_T3} (hr : ∀ u, u ∈ Rm ↔ ∃ x, tt_st mk s p o L ≤ x ∧ x < tt_en mk s p o L ∧ u = tt_gt (L (tt_o mk)) x) {k : Nat} (hk : k < 3) : (L k).filter (fun u => decide (u ∉ Rm)) = tt_Lr mk s p o L k := by
  unfold tt_Lr
  apply List.filter_congr
  intro u hu
  have hu0 : u ∈ L (tt_o mk) := (hI _ (tt_o_lt mk)).2.1.mem_iff.mpr ((hI k hk).2.1.mem_iff.mp hu)
  obtain ⟨j, hj, e⟩ := tt_mem_gt hu0
  have hel := tt_en_le mk s p o hI
  cases hc : tt_mt mk s p o u
  · have hn : u ∉ Rm := by
      intro h
      obtain ⟨x, h1, h2, h3⟩ := (hr u).mp h
      have := (tt_mt_at hm s p o hI (j := x) (by omega)).mpr ⟨h1, h2⟩
      rw [← h3, hc] at this
      cases this
    simp [hn]
  · have hn : u ∈ Rm := by
      rw [← e] at hc
      obtain ⟨h1, h2⟩ := (tt_mt_at hm s p o hI hj).mp hc
      exact (hr u).mpr ⟨j, h1, h2, e.symm⟩
    simp [hn]

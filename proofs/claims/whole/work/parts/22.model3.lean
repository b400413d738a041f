/-! own rows: the reference's writes -/
def tt_cq (q : Int32) (t u : tt_T3) : Bool := decide (u.2.1 = q) && decide (t.2.2 = u.1)
theorem tt_cq_1 {q : Int32} {t u : tt_T3} (h1 : tt_pp 1 u = q) (h2 : tt_pp 2 t = tt_pp 0 u) : tt_cq q t u = true := by
  have h1 : u.2.1 = q := h1
  have h2 : t.2.2 = u.1 := h2
  simp [tt_cq, h1, h2]
theorem tt_cq_0 {q : Int32} {t u : tt_T3} (h : ¬ tt_pp 1 u = q ∨ ¬ tt_pp 2 t = tt_pp 0 u) : ¬ tt_cq q t u = true := by
  intro hc
  unfold tt_cq at hc
  simp only [Bool.and_eq_true, decide_eq_true_eq] at hc
  rcases h with h | h
  · exact h hc.1
  · exact h hc.2
def tt_c2 (p q : Int32) (l : List tt_T3) : Nat → Nat
  | 0 => 0
  | i + 1 => tt_c2 p q l i + if tt_pp 1 (tt_gt l i) = p then tt_cn (tt_cq q (tt_gt l i)) l l.length else 0
theorem tt_c2_1 {p q : Int32} {l : List tt_T3} {i : Nat} (h : tt_pp 1 (tt_gt l i) = p) : tt_c2 p q l (i + 1) = tt_c2 p q l i + tt_cn (tt_cq q (tt_gt l i)) l l.length := by
  show tt_c2 p q l i + _ = _
  rw [if_pos h]
theorem tt_c2_0 {p q : Int32} {l : List tt_T3} {i : Nat} (h : ¬ tt_pp 1 (tt_gt l i) = p) : tt_c2 p q l (i + 1) = tt_c2 p q l i + tt_cn (tt_cq q (tt_gt l i)) l 0 := by
  show tt_c2 p q l i + _ = _
  rw [if_neg h]
  rfl
/-- the first i cursors are stale if they are open; all eight -/
def tt_ki (K : Nat → tt_KU) (i : Nat) : Nat → tt_KU := fun j => if j < i then ((K j).1, (K j).1, (K j).2.2) else K j
def tt_ks (K : Nat → tt_KU) : Nat → tt_KU := tt_ki K 8
theorem tt_ki_0 (K : Nat → tt_KU) : (fun j => tt_b (K j).2.1) = (fun j => tt_b (tt_ki K 0 j).2.1) := by
  funext j
  rw [show tt_ki K 0 j = K j from if_neg (by omega)]
theorem tt_nar_b (x : Bool) : vp_nar .boolean (tt_b x) = tt_b x := by cases x <;> rfl
theorem tt_ki_upd (K : Nat → tt_KU) (i : Nat) : upd (fun j => tt_b (tt_ki K i j).2.1) i (vp_nar .boolean (tt_b (K i).1)) = fun j => tt_b (tt_ki K (i + 1) j).2.1 := by
  funext j
  rw [tt_nar_b]
  unfold upd tt_ki
  by_cases e : j = i
  · subst e
    rw [if_pos rfl, if_pos (by omega)]
  · rw [if_neg e]
    dsimp only
    by_cases h : j < i
    · rw [if_pos h, if_pos (by omega)]
    · rw [if_neg h, if_neg (by omega)]
theorem tt_ks_1 (K : Nat → tt_KU) (j : Nat) : (tt_ks K j).1 = (K j).1 := by
  unfold tt_ks tt_ki
  split <;> rfl
theorem tt_ks_2 (K : Nat → tt_KU) (j : Nat) : (tt_ks K j).2.2 = (K j).2.2 := by
  unfold tt_ks tt_ki
  split <;> rfl
theorem tt_ks_C9 {K : Nat → tt_KU} {cx : Nat → va_E} {E0 E1 E3 E7 E8 : va_E} {cI cZ : ClassId} (h : tt_C9 cx E0 E1 (.inl (cZ, 8, .inl (fun j => tt_b (K j).1))) E3 (.inl (cI, 8, .inl (fun j => nI (K j).2.2.1))) (.inl (cI, 24, .inl (tt_kp K))) (.inl (cI, 8, .inl (fun j => nI (K j).2.2.2.2.2.2 - 1))) E7 E8) : tt_C9 cx E0 E1 (.inl (cZ, 8, .inl (fun j => tt_b (tt_ks K j).1))) E3 (.inl (cI, 8, .inl (fun j => nI (tt_ks K j).2.2.1))) (.inl (cI, 24, .inl (tt_kp (tt_ks K)))) (.inl (cI, 8, .inl (fun j => nI (tt_ks K j).2.2.2.2.2.2 - 1))) E7 E8 := by
  have e1 : (fun j => tt_b (tt_ks K j).1) = (fun j => tt_b (K j).1) := by funext j; rw [tt_ks_1]
  have e2 : (fun j => nI (tt_ks K j).2.2.1) = (fun j => nI (K j).2.2.1) := by funext j; rw [tt_ks_2]
  have e3 : tt_kp (tt_ks K) = tt_kp K := by funext i; unfold tt_kp; rw [tt_ks_2]
  have e4 : (fun j => nI (tt_ks K j).2.2.2.2.2.2 - 1) = (fun j => nI (K j).2.2.2.2.2.2 - 1) := by funext j; rw [tt_ks_2]
  rw [e1, e2, e3, e4]
  exact h
/-- from a on up to m, behind b, the row g is f moved up by three -/
def tt_sh (f g : Nat → Int32) (b a m : Nat) : Prop := ∀ i, g i = if b + a + 3 ≤ i ∧ i < b + m + 3 then f (i - 3) else f i
theorem tt_sh_0 (f : Nat → Int32) {b a m : Nat} (h : m ≤ a) : tt_sh f f b a m := fun i => by rw [if_neg (by omega)]
theorem tt_sh_up {f g : Nat → Int32} {b a m : Nat} (hg : tt_sh f g b (a + 1) m) (h : a < m) : tt_sh f (upd g (b + a + 3) (g (b + a))) b a m := by
  intro i
  have h1 : g (b + a) = f (b + a) := by rw [hg, if_neg (by omega)]
  unfold upd
  by_cases e : i = b + a + 3
  · rw [if_pos e, if_pos (by omega), h1]
    congr 1
    omega
  · rw [if_neg e, hg i]
    by_cases h2 : b + a + 3 ≤ i ∧ i < b + m + 3
    · rw [if_pos h2, if_pos (by omega)]
    · rw [if_neg h2, if_neg (by omega)]
theorem tt_RQ_ins {L : Nat → List tt_T3} {k n : Nat} {s p o : Int32} {f g : Nat → Int32} (hk : k < 3) (hls : ∀ i, i < 3 → (L i).length = n) (hn : n < 700) (hf : ∀ i, i < 3 → tt_RQ i f (tt_Lm (s, p, o) L k i)) (hg : tt_sh f g (2101 * k) (3 * tt_pos k (s, p, o) (L k) + 0) (3 * n)) : ∀ i, i < 3 → tt_RQ i (upd (upd (upd g (2101 * k + 3 * tt_pos k (s, p, o) (L k)) s) (2101 * k + 3 * tt_pos k (s, p, o) (L k) + 1) p) (2101 * k + 3 * tt_pos k (s, p, o) (L k) + 2) o) (tt_Lm (s, p, o) L (k + 1) i) := by
  intro i hi
  have hpo := tt_pos_le k (s, p, o) (L k)
  have hlk := hls k hk
  by_cases e : i = k
  · subst e
    rw [tt_Lm_new]
    have hf := hf i hi
    rw [tt_Lm_at] at hf
    intro j hj x hx
    rw [tt_ins_len] at hj
    rw [tt_gt_ins i (s, p, o) (L i) hj]
    unfold upd
    by_cases h1 : j < tt_pos i (s, p, o) (L i)
    · rw [if_neg (by omega), if_neg (by omega), if_neg (by omega), if_pos h1, hg, if_neg (by omega)]
      exact hf j (by omega) x hx
    · rw [if_neg h1]
      by_cases h2 : j = tt_pos i (s, p, o) (L i)
      · rw [if_pos h2]
        match x, hx with
        | 0, _ => rw [if_neg (by omega), if_neg (by omega), if_pos (by omega)]; rfl
        | 1, _ => rw [if_neg (by omega), if_pos (by omega)]; rfl
        | 2, _ => rw [if_pos (by omega)]; rfl
      · rw [if_neg h2, if_neg (by omega), if_neg (by omega), if_neg (by omega), hg, if_pos (by omega)]
        rw [show 2101 * i + 3 * j + x - 3 = 2101 * i + 3 * (j - 1) + x by omega]
        exact hf (j - 1) (by omega) x hx
  · rw [tt_Lm_ne _ _ _ e]
    have hlen : (tt_Lm (s, p, o) L k i).length ≤ n + 1 := by
      unfold tt_Lm
      have := hls i hi
      split
      · rw [tt_ins_len]; omega
      · omega
    intro j hj x hx
    unfold upd
    rw [if_neg (by omega), if_neg (by omega), if_neg (by omega), hg, if_neg (by omega)]
    exact hf i hi j hj x hx
/-- from c on up to a, behind b, the row g is f moved down by three -/
def tt_sd (f g : Nat → Int32) (b c a : Nat) : Prop := ∀ i, g i = if b + c ≤ i ∧ i < b + a then f (i + 3) else f i
theorem tt_sd_0 (f : Nat → Int32) (b c : Nat) : tt_sd f f b c (c + 0) := fun i => by rw [if_neg (by omega)]
theorem tt_sd_up {f g : Nat → Int32} {b c a : Nat} (hg : tt_sd f g b c (c + a)) : tt_sd f (upd g (b + (c + a)) (g (b + (c + a) + 3))) b c (c + (a + 1)) := by
  intro i
  have h1 : g (b + (c + a) + 3) = f (b + (c + a) + 3) := by rw [hg, if_neg (by omega)]
  unfold upd
  by_cases e : i = b + (c + a)
  · rw [if_pos e, if_pos (by omega), h1, e]
  · rw [if_neg e, hg i]
    by_cases h2 : b + c ≤ i ∧ i < b + (c + (a + 1))
    · rw [if_pos h2, if_pos (by omega)]
    · rw [if_neg h2, if_neg (by omega)]
theorem tt_RQ_del {L : Nat → List tt_T3} {k n : Nat} {t : tt_T3} {f g : Nat → Int32} (hk : k < 3) (hls : ∀ i, i < 3 → (L i).length = n) (hn : n ≤ 700) (hnd : (L k).Nodup) (hpt : tt_gt (L k) (tt_pos k t (L k)) = t) (hpj : tt_pos k t (L k) < (L k).length) (hf : ∀ i, i < 3 → tt_RQ i f (tt_Lz t L k i)) (hg : tt_sd f g (2101 * k) (3 * tt_pos k t (L k)) (3 * n - 3)) : ∀ i, i < 3 → tt_RQ i g (tt_Lz t L (k + 1) i) := by
  intro i hi
  have hlk := hls k hk
  by_cases e : i = k
  · subst e
    rw [tt_Lz_new]
    have hf := hf i hi
    rw [tt_Lz_at] at hf
    have hde := tt_del_eq hnd hpj
    rw [hpt] at hde
    rw [← hde]
    intro j hj x hx
    rw [List.length_eraseIdx_of_lt hpj] at hj
    rw [tt_gt_del, hg]
    by_cases h1 : j < tt_pos i t (L i)
    · rw [if_neg (by omega), if_pos h1]
      exact hf j (by omega) x hx
    · rw [if_pos (by omega), if_neg h1]
      rw [show 2101 * i + 3 * j + x + 3 = 2101 * i + 3 * (j + 1) + x by omega]
      exact hf (j + 1) (by omega) x hx
  · rw [tt_Lz_ne _ _ _ e]
    have hlen : (tt_Lz t L k i).length ≤ n := by
      unfold tt_Lz
      have := hls i hi
      split
      · have := List.length_filter_le (fun u => decide (u ≠ t)) (L i)
        unfold tt_del
        omega
      · omega
    intro j hj x hx
    rw [hg, if_neg (by omega)]
    exact hf i hi j hj x hx
set_option maxHeartbeats 4000000 in
set_option maxRecDepth 100000 in
theorem c_X4_chains (l : Launch) (D : va_G) (cI cZ cO cC : ClassId) (ad : Nat → Nat) (cx : Nat → va_E) (n : Nat) (L : Nat → List tt_T3) (ch : Nat) (K : Nat → tt_KU) (hQ : tt_Q cI cZ ad cx n L ch K) (p1 q1 : Int32) (hI : tt_I L) (hn : n = (L 0).length) : tt_Pure l yX4_chains wsX4_chains ({ frames := 1, cells := 0, slots := 0, locals := 23 } : Room) D (tt_tys cI cZ cO cC) false (tt_blk 9 ad cx) [.ref (ad 0), .int p1, .int q1] (nI (tt_c2 p1 q1 (L 0) (L 0).length)) := by
  refine tt_pure (cc := cX4_chains) (maxL := 6) (rt := .int) (by decide) rfl (rfl) (Nat.le_of_ble_eq_true rfl) ?_
  intro p e s m below meth c Q ls hfix hK hP hE hl kr
  obtain ⟨hx, hb, hml, hown, hts⟩ := id hfix
  have hown : s.vm.findClass RX4 = some m.cls := hown
  have hfix : CallFix p m c cX4_chains 6 s ([.ref (ad 0), .int p1, .int q1] : List Value).toArray wsX4_chains RX4 := hfix
  have hl : lv_has ls 6 [(0, .ref (ad 0)), (1, .int p1), (2, .int q1)] := hl
  have hf35 := hts (.fieldLink RX4 35 "TripleTreesModel" "size" "I") (by decide +kernel)
  have hinX4 : ∀ w ∈ u_ws RX4 TX4 11, w ∈ wsX4_chains := by decide +kernel
  have hS : va_S (fun _ => False) s.heap s.heap [] := va_S.rf
  obtain ⟨mt, f, me, ms, h9, hf⟩ := id hQ
  have h700 := (hI 0 (by omega)).2.2
  have loop : ∀ (d i : Nat), (d + i = n) → ∀ (H : Heap) (locs : List Loc) (ls : Array Slot), va_P D vwCl (tt_blk 9 ad cx) H → va_S (fun _ => False) s.heap H locs → lv_has ls 6 [(4, .int (nI i)), (3, .int (nI (tt_c2 p1 q1 (L 0) i))), (0, .ref (ad 0)), (1, .int p1), (2, .int q1)] → W p l e ({ frames := 1, cells := 0, slots := 0, locals := 23 } : Room) s m ([.ref (ad 0), .int p1, .int q1] : List Value).toArray below meth c H locs 0 0 Q (F0 m 5 ls []) := by
    intro d
    induction d with
    | zero =>
      intro i hd H locs ls hP hS hl
      refine lv_iload hx hb dX4_chains_5 (lv_at hl 0 rfl) ?_
      refine lv_aload_n hx hb dX4_chains_7 rfl (lv_at hl 2 rfl) ?_
      refine va_get (D := D) (ci := 4) (v := .int (nI n)) (C := RX4) (T := TX4) (N := 11) hx hb hts hinX4 hown hK hP 0 (tt_bg (by omega) h9.1) rfl 1 (by decide) hf35 (fun _ h9 => h9) rfl dX4_chains_8 ?_
      refine lv_icmp_ge (tgt := 89) hx hb dX4_chains_11 (by decide) (fun hb11 => ?_) (fun hb11 => ?_)
      · have hb11 : n ≤ i := (nI_leI (a := n) (b := i) (by omega) (by omega)).mp hb11
        refine lv_iload_n hx hb dX4_chains_89 rfl (lv_at hl 1 rfl) ?_
        have hi : i = (L 0).length := by omega
        rw [hi]
        exact kr _ _ _ _ hS dX4_chains_90
      · have hb11 : ¬ n ≤ i := fun hz9 => hb11 ((nI_leI (a := n) (b := i) (by omega) (by omega)).mpr hz9)
        exact absurd hb11 (by omega)
    | succ d ih =>
      intro i hd H locs ls hP hS hl
      refine lv_iload hx hb dX4_chains_5 (lv_at hl 0 rfl) ?_
      refine lv_aload_n hx hb dX4_chains_7 rfl (lv_at hl 2 rfl) ?_
      refine va_get (D := D) (ci := 4) (v := .int (nI n)) (C := RX4) (T := TX4) (N := 11) hx hb hts hinX4 hown hK hP 0 (tt_bg (by omega) h9.1) rfl 1 (by decide) hf35 (fun _ h9 => h9) rfl dX4_chains_8 ?_
      refine lv_icmp_ge (tgt := 89) hx hb dX4_chains_11 (by decide) (fun hb11 => ?_) (fun hb11 => ?_)
      · have hb11 : n ≤ i := (nI_leI (a := n) (b := i) (by omega) (by omega)).mp hb11
        exact absurd hb11 (by omega)
      · have hb11 : ¬ n ≤ i := fun hz9 => hb11 ((nI_leI (a := n) (b := i) (by omega) (by omega)).mpr hz9)
        have loop2 : ∀ (d2 j : Nat), (d2 + j = n) → (j = 0 ∨ tt_pp 1 (tt_gt (L 0) i) = p1) → ∀ (H : Heap) (locs : List Loc) (ls : Array Slot), va_P D vwCl (tt_blk 9 ad cx) H → va_S (fun _ => False) s.heap H locs → lv_has ls 6 [(5, .int (nI j)), (4, .int (nI i)), (3, .int (nI (tt_c2 p1 q1 (L 0) i + tt_cn (tt_cq q1 (tt_gt (L 0) i)) (L 0) j))), (0, .ref (ad 0)), (1, .int p1), (2, .int q1)] → W p l e ({ frames := 1, cells := 0, slots := 0, locals := 23 } : Room) s m ([.ref (ad 0), .int p1, .int q1] : List Value).toArray below meth c H locs 0 0 Q (F0 m 17 ls []) := by
          intro d2
          induction d2 with
          | zero =>
            intro j hd2 hp0 H locs ls hP hS hl
            refine lv_iload hx hb dX4_chains_17 (lv_at hl 0 rfl) ?_
            refine lv_aload_n hx hb dX4_chains_19 rfl (lv_at hl 3 rfl) ?_
            refine va_get (D := D) (ci := 4) (v := .int (nI n)) (C := RX4) (T := TX4) (N := 11) hx hb hts hinX4 hown hK hP 0 (tt_bg (by omega) h9.1) rfl 1 (by decide) hf35 (fun _ h9 => h9) rfl dX4_chains_20 ?_
            refine lv_icmp_ge (tgt := 83) hx hb dX4_chains_23 (by decide) (fun hb23 => ?_) (fun hb23 => ?_)
            · have hb23 : n ≤ j := (nI_leI (a := n) (b := j) (by omega) (by omega)).mp hb23
              refine lv_iinc (v := nI (i + 1)) (lv' := [(4, .int (nI (i + 1))), (5, .int (nI j)), (3, .int (nI (tt_c2 p1 q1 (L 0) i + tt_cn (tt_cq q1 (tt_gt (L 0) i)) (L 0) j))), (0, .ref (ad 0)), (1, .int p1), (2, .int q1)]) hx hb dX4_chains_83 hl (k := 1) rfl (nI_add i 1) (by decide) rfl (fun ls hl => ?_)
              refine lv_goto (tgt := 5) hx hb dX4_chains_86 (by decide) ?_
              have hpp : tt_pp 1 (tt_gt (L 0) i) = p1 := hp0.resolve_left (by omega)
              have hj : j = (L 0).length := by omega
              rw [hj, show tt_c2 p1 q1 (L 0) i + tt_cn (tt_cq q1 (tt_gt (L 0) i)) (L 0) (L 0).length = tt_c2 p1 q1 (L 0) (i + 1) from (tt_c2_1 hpp).symm] at hl
              exact ih (i + 1) (by omega) _ _ ls hP hS (lv_sub hl [0, 2, 3, 4, 5] rfl)
            · have hb23 : ¬ n ≤ j := fun hz9 => hb23 ((nI_leI (a := n) (b := j) (by omega) (by omega)).mpr hz9)
              exact absurd hb23 (by omega)
          | succ d2 ih2 =>
            intro j hd2 hp0 H locs ls hP hS hl
            refine lv_iload hx hb dX4_chains_17 (lv_at hl 0 rfl) ?_
            refine lv_aload_n hx hb dX4_chains_19 rfl (lv_at hl 3 rfl) ?_
            refine va_get (D := D) (ci := 4) (v := .int (nI n)) (C := RX4) (T := TX4) (N := 11) hx hb hts hinX4 hown hK hP 0 (tt_bg (by omega) h9.1) rfl 1 (by decide) hf35 (fun _ h9 => h9) rfl dX4_chains_20 ?_
            refine lv_icmp_ge (tgt := 83) hx hb dX4_chains_23 (by decide) (fun hb23 => ?_) (fun hb23 => ?_)
            · have hb23 : n ≤ j := (nI_leI (a := n) (b := j) (by omega) (by omega)).mp hb23
              exact absurd hb23 (by omega)
            · have hb23 : ¬ n ≤ j := fun hz9 => hb23 ((nI_leI (a := n) (b := j) (by omega) (by omega)).mpr hz9)
              refine lv_aload_n hx hb dX4_chains_26 rfl (lv_at hl 3 rfl) ?_
              refine lv_iconst (v := 0) hx hb dX4_chains_27 (by decide) ?_
              refine lv_iload hx hb dX4_chains_28 (lv_at hl 1 rfl) ?_
              refine lv_iconst (v := 1) hx hb dX4_chains_30 (by decide) ?_
              have hPc := hP
              refine tt_calli (va_runV (As := [.int 0, .int (nI i), .int 1]) (rest := []) hfix (c_X4_cell l D cI cZ cO cC ad cx n L ch K hQ 0 (i) 1 (by omega) (by omega) (by omega) h700) (cwV 3 hts gX4_chains_X4_cell rfl rfl rfl (by decide +kernel) ⟨Nat.le_of_ble_eq_true rfl, Nat.le_of_ble_eq_true rfl⟩) (tt_preV (q0 := 0) (ci := 4) hK hPc tt_E.no (tt_bg (by omega) h9.1) rfl) rfl rfl hl.1 rfl (lv_room (Nat.le_of_ble_eq_true rfl)) dX4_chains_31 ⟨Nat.zero_le _, Nat.zero_le _⟩) hP hS (fun H locs hP hS => ?_)
              refine lv_iload_n hx hb dX4_chains_34 rfl (lv_at hl 4 rfl) ?_
              refine lv_icmp_ne (tgt := 83) hx hb dX4_chains_35 (by decide) (fun hb35 => ?_) (fun hb35 => ?_)
              · refine lv_iinc (v := nI (i + 1)) (lv' := [(4, .int (nI (i + 1))), (5, .int (nI j)), (3, .int (nI (tt_c2 p1 q1 (L 0) i + tt_cn (tt_cq q1 (tt_gt (L 0) i)) (L 0) j))), (0, .ref (ad 0)), (1, .int p1), (2, .int q1)]) hx hb dX4_chains_83 hl (k := 1) rfl (nI_add i 1) (by decide) rfl (fun ls hl => ?_)
                refine lv_goto (tgt := 5) hx hb dX4_chains_86 (by decide) ?_
                have hj : j = 0 := hp0.resolve_right hb35
                rw [hj, show tt_c2 p1 q1 (L 0) i + tt_cn (tt_cq q1 (tt_gt (L 0) i)) (L 0) 0 = tt_c2 p1 q1 (L 0) (i + 1) from (tt_c2_0 hb35).symm] at hl
                exact ih (i + 1) (by omega) _ _ ls hP hS (lv_sub hl [0, 2, 3, 4, 5] rfl)
              · refine lv_iload_n hx hb dX4_chains_38 rfl (lv_at hl 2 rfl) ?_
                refine lv_aload_n hx hb dX4_chains_39 rfl (lv_at hl 3 rfl) ?_
                refine lv_iconst (v := 0) hx hb dX4_chains_40 (by decide) ?_
                refine lv_iload hx hb dX4_chains_41 (lv_at hl 0 rfl) ?_
                refine lv_iconst (v := 1) hx hb dX4_chains_43 (by decide) ?_
                have hPc := hP
                refine tt_calli (va_runV (As := [.int 0, .int (nI j), .int 1]) (rest := [.int (nI (tt_c2 p1 q1 (L 0) i + tt_cn (tt_cq q1 (tt_gt (L 0) i)) (L 0) j))]) hfix (c_X4_cell l D cI cZ cO cC ad cx n L ch K hQ 0 (j) 1 (by omega) (by omega) (by omega) h700) (cwV 3 hts gX4_chains_X4_cell rfl rfl rfl (by decide +kernel) ⟨Nat.le_of_ble_eq_true rfl, Nat.le_of_ble_eq_true rfl⟩) (tt_preV (q0 := 0) (ci := 4) hK hPc tt_E.no (tt_bg (by omega) h9.1) rfl) rfl rfl hl.1 rfl (lv_room (Nat.le_of_ble_eq_true rfl)) dX4_chains_44 ⟨Nat.zero_le _, Nat.zero_le _⟩) hP hS (fun H locs hP hS => ?_)
                refine lv_iload_n hx hb dX4_chains_47 rfl (lv_at hl 5 rfl) ?_
                refine lv_icmp_ne (tgt := 74) hx hb dX4_chains_48 (by decide) (fun hb48 => ?_) (fun hb48 => ?_)
                · refine lv_iconst (v := 0) hx hb dX4_chains_74 (by decide) ?_
                  refine lv_iadd hx hb dX4_chains_75 ?_
                  refine tt_rei (show ((nI (tt_c2 p1 q1 (L 0) i + tt_cn (tt_cq q1 (tt_gt (L 0) i)) (L 0) j)) + 0) = nI (tt_c2 p1 q1 (L 0) i + tt_cn (tt_cq q1 (tt_gt (L 0) i)) (L 0) j + 0) from nI_add (tt_c2 p1 q1 (L 0) i + tt_cn (tt_cq q1 (tt_gt (L 0) i)) (L 0) j) 0) ?_
                  refine lv_istore_n (lv' := [(3, .int (nI (tt_c2 p1 q1 (L 0) i + tt_cn (tt_cq q1 (tt_gt (L 0) i)) (L 0) j + 0))), (5, .int (nI j)), (4, .int (nI i)), (0, .ref (ad 0)), (1, .int p1), (2, .int q1)]) hx hb dX4_chains_76 rfl hl (by decide) rfl (fun ls hl => ?_)
                  refine lv_iinc (v := nI (j + 1)) (lv' := [(5, .int (nI (j + 1))), (3, .int (nI (tt_c2 p1 q1 (L 0) i + tt_cn (tt_cq q1 (tt_gt (L 0) i)) (L 0) j + 0))), (4, .int (nI i)), (0, .ref (ad 0)), (1, .int p1), (2, .int q1)]) hx hb dX4_chains_77 hl (k := 1) rfl (nI_add j 1) (by decide) rfl (fun ls hl => ?_)
                  refine lv_goto (tgt := 17) hx hb dX4_chains_80 (by decide) ?_
                  rw [show tt_c2 p1 q1 (L 0) i + tt_cn (tt_cq q1 (tt_gt (L 0) i)) (L 0) j + 0 = tt_c2 p1 q1 (L 0) i + tt_cn (tt_cq q1 (tt_gt (L 0) i)) (L 0) (j + 1) from by rw [tt_cn_0 (tt_cq_0 (by first | exact Or.inr hb67 | exact Or.inl hb48))]; omega] at hl
                  exact ih2 (j + 1) (by omega) (Or.inr hb35) _ _ ls hP hS (lv_sub hl [0, 2, 1, 3, 4, 5] rfl)
                · refine lv_aload_n hx hb dX4_chains_51 rfl (lv_at hl 3 rfl) ?_
                  refine lv_iconst (v := 0) hx hb dX4_chains_52 (by decide) ?_
                  refine lv_iload hx hb dX4_chains_53 (lv_at hl 1 rfl) ?_
                  refine lv_iconst (v := 2) hx hb dX4_chains_55 (by decide) ?_
                  have hPc := hP
                  refine tt_calli (va_runV (As := [.int 0, .int (nI i), .int 2]) (rest := [.int (nI (tt_c2 p1 q1 (L 0) i + tt_cn (tt_cq q1 (tt_gt (L 0) i)) (L 0) j))]) hfix (c_X4_cell l D cI cZ cO cC ad cx n L ch K hQ 0 (i) 2 (by omega) (by omega) (by omega) h700) (cwV 3 hts gX4_chains_X4_cell rfl rfl rfl (by decide +kernel) ⟨Nat.le_of_ble_eq_true rfl, Nat.le_of_ble_eq_true rfl⟩) (tt_preV (q0 := 0) (ci := 4) hK hPc tt_E.no (tt_bg (by omega) h9.1) rfl) rfl rfl hl.1 rfl (lv_room (Nat.le_of_ble_eq_true rfl)) dX4_chains_56 ⟨Nat.zero_le _, Nat.zero_le _⟩) hP hS (fun H locs hP hS => ?_)
                  refine lv_aload_n hx hb dX4_chains_59 rfl (lv_at hl 3 rfl) ?_
                  refine lv_iconst (v := 0) hx hb dX4_chains_60 (by decide) ?_
                  refine lv_iload hx hb dX4_chains_61 (lv_at hl 0 rfl) ?_
                  refine lv_iconst (v := 0) hx hb dX4_chains_63 (by decide) ?_
                  have hPc := hP
                  refine tt_calli (va_runV (As := [.int 0, .int (nI j), .int 0]) (rest := [.int (tt_pp 2 (tt_gt (L 0) i)), .int (nI (tt_c2 p1 q1 (L 0) i + tt_cn (tt_cq q1 (tt_gt (L 0) i)) (L 0) j))]) hfix (c_X4_cell l D cI cZ cO cC ad cx n L ch K hQ 0 (j) 0 (by omega) (by omega) (by omega) h700) (cwV 3 hts gX4_chains_X4_cell rfl rfl rfl (by decide +kernel) ⟨Nat.le_of_ble_eq_true rfl, Nat.le_of_ble_eq_true rfl⟩) (tt_preV (q0 := 0) (ci := 4) hK hPc tt_E.no (tt_bg (by omega) h9.1) rfl) rfl rfl hl.1 rfl (lv_room (Nat.le_of_ble_eq_true rfl)) dX4_chains_64 ⟨Nat.zero_le _, Nat.zero_le _⟩) hP hS (fun H locs hP hS => ?_)
                  refine lv_icmp_ne (tgt := 74) hx hb dX4_chains_67 (by decide) (fun hb67 => ?_) (fun hb67 => ?_)
                  · refine lv_iconst (v := 0) hx hb dX4_chains_74 (by decide) ?_
                    refine lv_iadd hx hb dX4_chains_75 ?_
                    refine tt_rei (show ((nI (tt_c2 p1 q1 (L 0) i + tt_cn (tt_cq q1 (tt_gt (L 0) i)) (L 0) j)) + 0) = nI (tt_c2 p1 q1 (L 0) i + tt_cn (tt_cq q1 (tt_gt (L 0) i)) (L 0) j + 0) from nI_add (tt_c2 p1 q1 (L 0) i + tt_cn (tt_cq q1 (tt_gt (L 0) i)) (L 0) j) 0) ?_
                    refine lv_istore_n (lv' := [(3, .int (nI (tt_c2 p1 q1 (L 0) i + tt_cn (tt_cq q1 (tt_gt (L 0) i)) (L 0) j + 0))), (5, .int (nI j)), (4, .int (nI i)), (0, .ref (ad 0)), (1, .int p1), (2, .int q1)]) hx hb dX4_chains_76 rfl hl (by decide) rfl (fun ls hl => ?_)
                    refine lv_iinc (v := nI (j + 1)) (lv' := [(5, .int (nI (j + 1))), (3, .int (nI (tt_c2 p1 q1 (L 0) i + tt_cn (tt_cq q1 (tt_gt (L 0) i)) (L 0) j + 0))), (4, .int (nI i)), (0, .ref (ad 0)), (1, .int p1), (2, .int q1)]) hx hb dX4_chains_77 hl (k := 1) rfl (nI_add j 1) (by decide) rfl (fun ls hl => ?_)
                    refine lv_goto (tgt := 17) hx hb dX4_chains_80 (by decide) ?_
                    rw [show tt_c2 p1 q1 (L 0) i + tt_cn (tt_cq q1 (tt_gt (L 0) i)) (L 0) j + 0 = tt_c2 p1 q1 (L 0) i + tt_cn (tt_cq q1 (tt_gt (L 0) i)) (L 0) (j + 1) from by rw [tt_cn_0 (tt_cq_0 (by first | exact Or.inr hb67 | exact Or.inl hb48))]; omega] at hl
                    exact ih2 (j + 1) (by omega) (Or.inr hb35) _ _ ls hP hS (lv_sub hl [0, 2, 1, 3, 4, 5] rfl)
                  · refine lv_iconst (v := 1) hx hb dX4_chains_70 (by decide) ?_
                    refine lv_goto (tgt := 75) hx hb dX4_chains_71 (by decide) ?_
                    refine lv_iadd hx hb dX4_chains_75 ?_
                    refine tt_rei (show ((nI (tt_c2 p1 q1 (L 0) i + tt_cn (tt_cq q1 (tt_gt (L 0) i)) (L 0) j)) + 1) = nI (tt_c2 p1 q1 (L 0) i + tt_cn (tt_cq q1 (tt_gt (L 0) i)) (L 0) j + 1) from nI_add (tt_c2 p1 q1 (L 0) i + tt_cn (tt_cq q1 (tt_gt (L 0) i)) (L 0) j) 1) ?_
                    refine lv_istore_n (lv' := [(3, .int (nI (tt_c2 p1 q1 (L 0) i + tt_cn (tt_cq q1 (tt_gt (L 0) i)) (L 0) j + 1))), (5, .int (nI j)), (4, .int (nI i)), (0, .ref (ad 0)), (1, .int p1), (2, .int q1)]) hx hb dX4_chains_76 rfl hl (by decide) rfl (fun ls hl => ?_)
                    refine lv_iinc (v := nI (j + 1)) (lv' := [(5, .int (nI (j + 1))), (3, .int (nI (tt_c2 p1 q1 (L 0) i + tt_cn (tt_cq q1 (tt_gt (L 0) i)) (L 0) j + 1))), (4, .int (nI i)), (0, .ref (ad 0)), (1, .int p1), (2, .int q1)]) hx hb dX4_chains_77 hl (k := 1) rfl (nI_add j 1) (by decide) rfl (fun ls hl => ?_)
                    refine lv_goto (tgt := 17) hx hb dX4_chains_80 (by decide) ?_
                    rw [show tt_c2 p1 q1 (L 0) i + tt_cn (tt_cq q1 (tt_gt (L 0) i)) (L 0) j + 1 = tt_c2 p1 q1 (L 0) i + tt_cn (tt_cq q1 (tt_gt (L 0) i)) (L 0) (j + 1) from by rw [tt_cn_1 (tt_cq_1 hb48 hb67)]; omega] at hl
                    exact ih2 (j + 1) (by omega) (Or.inr hb35) _ _ ls hP hS (lv_sub hl [0, 2, 1, 3, 4, 5] rfl)
        refine lv_iconst (v := 0) hx hb dX4_chains_14 (by decide) ?_
        refine lv_istore (lv' := [(5, .int 0), (4, .int (nI i)), (3, .int (nI (tt_c2 p1 q1 (L 0) i))), (0, .ref (ad 0)), (1, .int p1), (2, .int q1)]) hx hb dX4_chains_15 hl (by decide) rfl (fun ls hl => ?_)
        exact loop2 n 0 (by omega) (Or.inl rfl) _ _ ls hP hS (lv_sub (l' := [(5, .int (nI 0)), (4, .int (nI i)), (3, .int (nI (tt_c2 p1 q1 (L 0) i + tt_cn (tt_cq q1 (tt_gt (L 0) i)) (L 0) 0))), (0, .ref (ad 0)), (1, .int p1), (2, .int q1)]) hl [0, 1, 2, 3, 4, 5] rfl)
  refine lv_iconst (v := 0) hx hb dX4_chains_0 (by decide) ?_
  refine lv_istore_n (lv' := [(3, .int 0), (0, .ref (ad 0)), (1, .int p1), (2, .int q1)]) hx hb dX4_chains_1 rfl hl (by decide) rfl (fun ls hl => ?_)
  refine lv_iconst (v := 0) hx hb dX4_chains_2 (by decide) ?_
  refine lv_istore (lv' := [(4, .int 0), (3, .int 0), (0, .ref (ad 0)), (1, .int p1), (2, .int q1)]) hx hb dX4_chains_3 hl (by decide) rfl (fun ls hl => ?_)
  exact loop n 0 (by omega) _ _ ls hP hS (lv_sub hl [0, 1, 2, 3, 4] rfl)
set_option maxHeartbeats 4000000 in
set_option maxRecDepth 100000 in
theorem c_X4_changed (l : Launch) (D : va_G) (cI cZ cO cC : ClassId) (ad : Nat → Nat) (cx : Nat → va_E) (n : Nat) (L : Nat → List tt_T3) (ch : Nat) (K : Nat → tt_KU) (hQ : tt_Q cI cZ ad cx n L ch K)  : tt_Mutv (S := (Nat → va_E)) l yX4_changed wsX4_changed ({ frames := 0, cells := 0, slots := 0, locals := 0 } : Room) D (tt_tys cI cZ cO cC) false (tt_blk 9 ad cx) [.ref (ad 0)] (fun u => tt_Q cI cZ ad u n L (ch + 1) (tt_ks K)) (fun u => tt_blk 9 ad u) := by
  refine tt_mutv (cc := cX4_changed) (maxL := 2) (by decide) rfl (Nat.le_of_ble_eq_true rfl) ?_
  intro p e s m below meth c Q ls A hfix hK hP hD hA hE hl kr
  obtain ⟨hx, hb, hml, hown, hts⟩ := id hfix
  have hown : s.vm.findClass RX4 = some m.cls := hown
  have hfix : CallFix p m c cX4_changed 2 s ([.ref (ad 0)] : List Value).toArray wsX4_changed RX4 := hfix
  have hl : lv_has ls 2 [(0, .ref (ad 0))] := hl
  have hf55 := hts (.fieldLink RX4 55 "TripleTreesModel" "changes" "I") (by decide +kernel)
  have hf17 := hts (.fieldLink RX4 17 "TripleTreesModel" "isStale" "[Z") (by decide +kernel)
  have hf13 := hts (.fieldLink RX4 13 "TripleTreesModel" "isOpen" "[Z") (by decide +kernel)
  have hinX4 : ∀ w ∈ u_ws RX4 TX4 11, w ∈ wsX4_changed := by decide +kernel
  have hS : va_S A s.heap s.heap [] := va_S.rf
  obtain ⟨mt, f, me, ms, h9, hf⟩ := id hQ
  have loop : ∀ (d i : Nat) (cx : Nat → va_E), (d + i = 8) → (tt_C9 cx (.inr (4, [.ref (ad 1), .int (nI n), .int (nI (ch + 1)), .ref (ad 2), .ref (ad 3), .ref (ad 4), .ref (ad 5), .ref (ad 6), .ref (ad 7), .ref (ad 8), .int mt])) (.inl (cI, 6303, .inl f)) (.inl (cZ, 8, .inl (fun j => tt_b (K j).1))) (.inl (cZ, 8, .inl (fun j => tt_b (tt_ki K i j).2.1))) (.inl (cI, 8, .inl (fun j => nI (K j).2.2.1))) (.inl (cI, 24, .inl (tt_kp K))) (.inl (cI, 8, .inl (fun j => nI (K j).2.2.2.2.2.2 - 1))) (.inl (cI, 1402, .inl me)) (.inl (cI, 1402, .inl ms))) → ∀ (H : Heap) (locs : List Loc) (ls : Array Slot), va_P D vwCl (tt_blk 9 ad cx) H → va_D A (tt_blk 9 ad cx) → va_S A s.heap H locs → lv_has ls 2 [(1, .int (nI i)), (0, .ref (ad 0))] → W p l e ({ frames := 0, cells := 0, slots := 0, locals := 0 } : Room) s m ([.ref (ad 0)] : List Value).toArray below meth c H locs 0 0 Q (F0 m 12 ls []) := by
    intro d
    induction d with
    | zero =>
      intro i cx hd hc9 H locs ls hP hD hS hl
      have h9 := hc9
      refine lv_iload_n hx hb dX4_changed_12 rfl (lv_at hl 0 rfl) ?_
      refine lv_bipush (v := 8) hx hb dX4_changed_13 (by decide) ?_
      refine lv_icmp_ge (tgt := 36) hx hb dX4_changed_15 (by decide) (fun hb15 => ?_) (fun hb15 => ?_)
      · have hb15 : 8 ≤ i := (nI_leI (a := 8) (b := i) (by omega) (by omega)).mp hb15
        have hi : i = 8 := by omega
        subst hi
        rw [show (fun j => tt_b (tt_ki K 8 j).2.1) = (fun j => tt_b (tt_ks K j).2.1) from rfl] at h9
        exact kr _ _ _ _ cx ⟨mt, f, me, ms, tt_ks_C9 h9, hf⟩ hP hS dX4_changed_36
      · have hb15 : ¬ 8 ≤ i := fun hz9 => hb15 ((nI_leI (a := 8) (b := i) (by omega) (by omega)).mpr hz9)
        exact absurd hb15 (by omega)
    | succ d ih =>
      intro i cx hd hc9 H locs ls hP hD hS hl
      have h9 := hc9
      refine lv_iload_n hx hb dX4_changed_12 rfl (lv_at hl 0 rfl) ?_
      refine lv_bipush (v := 8) hx hb dX4_changed_13 (by decide) ?_
      refine lv_icmp_ge (tgt := 36) hx hb dX4_changed_15 (by decide) (fun hb15 => ?_) (fun hb15 => ?_)
      · have hb15 : 8 ≤ i := (nI_leI (a := 8) (b := i) (by omega) (by omega)).mp hb15
        exact absurd hb15 (by omega)
      · have hb15 : ¬ 8 ≤ i := fun hz9 => hb15 ((nI_leI (a := 8) (b := i) (by omega) (by omega)).mpr hz9)
        refine lv_aload_n hx hb dX4_changed_18 rfl (lv_at hl 1 rfl) ?_
        refine va_get (D := D) (ci := 4) (v := .ref (ad 3)) (C := RX4) (T := TX4) (N := 11) hx hb hts hinX4 hown hK hP 0 (tt_bg (by omega) h9.1) rfl 4 (by decide) hf17 (fun _ h9 => h9) rfl dX4_changed_19 ?_
        refine lv_iload_n hx hb dX4_changed_22 rfl (lv_at hl 0 rfl) ?_
        refine lv_aload_n hx hb dX4_changed_23 rfl (lv_at hl 1 rfl) ?_
        refine va_get (D := D) (ci := 4) (v := .ref (ad 2)) (C := RX4) (T := TX4) (N := 11) hx hb hts hinX4 hown hK hP 0 (tt_bg (by omega) h9.1) rfl 3 (by decide) hf13 (fun _ h9 => h9) rfl dX4_changed_24 ?_
        refine lv_iload_n hx hb dX4_changed_27 rfl (lv_at hl 0 rfl) ?_
        refine va_zald hx hb hK hP 2 1 (tt_bg (by omega) h9.2.2.1) rfl (vp_in_nI (n := i) (by omega) (by omega)) dX4_changed_28 ?_
        refine tt_rei (show ((fun j => tt_b (K j).1) (nI i).toNatClampNeg) = tt_b (K i).1 from congrArg (fun j => tt_b (K j).1) (nI_clamp (n := i) (by omega))) ?_
        refine va_zast hx hb hK hP hD hS 3 1 (tt_bg (by omega) h9.2.2.2.1) rfl (vp_in_nI (n := i) (by omega) (by omega)) dX4_changed_29 (fun H locs hP hD hS => ?_)
        rw [nI_clamp (n := i) (by omega)] at hP hD
        obtain ⟨cx, h9, hP, hD⟩ : ∃ zg : Nat → va_E, tt_C9 zg (.inr (4, [.ref (ad 1), .int (nI n), .int (nI (ch + 1)), .ref (ad 2), .ref (ad 3), .ref (ad 4), .ref (ad 5), .ref (ad 6), .ref (ad 7), .ref (ad 8), .int mt])) (.inl (cI, 6303, .inl f)) (.inl (cZ, 8, .inl (fun j => tt_b (K j).1))) (.inl (cZ, 8, .inl (upd (fun j => tt_b (tt_ki K i j).2.1) i (vp_nar .boolean (tt_b (K i).1))))) (.inl (cI, 8, .inl (fun j => nI (K j).2.2.1))) (.inl (cI, 24, .inl (tt_kp K))) (.inl (cI, 8, .inl (fun j => nI (K j).2.2.2.2.2.2 - 1))) (.inl (cI, 1402, .inl me)) (.inl (cI, 1402, .inl ms)) ∧ va_P D vwCl (tt_blk 9 ad zg) H ∧ va_D A (tt_blk 9 ad zg) := ⟨_, h9.set3, by rw [← tt_bset]; exact hP, by rw [← tt_bset]; exact hD⟩
        refine lv_iinc (v := nI (i + 1)) (lv' := [(1, .int (nI (i + 1))), (0, .ref (ad 0))]) hx hb dX4_changed_30 hl (k := 0) rfl (nI_add i 1) (by decide) rfl (fun ls hl => ?_)
        refine lv_goto (tgt := 12) hx hb dX4_changed_33 (by decide) ?_
        rw [show (upd (fun j => tt_b (tt_ki K i j).2.1) i (vp_nar .boolean (tt_b (K i).1))) = fun j => tt_b (tt_ki K (i + 1) j).2.1 from tt_ki_upd K i] at h9
        exact ih (i + 1) cx (by omega) h9 H locs ls hP hD hS (lv_sub hl [0, 1] rfl)
  refine lv_aload_n hx hb dX4_changed_0 rfl (lv_at hl 0 rfl) ?_
  refine lv_dup hx hb dX4_changed_1 rfl ?_
  refine va_get (D := D) (ci := 4) (v := .int (nI ch)) (C := RX4) (T := TX4) (N := 11) hx hb hts hinX4 hown hK hP 0 (tt_bg (by omega) h9.1) rfl 2 (by decide) hf55 (fun _ h9 => h9) rfl dX4_changed_2 ?_
  refine lv_iconst (v := 1) hx hb dX4_changed_5 (by decide) ?_
  refine lv_iadd hx hb dX4_changed_6 ?_
  refine tt_rei (show ((nI ch) + 1) = nI (ch + 1) from nI_add ch 1) ?_
  refine va_put (D := D) (ci := 4) (v := .int (nI (ch + 1))) (ty := .int) (C := RX4) (T := TX4) (N := 11) hx hb hts hinX4 tyX4 tyX4_ok nmX4 hown hK hP hD hS 0 (tt_bg (by omega) h9.1) rfl 2 (by decide) hf55 (fun _ h9 => h9) rfl (by decide +kernel) rfl rfl (Nat.le_of_ble_eq_true rfl) dX4_changed_7 (fun H locs hP hD hS => ?_)
  obtain ⟨cx, h9, hP, hD⟩ : ∃ zg : Nat → va_E, tt_C9 zg (.inr (4, [.ref (ad 1), .int (nI n), .int (nI (ch + 1)), .ref (ad 2), .ref (ad 3), .ref (ad 4), .ref (ad 5), .ref (ad 6), .ref (ad 7), .ref (ad 8), .int mt])) (.inl (cI, 6303, .inl f)) (.inl (cZ, 8, .inl (fun j => tt_b (K j).1))) (.inl (cZ, 8, .inl (fun j => tt_b (K j).2.1))) (.inl (cI, 8, .inl (fun j => nI (K j).2.2.1))) (.inl (cI, 24, .inl (tt_kp K))) (.inl (cI, 8, .inl (fun j => nI (K j).2.2.2.2.2.2 - 1))) (.inl (cI, 1402, .inl me)) (.inl (cI, 1402, .inl ms)) ∧ va_P D vwCl (tt_blk 9 ad zg) H ∧ va_D A (tt_blk 9 ad zg) := ⟨_, h9.set0, by rw [← tt_bset]; exact hP, by rw [← tt_bset]; exact hD⟩
  refine lv_iconst (v := 0) hx hb dX4_changed_10 (by decide) ?_
  refine lv_istore_n (lv' := [(1, .int 0), (0, .ref (ad 0))]) hx hb dX4_changed_11 rfl hl (by decide) rfl (fun ls hl => ?_)
  rw [show (fun j => tt_b (K j).2.1) = (fun j => tt_b (tt_ki K 0 j).2.1) from tt_ki_0 K] at h9
  exact loop 8 0 cx (by omega) h9 _ _ ls hP hD hS (lv_sub hl [0, 1] rfl)
set_option maxHeartbeats 4000000 in
set_option maxRecDepth 100000 in
theorem c_X4_add (l : Launch) (D : va_G) (cI cZ cO cC : ClassId) (ad : Nat → Nat) (cx : Nat → va_E) (n : Nat) (L : Nat → List tt_T3) (ch : Nat) (K : Nat → tt_KU) (hQ : tt_Q cI cZ ad cx n L ch K) (s1 p1 o1 : Int32) (hI : tt_I L) (hn : n = (L 0).length) (hlt : n < 700) : tt_Muti (S := (Nat → va_E)) l yX4_add wsX4_add ({ frames := 4, cells := 0, slots := 0, locals := 101 } : Room) D (tt_tys cI cZ cO cC) false (tt_blk 9 ad cx) [.ref (ad 0), .int s1, .int p1, .int o1] (fun r u => (0 < tt_mn 7 s1 p1 o1 L ∧ r = 0 ∧ tt_Q cI cZ ad u n L ch K) ∨ (¬ 0 < tt_mn 7 s1 p1 o1 L ∧ r = 1 ∧ tt_Q cI cZ ad u (n + 1) (tt_La (s1, p1, o1) L) (ch + 1) (tt_ks K))) (fun u => tt_blk 9 ad u) := by
  refine tt_muti (cc := cX4_add) (maxL := 8) (rt := .int) (by decide) rfl (fun _ _ _ => rfl) (Nat.le_of_ble_eq_true rfl) ?_
  intro p e s m below meth c Q ls A hfix hK hP hD hA hE hl kr
  obtain ⟨hx, hb, hml, hown, hts⟩ := id hfix
  have hown : s.vm.findClass RX4 = some m.cls := hown
  have hfix : CallFix p m c cX4_add 8 s ([.ref (ad 0), .int s1, .int p1, .int o1] : List Value).toArray wsX4_add RX4 := hfix
  have hl : lv_has ls 8 [(0, .ref (ad 0)), (1, .int s1), (2, .int p1), (3, .int o1)] := hl
  have hf35 := hts (.fieldLink RX4 35 "TripleTreesModel" "size" "I") (by decide +kernel)
  have hf7 := hts (.fieldLink RX4 7 "TripleTreesModel" "rows" "[I") (by decide +kernel)
  have hinX4 : ∀ w ∈ u_ws RX4 TX4 11, w ∈ wsX4_add := by decide +kernel
  have hS : va_S A s.heap s.heap [] := va_S.rf
  obtain ⟨mt, f, me, ms, h9, hf⟩ := id hQ
  have h700 := (hI 0 (by omega)).2.2
  have hls : ∀ i, i < 3 → (L i).length = n := fun i hi => (hI i hi).2.1.length_eq.trans hn.symm
  refine lv_aload_n hx hb dX4_add_0 rfl (lv_at hl 0 rfl) ?_
  refine lv_iload_n hx hb dX4_add_1 rfl (lv_at hl 1 rfl) ?_
  refine lv_iload_n hx hb dX4_add_2 rfl (lv_at hl 2 rfl) ?_
  refine lv_iload_n hx hb dX4_add_3 rfl (lv_at hl 3 rfl) ?_
  have hPc := hP
  refine tt_calli (va_runV (As := [.int s1, .int p1, .int o1]) (rest := []) hfix (c_X4_holds l D cI cZ cO cC ad cx n L ch K hQ s1 p1 o1 hI hn) (cwV 3 hts gX4_add_X4_holds rfl rfl rfl (by decide +kernel) ⟨Nat.le_of_ble_eq_true rfl, Nat.le_of_ble_eq_true rfl⟩) (tt_preV (q0 := 0) (ci := 4) hK hPc tt_E.no (tt_bg (by omega) h9.1) rfl) rfl rfl hl.1 rfl (lv_room (Nat.le_of_ble_eq_true rfl)) dX4_add_4 ⟨Nat.zero_le _, Nat.zero_le _⟩) hP hS (fun H locs hP hS => ?_)
  refine lv_if_eq (tgt := 12) hx hb dX4_add_7 (by decide) (fun hb7 => ?_) (fun hb7 => ?_)
  · refine lv_aload_n hx hb dX4_add_12 rfl (lv_at hl 0 rfl) ?_
    refine va_get (D := D) (ci := 4) (v := .int (nI n)) (C := RX4) (T := TX4) (N := 11) hx hb hts hinX4 hown hK hP 0 (tt_bg (by omega) h9.1) rfl 1 (by decide) hf35 (fun _ h9 => h9) rfl dX4_add_13 ?_
    refine lv_sipush (v := 700) hx hb dX4_add_16 (by decide) ?_
    refine lv_icmp_ne (tgt := 25) hx hb dX4_add_19 (by decide) (fun hb19 => ?_) (fun hb19 => ?_)
    · have hb19 : ¬ n = 700 := fun hz9 => hb19 ((nI_eq (a := n) (b := 700) (by omega) (by omega)).mpr hz9)
      have hno := tt_if0 hb7
      have loop : ∀ (d k : Nat) (cx : Nat → va_E) (f : Nat → Int32), (d + k = 3) → (∀ i, i < 3 → tt_RQ i f (tt_Lm (s1, p1, o1) L k i)) → (tt_C9 cx (.inr (4, [.ref (ad 1), .int (nI n), .int (nI ch), .ref (ad 2), .ref (ad 3), .ref (ad 4), .ref (ad 5), .ref (ad 6), .ref (ad 7), .ref (ad 8), .int mt])) (.inl (cI, 6303, .inl f)) (.inl (cZ, 8, .inl (fun j => tt_b (K j).1))) (.inl (cZ, 8, .inl (fun j => tt_b (K j).2.1))) (.inl (cI, 8, .inl (fun j => nI (K j).2.2.1))) (.inl (cI, 24, .inl (tt_kp K))) (.inl (cI, 8, .inl (fun j => nI (K j).2.2.2.2.2.2 - 1))) (.inl (cI, 1402, .inl me)) (.inl (cI, 1402, .inl ms))) → ∀ (H : Heap) (locs : List Loc) (ls : Array Slot), va_P D vwCl (tt_blk 9 ad cx) H → va_D A (tt_blk 9 ad cx) → va_S A s.heap H locs → lv_has ls 8 [(4, .int (nI k)), (0, .ref (ad 0)), (1, .int s1), (2, .int p1), (3, .int o1)] → W p l e ({ frames := 4, cells := 0, slots := 0, locals := 101 } : Room) s m ([.ref (ad 0), .int s1, .int p1, .int o1] : List Value).toArray below meth c H locs 0 0 Q (F0 m 28 ls []) := by
        intro d
        induction d with
        | zero =>
          intro k cx f hd hf hc9 H locs ls hP hD hS hl
          have h9 := hc9
          refine lv_iload hx hb dX4_add_28 (lv_at hl 0 rfl) ?_
          refine lv_iconst (v := 3) hx hb dX4_add_30 (by decide) ?_
          refine lv_icmp_ge (tgt := 149) hx hb dX4_add_31 (by decide) (fun hb31 => ?_) (fun hb31 => ?_)
          · have hb31 : 3 ≤ k := (nI_leI (a := 3) (b := k) (by omega) (by omega)).mp hb31
            have hk3 : k = 3 := by omega
            subst hk3
            have hf : ∀ k, k < 3 → tt_RQ k f (tt_La (s1, p1, o1) L k) := fun k hk => by have := hf k hk; rwa [show tt_Lm (s1, p1, o1) L 3 k = tt_La (s1, p1, o1) L k from if_pos hk] at this
            refine lv_aload_n hx hb dX4_add_149 rfl (lv_at hl 1 rfl) ?_
            refine lv_dup hx hb dX4_add_150 rfl ?_
            refine va_get (D := D) (ci := 4) (v := .int (nI n)) (C := RX4) (T := TX4) (N := 11) hx hb hts hinX4 hown hK hP 0 (tt_bg (by omega) h9.1) rfl 1 (by decide) hf35 (fun _ h9 => h9) rfl dX4_add_151 ?_
            refine lv_iconst (v := 1) hx hb dX4_add_154 (by decide) ?_
            refine lv_iadd hx hb dX4_add_155 ?_
            refine tt_rei (show ((nI n) + 1) = nI (n + 1) from nI_add n 1) ?_
            refine va_put (D := D) (ci := 4) (v := .int (nI (n + 1))) (ty := .int) (C := RX4) (T := TX4) (N := 11) hx hb hts hinX4 tyX4 tyX4_ok nmX4 hown hK hP hD hS 0 (tt_bg (by omega) h9.1) rfl 1 (by decide) hf35 (fun _ h9 => h9) rfl (by decide +kernel) rfl rfl (Nat.le_of_ble_eq_true rfl) dX4_add_156 (fun H locs hP hD hS => ?_)
            obtain ⟨cx, h9, hP, hD⟩ : ∃ zg : Nat → va_E, tt_C9 zg (.inr (4, [.ref (ad 1), .int (nI (n + 1)), .int (nI ch), .ref (ad 2), .ref (ad 3), .ref (ad 4), .ref (ad 5), .ref (ad 6), .ref (ad 7), .ref (ad 8), .int mt])) (.inl (cI, 6303, .inl f)) (.inl (cZ, 8, .inl (fun j => tt_b (K j).1))) (.inl (cZ, 8, .inl (fun j => tt_b (K j).2.1))) (.inl (cI, 8, .inl (fun j => nI (K j).2.2.1))) (.inl (cI, 24, .inl (tt_kp K))) (.inl (cI, 8, .inl (fun j => nI (K j).2.2.2.2.2.2 - 1))) (.inl (cI, 1402, .inl me)) (.inl (cI, 1402, .inl ms)) ∧ va_P D vwCl (tt_blk 9 ad zg) H ∧ va_D A (tt_blk 9 ad zg) := ⟨_, h9.set0, by rw [← tt_bset]; exact hP, by rw [← tt_bset]; exact hD⟩
            refine lv_aload_n hx hb dX4_add_159 rfl (lv_at hl 1 rfl) ?_
            refine tt_fullv (va_runV (As := []) (rest := []) hfix (c_X4_changed l D cI cZ cO cC ad cx (n + 1) (tt_La (s1, p1, o1) L) ch K ⟨mt, f, me, ms, h9, hf⟩ _) (cwV 0 hts gX4_add_X4_changed rfl rfl rfl (by decide +kernel) ⟨Nat.le_of_ble_eq_true rfl, Nat.le_of_ble_eq_true rfl⟩) (tt_mpreV (q0 := 0) (ci := 4) hK hP hD tt_E.no (tt_bg (by omega) h9.1) rfl) rfl rfl hl.1 rfl (lv_room (Nat.le_of_ble_eq_true rfl)) dX4_add_160 ⟨Nat.zero_le _, Nat.zero_le _⟩) hD hS hA (fun cx H locs hQ hP hD hS => ?_)
            refine lv_iconst (v := 1) hx hb dX4_add_163 (by decide) ?_
            exact kr _ _ _ _ _ cx (Or.inr ⟨hno, rfl, hQ⟩) hP hS dX4_add_164
          · have hb31 : ¬ 3 ≤ k := fun hz9 => hb31 ((nI_leI (a := 3) (b := k) (by omega) (by omega)).mpr hz9)
            exact absurd hb31 (by omega)
        | succ d ih =>
          intro k cx f hd hf hc9 H locs ls hP hD hS hl
          have h9 := hc9
          have hk : k < 3 := by omega
          have hlk : (L k).length = n := hls k hk
          have hpo := tt_pos_le k (s1, p1, o1) (L k)
          refine lv_iload hx hb dX4_add_28 (lv_at hl 0 rfl) ?_
          refine lv_iconst (v := 3) hx hb dX4_add_30 (by decide) ?_
          refine lv_icmp_ge (tgt := 149) hx hb dX4_add_31 (by decide) (fun hb31 => ?_) (fun hb31 => ?_)
          · have hb31 : 3 ≤ k := (nI_leI (a := 3) (b := k) (by omega) (by omega)).mp hb31
            exact absurd hb31 (by omega)
          · have hb31 : ¬ 3 ≤ k := fun hz9 => hb31 ((nI_leI (a := 3) (b := k) (by omega) (by omega)).mpr hz9)
            refine lv_aload_n hx hb dX4_add_34 rfl (lv_at hl 1 rfl) ?_
            refine lv_iload hx hb dX4_add_35 (lv_at hl 0 rfl) ?_
            refine lv_iload_n hx hb dX4_add_37 rfl (lv_at hl 2 rfl) ?_
            refine lv_iload_n hx hb dX4_add_38 rfl (lv_at hl 3 rfl) ?_
            refine lv_iload_n hx hb dX4_add_39 rfl (lv_at hl 4 rfl) ?_
            have hPc := hP
            refine tt_calli (va_runV (As := [.int (nI k), .int s1, .int p1, .int o1]) (rest := []) hfix (c_X4_placeOf l D cI cZ cO cC ad cx n (tt_Lm (s1, p1, o1) L k) ch K ⟨mt, f, me, ms, h9, hf⟩ k s1 p1 o1 hk (by rw [tt_Lm_at]; exact (hI k hk).1) (by rw [tt_Lm_at]; exact hlk) (by omega)) (cwV 4 hts gX4_add_X4_placeOf rfl rfl rfl (by decide +kernel) ⟨Nat.le_of_ble_eq_true rfl, Nat.le_of_ble_eq_true rfl⟩) (tt_preV (q0 := 0) (ci := 4) hK hPc tt_E.no (tt_bg (by omega) h9.1) rfl) rfl rfl hl.1 rfl (lv_room (Nat.le_of_ble_eq_true rfl)) dX4_add_40 ⟨Nat.zero_le _, Nat.zero_le _⟩) hP hS (fun H locs hP hS => ?_)
            refine tt_rei (show (nI (tt_pos k (s1, p1, o1) (tt_Lm (s1, p1, o1) L k k))) = nI (tt_pos k (s1, p1, o1) (L k)) from congrArg (fun z => nI (tt_pos k (s1, p1, o1) z)) (tt_Lm_at (s1, p1, o1) L k)) ?_
            refine lv_istore (lv' := [(5, .int (nI (tt_pos k (s1, p1, o1) (L k)))), (4, .int (nI k)), (0, .ref (ad 0)), (1, .int s1), (2, .int p1), (3, .int o1)]) hx hb dX4_add_43 hl (by decide) rfl (fun ls hl => ?_)
            refine lv_sipush (v := 2101) hx hb dX4_add_45 (by decide) ?_
            refine lv_iload hx hb dX4_add_48 (lv_at hl 1 rfl) ?_
            refine lv_imul hx hb dX4_add_50 ?_
            refine tt_rei (show (2101 * (nI k)) = nI (2101 * k) from pk_mul 2101 k) ?_
            refine lv_istore (lv' := [(6, .int (nI (2101 * k))), (5, .int (nI (tt_pos k (s1, p1, o1) (L k)))), (4, .int (nI k)), (0, .ref (ad 0)), (1, .int s1), (2, .int p1), (3, .int o1)]) hx hb dX4_add_51 hl (by decide) rfl (fun ls hl => ?_)
            refine lv_iconst (v := 3) hx hb dX4_add_53 (by decide) ?_
            refine lv_aload_n hx hb dX4_add_54 rfl (lv_at hl 3 rfl) ?_
            refine va_get (D := D) (ci := 4) (v := .int (nI n)) (C := RX4) (T := TX4) (N := 11) hx hb hts hinX4 hown hK hP 0 (tt_bg (by omega) h9.1) rfl 1 (by decide) hf35 (fun _ h9 => h9) rfl dX4_add_55 ?_
            refine lv_imul hx hb dX4_add_58 ?_
            refine tt_rei (show (3 * (nI n)) = nI (3 * n) from pk_mul 3 n) ?_
            refine lv_iconst (v := 1) hx hb dX4_add_59 (by decide) ?_
            refine lv_isub hx hb dX4_add_60 ?_
            refine lv_istore (lv' := [(7, .int ((nI (3 * n)) - 1)), (6, .int (nI (2101 * k))), (5, .int (nI (tt_pos k (s1, p1, o1) (L k)))), (4, .int (nI k)), (0, .ref (ad 0)), (1, .int s1), (2, .int p1), (3, .int o1)]) hx hb dX4_add_61 hl (by decide) rfl (fun ls hl => ?_)
            have loop2 : ∀ (e1 : Nat) (cx : Nat → va_E) (g : Nat → Int32), (3 * (tt_pos k (s1, p1, o1) (L k)) + e1 ≤ 3 * n) → (tt_sh f g (2101 * k) (3 * (tt_pos k (s1, p1, o1) (L k)) + e1) (3 * n)) → (tt_C9 cx (.inr (4, [.ref (ad 1), .int (nI n), .int (nI ch), .ref (ad 2), .ref (ad 3), .ref (ad 4), .ref (ad 5), .ref (ad 6), .ref (ad 7), .ref (ad 8), .int mt])) (.inl (cI, 6303, .inl g)) (.inl (cZ, 8, .inl (fun j => tt_b (K j).1))) (.inl (cZ, 8, .inl (fun j => tt_b (K j).2.1))) (.inl (cI, 8, .inl (fun j => nI (K j).2.2.1))) (.inl (cI, 24, .inl (tt_kp K))) (.inl (cI, 8, .inl (fun j => nI (K j).2.2.2.2.2.2 - 1))) (.inl (cI, 1402, .inl me)) (.inl (cI, 1402, .inl ms))) → ∀ (H : Heap) (locs : List Loc) (ls : Array Slot), va_P D vwCl (tt_blk 9 ad cx) H → va_D A (tt_blk 9 ad cx) → va_S A s.heap H locs → lv_has ls 8 [(7, .int (nI (3 * (tt_pos k (s1, p1, o1) (L k)) + e1) - 1)), (6, .int (nI (2101 * k))), (5, .int (nI (tt_pos k (s1, p1, o1) (L k)))), (4, .int (nI k)), (0, .ref (ad 0)), (1, .int s1), (2, .int p1), (3, .int o1)] → W p l e ({ frames := 4, cells := 0, slots := 0, locals := 101 } : Room) s m ([.ref (ad 0), .int s1, .int p1, .int o1] : List Value).toArray below meth c H locs 0 0 Q (F0 m 63 ls []) := by
              intro e1
              induction e1 with
              | zero =>
                intro cx g he hg hg9 H locs ls hP hD hS hl
                have h9 := hg9
                refine lv_iload hx hb dX4_add_63 (lv_at hl 0 rfl) ?_
                refine lv_iconst (v := 3) hx hb dX4_add_65 (by decide) ?_
                refine lv_iload hx hb dX4_add_66 (lv_at hl 2 rfl) ?_
                refine lv_imul hx hb dX4_add_68 ?_
                refine tt_rei (show (3 * (nI (tt_pos k (s1, p1, o1) (L k)))) = nI (3 * (tt_pos k (s1, p1, o1) (L k))) from pk_mul 3 (tt_pos k (s1, p1, o1) (L k))) ?_
                refine lv_icmp_lt (tgt := 100) hx hb dX4_add_69 (by decide) (fun hb69 => ?_) (fun hb69 => ?_)
                · refine lv_aload_n hx hb dX4_add_100 rfl (lv_at hl 4 rfl) ?_
                  refine va_get (D := D) (ci := 4) (v := .ref (ad 1)) (C := RX4) (T := TX4) (N := 11) hx hb hts hinX4 hown hK hP 0 (tt_bg (by omega) h9.1) rfl 0 (by decide) hf7 (fun _ h9 => h9) rfl dX4_add_101 ?_
                  refine lv_iload hx hb dX4_add_104 (lv_at hl 1 rfl) ?_
                  refine lv_iconst (v := 3) hx hb dX4_add_106 (by decide) ?_
                  refine lv_iload hx hb dX4_add_107 (lv_at hl 2 rfl) ?_
                  refine lv_imul hx hb dX4_add_109 ?_
                  refine tt_rei (show (3 * (nI (tt_pos k (s1, p1, o1) (L k)))) = nI (3 * (tt_pos k (s1, p1, o1) (L k))) from pk_mul 3 (tt_pos k (s1, p1, o1) (L k))) ?_
                  refine lv_iadd hx hb dX4_add_110 ?_
                  refine tt_rei (show ((nI (2101 * k)) + (nI (3 * (tt_pos k (s1, p1, o1) (L k))))) = nI (2101 * k + (3 * (tt_pos k (s1, p1, o1) (L k)))) from nI_add (2101 * k) (3 * (tt_pos k (s1, p1, o1) (L k)))) ?_
                  refine lv_iload_n hx hb dX4_add_111 rfl (lv_at hl 5 rfl) ?_
                  refine va_iast hx hb hK hP hD hS 1 0 (tt_bg (by omega) h9.2.1) rfl (vp_in_nI (n := 2101 * k + (3 * (tt_pos k (s1, p1, o1) (L k)))) (by omega) (by omega)) dX4_add_112 (fun H locs hP hD hS => ?_)
                  rw [nI_clamp (n := 2101 * k + (3 * (tt_pos k (s1, p1, o1) (L k)))) (by omega)] at hP hD
                  obtain ⟨cx, h9, hP, hD⟩ : ∃ zg : Nat → va_E, tt_C9 zg (.inr (4, [.ref (ad 1), .int (nI n), .int (nI ch), .ref (ad 2), .ref (ad 3), .ref (ad 4), .ref (ad 5), .ref (ad 6), .ref (ad 7), .ref (ad 8), .int mt])) (.inl (cI, 6303, .inl (upd g (2101 * k + (3 * (tt_pos k (s1, p1, o1) (L k)))) s1))) (.inl (cZ, 8, .inl (fun j => tt_b (K j).1))) (.inl (cZ, 8, .inl (fun j => tt_b (K j).2.1))) (.inl (cI, 8, .inl (fun j => nI (K j).2.2.1))) (.inl (cI, 24, .inl (tt_kp K))) (.inl (cI, 8, .inl (fun j => nI (K j).2.2.2.2.2.2 - 1))) (.inl (cI, 1402, .inl me)) (.inl (cI, 1402, .inl ms)) ∧ va_P D vwCl (tt_blk 9 ad zg) H ∧ va_D A (tt_blk 9 ad zg) := ⟨_, h9.set1, by rw [← tt_bset]; exact hP, by rw [← tt_bset]; exact hD⟩
                  refine lv_aload_n hx hb dX4_add_113 rfl (lv_at hl 4 rfl) ?_
                  refine va_get (D := D) (ci := 4) (v := .ref (ad 1)) (C := RX4) (T := TX4) (N := 11) hx hb hts hinX4 hown hK hP 0 (tt_bg (by omega) h9.1) rfl 0 (by decide) hf7 (fun _ h9 => h9) rfl dX4_add_114 ?_
                  refine lv_iload hx hb dX4_add_117 (lv_at hl 1 rfl) ?_
                  refine lv_iconst (v := 3) hx hb dX4_add_119 (by decide) ?_
                  refine lv_iload hx hb dX4_add_120 (lv_at hl 2 rfl) ?_
                  refine lv_imul hx hb dX4_add_122 ?_
                  refine tt_rei (show (3 * (nI (tt_pos k (s1, p1, o1) (L k)))) = nI (3 * (tt_pos k (s1, p1, o1) (L k))) from pk_mul 3 (tt_pos k (s1, p1, o1) (L k))) ?_
                  refine lv_iadd hx hb dX4_add_123 ?_
                  refine tt_rei (show ((nI (2101 * k)) + (nI (3 * (tt_pos k (s1, p1, o1) (L k))))) = nI (2101 * k + (3 * (tt_pos k (s1, p1, o1) (L k)))) from nI_add (2101 * k) (3 * (tt_pos k (s1, p1, o1) (L k)))) ?_
                  refine lv_iconst (v := 1) hx hb dX4_add_124 (by decide) ?_
                  refine lv_iadd hx hb dX4_add_125 ?_
                  refine tt_rei (show ((nI (2101 * k + (3 * (tt_pos k (s1, p1, o1) (L k))))) + 1) = nI (2101 * k + (3 * (tt_pos k (s1, p1, o1) (L k))) + 1) from nI_add (2101 * k + (3 * (tt_pos k (s1, p1, o1) (L k)))) 1) ?_
                  refine lv_iload_n hx hb dX4_add_126 rfl (lv_at hl 6 rfl) ?_
                  refine va_iast hx hb hK hP hD hS 1 0 (tt_bg (by omega) h9.2.1) rfl (vp_in_nI (n := 2101 * k + (3 * (tt_pos k (s1, p1, o1) (L k))) + 1) (by omega) (by omega)) dX4_add_127 (fun H locs hP hD hS => ?_)
                  rw [nI_clamp (n := 2101 * k + (3 * (tt_pos k (s1, p1, o1) (L k))) + 1) (by omega)] at hP hD
                  obtain ⟨cx, h9, hP, hD⟩ : ∃ zg : Nat → va_E, tt_C9 zg (.inr (4, [.ref (ad 1), .int (nI n), .int (nI ch), .ref (ad 2), .ref (ad 3), .ref (ad 4), .ref (ad 5), .ref (ad 6), .ref (ad 7), .ref (ad 8), .int mt])) (.inl (cI, 6303, .inl (upd (upd g (2101 * k + (3 * (tt_pos k (s1, p1, o1) (L k)))) s1) (2101 * k + (3 * (tt_pos k (s1, p1, o1) (L k))) + 1) p1))) (.inl (cZ, 8, .inl (fun j => tt_b (K j).1))) (.inl (cZ, 8, .inl (fun j => tt_b (K j).2.1))) (.inl (cI, 8, .inl (fun j => nI (K j).2.2.1))) (.inl (cI, 24, .inl (tt_kp K))) (.inl (cI, 8, .inl (fun j => nI (K j).2.2.2.2.2.2 - 1))) (.inl (cI, 1402, .inl me)) (.inl (cI, 1402, .inl ms)) ∧ va_P D vwCl (tt_blk 9 ad zg) H ∧ va_D A (tt_blk 9 ad zg) := ⟨_, h9.set1, by rw [← tt_bset]; exact hP, by rw [← tt_bset]; exact hD⟩
                  refine lv_aload_n hx hb dX4_add_128 rfl (lv_at hl 4 rfl) ?_
                  refine va_get (D := D) (ci := 4) (v := .ref (ad 1)) (C := RX4) (T := TX4) (N := 11) hx hb hts hinX4 hown hK hP 0 (tt_bg (by omega) h9.1) rfl 0 (by decide) hf7 (fun _ h9 => h9) rfl dX4_add_129 ?_
                  refine lv_iload hx hb dX4_add_132 (lv_at hl 1 rfl) ?_
                  refine lv_iconst (v := 3) hx hb dX4_add_134 (by decide) ?_
                  refine lv_iload hx hb dX4_add_135 (lv_at hl 2 rfl) ?_
                  refine lv_imul hx hb dX4_add_137 ?_
                  refine tt_rei (show (3 * (nI (tt_pos k (s1, p1, o1) (L k)))) = nI (3 * (tt_pos k (s1, p1, o1) (L k))) from pk_mul 3 (tt_pos k (s1, p1, o1) (L k))) ?_
                  refine lv_iadd hx hb dX4_add_138 ?_
                  refine tt_rei (show ((nI (2101 * k)) + (nI (3 * (tt_pos k (s1, p1, o1) (L k))))) = nI (2101 * k + (3 * (tt_pos k (s1, p1, o1) (L k)))) from nI_add (2101 * k) (3 * (tt_pos k (s1, p1, o1) (L k)))) ?_
                  refine lv_iconst (v := 2) hx hb dX4_add_139 (by decide) ?_
                  refine lv_iadd hx hb dX4_add_140 ?_
                  refine tt_rei (show ((nI (2101 * k + (3 * (tt_pos k (s1, p1, o1) (L k))))) + 2) = nI (2101 * k + (3 * (tt_pos k (s1, p1, o1) (L k))) + 2) from nI_add (2101 * k + (3 * (tt_pos k (s1, p1, o1) (L k)))) 2) ?_
                  refine lv_iload_n hx hb dX4_add_141 rfl (lv_at hl 7 rfl) ?_
                  refine va_iast hx hb hK hP hD hS 1 0 (tt_bg (by omega) h9.2.1) rfl (vp_in_nI (n := 2101 * k + (3 * (tt_pos k (s1, p1, o1) (L k))) + 2) (by omega) (by omega)) dX4_add_142 (fun H locs hP hD hS => ?_)
                  rw [nI_clamp (n := 2101 * k + (3 * (tt_pos k (s1, p1, o1) (L k))) + 2) (by omega)] at hP hD
                  obtain ⟨cx, h9, hP, hD⟩ : ∃ zg : Nat → va_E, tt_C9 zg (.inr (4, [.ref (ad 1), .int (nI n), .int (nI ch), .ref (ad 2), .ref (ad 3), .ref (ad 4), .ref (ad 5), .ref (ad 6), .ref (ad 7), .ref (ad 8), .int mt])) (.inl (cI, 6303, .inl (upd (upd (upd g (2101 * k + (3 * (tt_pos k (s1, p1, o1) (L k)))) s1) (2101 * k + (3 * (tt_pos k (s1, p1, o1) (L k))) + 1) p1) (2101 * k + (3 * (tt_pos k (s1, p1, o1) (L k))) + 2) o1))) (.inl (cZ, 8, .inl (fun j => tt_b (K j).1))) (.inl (cZ, 8, .inl (fun j => tt_b (K j).2.1))) (.inl (cI, 8, .inl (fun j => nI (K j).2.2.1))) (.inl (cI, 24, .inl (tt_kp K))) (.inl (cI, 8, .inl (fun j => nI (K j).2.2.2.2.2.2 - 1))) (.inl (cI, 1402, .inl me)) (.inl (cI, 1402, .inl ms)) ∧ va_P D vwCl (tt_blk 9 ad zg) H ∧ va_D A (tt_blk 9 ad zg) := ⟨_, h9.set1, by rw [← tt_bset]; exact hP, by rw [← tt_bset]; exact hD⟩
                  refine lv_iinc (v := nI (k + 1)) (lv' := [(4, .int (nI (k + 1))), (7, .int (nI (3 * (tt_pos k (s1, p1, o1) (L k)) + 0) - 1)), (6, .int (nI (2101 * k))), (5, .int (nI (tt_pos k (s1, p1, o1) (L k)))), (0, .ref (ad 0)), (1, .int s1), (2, .int p1), (3, .int o1)]) hx hb dX4_add_143 hl (k := 3) rfl (nI_add k 1) (by decide) rfl (fun ls hl => ?_)
                  refine lv_goto (tgt := 28) hx hb dX4_add_146 (by decide) ?_
                  exact ih (k + 1) cx (upd (upd (upd g (2101 * k + (3 * (tt_pos k (s1, p1, o1) (L k)))) s1) (2101 * k + (3 * (tt_pos k (s1, p1, o1) (L k))) + 1) p1) (2101 * k + (3 * (tt_pos k (s1, p1, o1) (L k))) + 2) o1) (by omega) (tt_RQ_ins hk hls hlt hf hg) h9 H locs ls hP hD hS (lv_sub hl [0, 4, 5, 6, 7] rfl)
                · exact absurd (tt_pred_lt (by omega)) hb69
              | succ e1 ih2 =>
                intro cx g he hg hg9 H locs ls hP hD hS hl
                have h9 := hg9
                rw [show nI (3 * (tt_pos k (s1, p1, o1) (L k)) + (e1 + 1)) - 1 = nI (3 * (tt_pos k (s1, p1, o1) (L k)) + e1) from nI_pred _] at hl
                refine lv_iload hx hb dX4_add_63 (lv_at hl 0 rfl) ?_
                refine lv_iconst (v := 3) hx hb dX4_add_65 (by decide) ?_
                refine lv_iload hx hb dX4_add_66 (lv_at hl 2 rfl) ?_
                refine lv_imul hx hb dX4_add_68 ?_
                refine tt_rei (show (3 * (nI (tt_pos k (s1, p1, o1) (L k)))) = nI (3 * (tt_pos k (s1, p1, o1) (L k))) from pk_mul 3 (tt_pos k (s1, p1, o1) (L k))) ?_
                refine lv_icmp_lt (tgt := 100) hx hb dX4_add_69 (by decide) (fun hb69 => ?_) (fun hb69 => ?_)
                · have hb69 : 3 * (tt_pos k (s1, p1, o1) (L k)) + e1 < 3 * (tt_pos k (s1, p1, o1) (L k)) := (nI_ltI (a := 3 * (tt_pos k (s1, p1, o1) (L k)) + e1) (b := 3 * (tt_pos k (s1, p1, o1) (L k))) (by omega) (by omega)).mp hb69
                  exact absurd hb69 (by omega)
                · have hb69 : ¬ 3 * (tt_pos k (s1, p1, o1) (L k)) + e1 < 3 * (tt_pos k (s1, p1, o1) (L k)) := fun hz9 => hb69 ((nI_ltI (a := 3 * (tt_pos k (s1, p1, o1) (L k)) + e1) (b := 3 * (tt_pos k (s1, p1, o1) (L k))) (by omega) (by omega)).mpr hz9)
                  refine lv_aload_n hx hb dX4_add_72 rfl (lv_at hl 4 rfl) ?_
                  refine va_get (D := D) (ci := 4) (v := .ref (ad 1)) (C := RX4) (T := TX4) (N := 11) hx hb hts hinX4 hown hK hP 0 (tt_bg (by omega) h9.1) rfl 0 (by decide) hf7 (fun _ h9 => h9) rfl dX4_add_73 ?_
                  refine lv_iload hx hb dX4_add_76 (lv_at hl 1 rfl) ?_
                  refine lv_iload hx hb dX4_add_78 (lv_at hl 0 rfl) ?_
                  refine lv_iadd hx hb dX4_add_80 ?_
                  refine tt_rei (show ((nI (2101 * k)) + (nI (3 * (tt_pos k (s1, p1, o1) (L k)) + e1))) = nI (2101 * k + (3 * (tt_pos k (s1, p1, o1) (L k)) + e1)) from nI_add (2101 * k) (3 * (tt_pos k (s1, p1, o1) (L k)) + e1)) ?_
                  refine lv_iconst (v := 3) hx hb dX4_add_81 (by decide) ?_
                  refine lv_iadd hx hb dX4_add_82 ?_
                  refine tt_rei (show ((nI (2101 * k + (3 * (tt_pos k (s1, p1, o1) (L k)) + e1))) + 3) = nI (2101 * k + (3 * (tt_pos k (s1, p1, o1) (L k)) + e1) + 3) from nI_add (2101 * k + (3 * (tt_pos k (s1, p1, o1) (L k)) + e1)) 3) ?_
                  refine lv_aload_n hx hb dX4_add_83 rfl (lv_at hl 4 rfl) ?_
                  refine va_get (D := D) (ci := 4) (v := .ref (ad 1)) (C := RX4) (T := TX4) (N := 11) hx hb hts hinX4 hown hK hP 0 (tt_bg (by omega) h9.1) rfl 0 (by decide) hf7 (fun _ h9 => h9) rfl dX4_add_84 ?_
                  refine lv_iload hx hb dX4_add_87 (lv_at hl 1 rfl) ?_
                  refine lv_iload hx hb dX4_add_89 (lv_at hl 0 rfl) ?_
                  refine lv_iadd hx hb dX4_add_91 ?_
                  refine tt_rei (show ((nI (2101 * k)) + (nI (3 * (tt_pos k (s1, p1, o1) (L k)) + e1))) = nI (2101 * k + (3 * (tt_pos k (s1, p1, o1) (L k)) + e1)) from nI_add (2101 * k) (3 * (tt_pos k (s1, p1, o1) (L k)) + e1)) ?_
                  refine va_iald hx hb hK hP 1 0 (tt_bg (by omega) h9.2.1) rfl (vp_in_nI (n := 2101 * k + (3 * (tt_pos k (s1, p1, o1) (L k)) + e1)) (by omega) (by omega)) dX4_add_92 ?_
                  refine tt_rei (show (g (nI (2101 * k + (3 * (tt_pos k (s1, p1, o1) (L k)) + e1))).toNatClampNeg) = g (2101 * k + (3 * (tt_pos k (s1, p1, o1) (L k)) + e1)) from congrArg g (nI_clamp (n := 2101 * k + (3 * (tt_pos k (s1, p1, o1) (L k)) + e1)) (by omega))) ?_
                  refine va_iast hx hb hK hP hD hS 1 0 (tt_bg (by omega) h9.2.1) rfl (vp_in_nI (n := 2101 * k + (3 * (tt_pos k (s1, p1, o1) (L k)) + e1) + 3) (by omega) (by omega)) dX4_add_93 (fun H locs hP hD hS => ?_)
                  rw [nI_clamp (n := 2101 * k + (3 * (tt_pos k (s1, p1, o1) (L k)) + e1) + 3) (by omega)] at hP hD
                  obtain ⟨cx, h9, hP, hD⟩ : ∃ zg : Nat → va_E, tt_C9 zg (.inr (4, [.ref (ad 1), .int (nI n), .int (nI ch), .ref (ad 2), .ref (ad 3), .ref (ad 4), .ref (ad 5), .ref (ad 6), .ref (ad 7), .ref (ad 8), .int mt])) (.inl (cI, 6303, .inl (upd g (2101 * k + (3 * (tt_pos k (s1, p1, o1) (L k)) + e1) + 3) (g (2101 * k + (3 * (tt_pos k (s1, p1, o1) (L k)) + e1)))))) (.inl (cZ, 8, .inl (fun j => tt_b (K j).1))) (.inl (cZ, 8, .inl (fun j => tt_b (K j).2.1))) (.inl (cI, 8, .inl (fun j => nI (K j).2.2.1))) (.inl (cI, 24, .inl (tt_kp K))) (.inl (cI, 8, .inl (fun j => nI (K j).2.2.2.2.2.2 - 1))) (.inl (cI, 1402, .inl me)) (.inl (cI, 1402, .inl ms)) ∧ va_P D vwCl (tt_blk 9 ad zg) H ∧ va_D A (tt_blk 9 ad zg) := ⟨_, h9.set1, by rw [← tt_bset]; exact hP, by rw [← tt_bset]; exact hD⟩
                  refine lv_iinc (v := nI (3 * (tt_pos k (s1, p1, o1) (L k)) + e1) - 1) (lv' := [(7, .int (nI (3 * (tt_pos k (s1, p1, o1) (L k)) + e1) - 1)), (6, .int (nI (2101 * k))), (5, .int (nI (tt_pos k (s1, p1, o1) (L k)))), (4, .int (nI k)), (0, .ref (ad 0)), (1, .int s1), (2, .int p1), (3, .int o1)]) hx hb dX4_add_94 hl (k := 0) rfl (tt_dec _) (by decide) rfl (fun ls hl => ?_)
                  refine lv_goto (tgt := 63) hx hb dX4_add_97 (by decide) ?_
                  exact ih2 cx (upd g (2101 * k + (3 * (tt_pos k (s1, p1, o1) (L k)) + e1) + 3) (g (2101 * k + (3 * (tt_pos k (s1, p1, o1) (L k)) + e1)))) (by omega) (tt_sh_up hg (by omega)) h9 H locs ls hP hD hS (lv_sub hl [0, 1, 2, 3, 4, 5, 6, 7] rfl)
            have hl := lv_sub hl (l' := [(7, .int (nI (3 * n) - 1)), (6, .int (nI (2101 * k))), (5, .int (nI (tt_pos k (s1, p1, o1) (L k)))), (4, .int (nI k)), (0, .ref (ad 0)), (1, .int s1), (2, .int p1), (3, .int o1)]) [0, 1, 2, 3, 4, 5, 6, 7] rfl
            rw [show nI (3 * n) - 1 = nI (3 * (tt_pos k (s1, p1, o1) (L k)) + (3 * n - 3 * (tt_pos k (s1, p1, o1) (L k)))) - 1 by rw [Nat.add_sub_cancel' (by omega)]] at hl
            exact loop2 (3 * n - 3 * (tt_pos k (s1, p1, o1) (L k))) cx f (by omega) (tt_sh_0 f (by omega)) h9 _ _ ls hP hD hS hl
      refine lv_iconst (v := 0) hx hb dX4_add_25 (by decide) ?_
      refine lv_istore (lv' := [(4, .int 0), (0, .ref (ad 0)), (1, .int s1), (2, .int p1), (3, .int o1)]) hx hb dX4_add_26 hl (by decide) rfl (fun ls hl => ?_)
      exact loop 3 0 cx f (by omega) (fun i hi => by have := hf i hi; rwa [show tt_Lm (s1, p1, o1) L 0 i = L i from if_neg (by omega)]) h9 _ _ ls hP hD hS (lv_sub hl [0, 1, 2, 3, 4] rfl)
    · have hb19 : n = 700 := (nI_eq (a := n) (b := 700) (by omega) (by omega)).mp hb19
      exact absurd hb19 (by omega)
  · refine lv_iconst (v := 0) hx hb dX4_add_10 (by decide) ?_
    exact kr _ _ _ _ _ cx (Or.inl ⟨tt_if1 hb7, rfl, mt, f, me, ms, h9, hf⟩) hP hS dX4_add_11
set_option maxHeartbeats 4000000 in
set_option maxRecDepth 100000 in
theorem c_X4_remove (l : Launch) (D : va_G) (cI cZ cO cC : ClassId) (ad : Nat → Nat) (cx : Nat → va_E) (n : Nat) (L : Nat → List tt_T3) (ch : Nat) (K : Nat → tt_KU) (hQ : tt_Q cI cZ ad cx n L ch K) (s1 p1 o1 : Int32) (hI : tt_I L) (hn : n = (L 0).length) : tt_Muti (S := (Nat → va_E)) l yX4_remove wsX4_remove ({ frames := 4, cells := 0, slots := 0, locals := 101 } : Room) D (tt_tys cI cZ cO cC) false (tt_blk 9 ad cx) [.ref (ad 0), .int s1, .int p1, .int o1] (fun r u => (¬ 0 < tt_mn 7 s1 p1 o1 L ∧ r = 0 ∧ tt_Q cI cZ ad u n L ch K) ∨ (0 < tt_mn 7 s1 p1 o1 L ∧ r = 1 ∧ tt_Q cI cZ ad u (n - 1) (tt_Ld (s1, p1, o1) L) (ch + 1) (tt_ks K))) (fun u => tt_blk 9 ad u) := by
  refine tt_muti (cc := cX4_remove) (maxL := 8) (rt := .boolean) (by decide) rfl (fun r _ h => by rcases h with ⟨-, h, -⟩ | ⟨-, h, -⟩ <;> (rw [h]; rfl)) (Nat.le_of_ble_eq_true rfl) ?_
  intro p e s m below meth c Q ls A hfix hK hP hD hA hE hl kr
  obtain ⟨hx, hb, hml, hown, hts⟩ := id hfix
  have hown : s.vm.findClass RX4 = some m.cls := hown
  have hfix : CallFix p m c cX4_remove 8 s ([.ref (ad 0), .int s1, .int p1, .int o1] : List Value).toArray wsX4_remove RX4 := hfix
  have hl : lv_has ls 8 [(0, .ref (ad 0)), (1, .int s1), (2, .int p1), (3, .int o1)] := hl
  have hf35 := hts (.fieldLink RX4 35 "TripleTreesModel" "size" "I") (by decide +kernel)
  have hf7 := hts (.fieldLink RX4 7 "TripleTreesModel" "rows" "[I") (by decide +kernel)
  have hinX4 : ∀ w ∈ u_ws RX4 TX4 11, w ∈ wsX4_remove := by decide +kernel
  have hS : va_S A s.heap s.heap [] := va_S.rf
  obtain ⟨mt, f, me, ms, h9, hf⟩ := id hQ
  have h700 := (hI 0 (by omega)).2.2
  have hls : ∀ i, i < 3 → (L i).length = n := fun i hi => (hI i hi).2.1.length_eq.trans hn.symm
  refine lv_aload_n hx hb dX4_remove_0 rfl (lv_at hl 0 rfl) ?_
  refine lv_iload_n hx hb dX4_remove_1 rfl (lv_at hl 1 rfl) ?_
  refine lv_iload_n hx hb dX4_remove_2 rfl (lv_at hl 2 rfl) ?_
  refine lv_iload_n hx hb dX4_remove_3 rfl (lv_at hl 3 rfl) ?_
  have hPc := hP
  refine tt_calli (va_runV (As := [.int s1, .int p1, .int o1]) (rest := []) hfix (c_X4_holds l D cI cZ cO cC ad cx n L ch K hQ s1 p1 o1 hI hn) (cwV 3 hts gX4_remove_X4_holds rfl rfl rfl (by decide +kernel) ⟨Nat.le_of_ble_eq_true rfl, Nat.le_of_ble_eq_true rfl⟩) (tt_preV (q0 := 0) (ci := 4) hK hPc tt_E.no (tt_bg (by omega) h9.1) rfl) rfl rfl hl.1 rfl (lv_room (Nat.le_of_ble_eq_true rfl)) dX4_remove_4 ⟨Nat.zero_le _, Nat.zero_le _⟩) hP hS (fun H locs hP hS => ?_)
  refine lv_if_ne (tgt := 12) hx hb dX4_remove_7 (by decide) (fun hb7 => ?_) (fun hb7 => ?_)
  · have hno := tt_if1 hb7
    have hmem := (tt_mem7 s1 p1 o1 hI).mp hno
    have hpos := List.length_pos_of_mem hmem
    have loop : ∀ (d k : Nat) (cx : Nat → va_E) (f : Nat → Int32), (d + k = 3) → (∀ i, i < 3 → tt_RQ i f (tt_Lz (s1, p1, o1) L k i)) → (tt_C9 cx (.inr (4, [.ref (ad 1), .int (nI n), .int (nI ch), .ref (ad 2), .ref (ad 3), .ref (ad 4), .ref (ad 5), .ref (ad 6), .ref (ad 7), .ref (ad 8), .int mt])) (.inl (cI, 6303, .inl f)) (.inl (cZ, 8, .inl (fun j => tt_b (K j).1))) (.inl (cZ, 8, .inl (fun j => tt_b (K j).2.1))) (.inl (cI, 8, .inl (fun j => nI (K j).2.2.1))) (.inl (cI, 24, .inl (tt_kp K))) (.inl (cI, 8, .inl (fun j => nI (K j).2.2.2.2.2.2 - 1))) (.inl (cI, 1402, .inl me)) (.inl (cI, 1402, .inl ms))) → ∀ (H : Heap) (locs : List Loc) (ls : Array Slot), va_P D vwCl (tt_blk 9 ad cx) H → va_D A (tt_blk 9 ad cx) → va_S A s.heap H locs → lv_has ls 8 [(4, .int (nI k)), (0, .ref (ad 0)), (1, .int s1), (2, .int p1), (3, .int o1)] → W p l e ({ frames := 4, cells := 0, slots := 0, locals := 101 } : Room) s m ([.ref (ad 0), .int s1, .int p1, .int o1] : List Value).toArray below meth c H locs 0 0 Q (F0 m 15 ls []) := by
      intro d
      induction d with
      | zero =>
        intro k cx f hd hf hc9 H locs ls hP hD hS hl
        have h9 := hc9
        refine lv_iload hx hb dX4_remove_15 (lv_at hl 0 rfl) ?_
        refine lv_iconst (v := 3) hx hb dX4_remove_17 (by decide) ?_
        refine lv_icmp_ge (tgt := 93) hx hb dX4_remove_18 (by decide) (fun hb18 => ?_) (fun hb18 => ?_)
        · have hb18 : 3 ≤ k := (nI_leI (a := 3) (b := k) (by omega) (by omega)).mp hb18
          have hk3 : k = 3 := by omega
          subst hk3
          have hf : ∀ k, k < 3 → tt_RQ k f (tt_Ld (s1, p1, o1) L k) := fun k hk => by have := hf k hk; rwa [show tt_Lz (s1, p1, o1) L 3 k = tt_Ld (s1, p1, o1) L k from if_pos hk] at this
          refine lv_aload_n hx hb dX4_remove_93 rfl (lv_at hl 1 rfl) ?_
          refine lv_dup hx hb dX4_remove_94 rfl ?_
          refine va_get (D := D) (ci := 4) (v := .int (nI n)) (C := RX4) (T := TX4) (N := 11) hx hb hts hinX4 hown hK hP 0 (tt_bg (by omega) h9.1) rfl 1 (by decide) hf35 (fun _ h9 => h9) rfl dX4_remove_95 ?_
          refine lv_iconst (v := 1) hx hb dX4_remove_98 (by decide) ?_
          refine lv_isub hx hb dX4_remove_99 ?_
          refine tt_rei (show ((nI n) - 1) = nI (n - 1) from pk_sub (a := n) (b := 1) (by omega)) ?_
          refine va_put (D := D) (ci := 4) (v := .int (nI (n - 1))) (ty := .int) (C := RX4) (T := TX4) (N := 11) hx hb hts hinX4 tyX4 tyX4_ok nmX4 hown hK hP hD hS 0 (tt_bg (by omega) h9.1) rfl 1 (by decide) hf35 (fun _ h9 => h9) rfl (by decide +kernel) rfl rfl (Nat.le_of_ble_eq_true rfl) dX4_remove_100 (fun H locs hP hD hS => ?_)
          obtain ⟨cx, h9, hP, hD⟩ : ∃ zg : Nat → va_E, tt_C9 zg (.inr (4, [.ref (ad 1), .int (nI (n - 1)), .int (nI ch), .ref (ad 2), .ref (ad 3), .ref (ad 4), .ref (ad 5), .ref (ad 6), .ref (ad 7), .ref (ad 8), .int mt])) (.inl (cI, 6303, .inl f)) (.inl (cZ, 8, .inl (fun j => tt_b (K j).1))) (.inl (cZ, 8, .inl (fun j => tt_b (K j).2.1))) (.inl (cI, 8, .inl (fun j => nI (K j).2.2.1))) (.inl (cI, 24, .inl (tt_kp K))) (.inl (cI, 8, .inl (fun j => nI (K j).2.2.2.2.2.2 - 1))) (.inl (cI, 1402, .inl me)) (.inl (cI, 1402, .inl ms)) ∧ va_P D vwCl (tt_blk 9 ad zg) H ∧ va_D A (tt_blk 9 ad zg) := ⟨_, h9.set0, by rw [← tt_bset]; exact hP, by rw [← tt_bset]; exact hD⟩
          refine lv_aload_n hx hb dX4_remove_103 rfl (lv_at hl 1 rfl) ?_
          refine tt_fullv (va_runV (As := []) (rest := []) hfix (c_X4_changed l D cI cZ cO cC ad cx (n - 1) (tt_Ld (s1, p1, o1) L) ch K ⟨mt, f, me, ms, h9, hf⟩ _) (cwV 0 hts gX4_remove_X4_changed rfl rfl rfl (by decide +kernel) ⟨Nat.le_of_ble_eq_true rfl, Nat.le_of_ble_eq_true rfl⟩) (tt_mpreV (q0 := 0) (ci := 4) hK hP hD tt_E.no (tt_bg (by omega) h9.1) rfl) rfl rfl hl.1 rfl (lv_room (Nat.le_of_ble_eq_true rfl)) dX4_remove_104 ⟨Nat.zero_le _, Nat.zero_le _⟩) hD hS hA (fun cx H locs hQ hP hD hS => ?_)
          refine lv_iconst (v := 1) hx hb dX4_remove_107 (by decide) ?_
          exact kr _ _ _ _ _ cx (Or.inr ⟨hno, rfl, hQ⟩) hP hS dX4_remove_108
        · have hb18 : ¬ 3 ≤ k := fun hz9 => hb18 ((nI_leI (a := 3) (b := k) (by omega) (by omega)).mpr hz9)
          exact absurd hb18 (by omega)
      | succ d ih =>
        intro k cx f hd hf hc9 H locs ls hP hD hS hl
        have h9 := hc9
        have hk : k < 3 := by omega
        have hlk : (L k).length = n := hls k hk
        have hpo := tt_pos_le k (s1, p1, o1) (L k)
        obtain ⟨hpj, hpt⟩ := tt_pos_mem (hI k hk).1 ((hI k hk).2.1.mem_iff.mpr hmem)
        refine lv_iload hx hb dX4_remove_15 (lv_at hl 0 rfl) ?_
        refine lv_iconst (v := 3) hx hb dX4_remove_17 (by decide) ?_
        refine lv_icmp_ge (tgt := 93) hx hb dX4_remove_18 (by decide) (fun hb18 => ?_) (fun hb18 => ?_)
        · have hb18 : 3 ≤ k := (nI_leI (a := 3) (b := k) (by omega) (by omega)).mp hb18
          exact absurd hb18 (by omega)
        · have hb18 : ¬ 3 ≤ k := fun hz9 => hb18 ((nI_leI (a := 3) (b := k) (by omega) (by omega)).mpr hz9)
          refine lv_aload_n hx hb dX4_remove_21 rfl (lv_at hl 1 rfl) ?_
          refine lv_iload hx hb dX4_remove_22 (lv_at hl 0 rfl) ?_
          refine lv_iload_n hx hb dX4_remove_24 rfl (lv_at hl 2 rfl) ?_
          refine lv_iload_n hx hb dX4_remove_25 rfl (lv_at hl 3 rfl) ?_
          refine lv_iload_n hx hb dX4_remove_26 rfl (lv_at hl 4 rfl) ?_
          have hPc := hP
          refine tt_calli (va_runV (As := [.int (nI k), .int s1, .int p1, .int o1]) (rest := []) hfix (c_X4_placeOf l D cI cZ cO cC ad cx n (tt_Lz (s1, p1, o1) L k) ch K ⟨mt, f, me, ms, h9, hf⟩ k s1 p1 o1 hk (by rw [tt_Lz_at]; exact (hI k hk).1) (by rw [tt_Lz_at]; exact hlk) (by omega)) (cwV 4 hts gX4_remove_X4_placeOf rfl rfl rfl (by decide +kernel) ⟨Nat.le_of_ble_eq_true rfl, Nat.le_of_ble_eq_true rfl⟩) (tt_preV (q0 := 0) (ci := 4) hK hPc tt_E.no (tt_bg (by omega) h9.1) rfl) rfl rfl hl.1 rfl (lv_room (Nat.le_of_ble_eq_true rfl)) dX4_remove_27 ⟨Nat.zero_le _, Nat.zero_le _⟩) hP hS (fun H locs hP hS => ?_)
          refine tt_rei (show (nI (tt_pos k (s1, p1, o1) (tt_Lz (s1, p1, o1) L k k))) = nI (tt_pos k (s1, p1, o1) (L k)) from congrArg (fun z => nI (tt_pos k (s1, p1, o1) z)) (tt_Lz_at (s1, p1, o1) L k)) ?_
          refine lv_istore (lv' := [(5, .int (nI (tt_pos k (s1, p1, o1) (L k)))), (4, .int (nI k)), (0, .ref (ad 0)), (1, .int s1), (2, .int p1), (3, .int o1)]) hx hb dX4_remove_30 hl (by decide) rfl (fun ls hl => ?_)
          refine lv_sipush (v := 2101) hx hb dX4_remove_32 (by decide) ?_
          refine lv_iload hx hb dX4_remove_35 (lv_at hl 1 rfl) ?_
          refine lv_imul hx hb dX4_remove_37 ?_
          refine tt_rei (show (2101 * (nI k)) = nI (2101 * k) from pk_mul 2101 k) ?_
          refine lv_istore (lv' := [(6, .int (nI (2101 * k))), (5, .int (nI (tt_pos k (s1, p1, o1) (L k)))), (4, .int (nI k)), (0, .ref (ad 0)), (1, .int s1), (2, .int p1), (3, .int o1)]) hx hb dX4_remove_38 hl (by decide) rfl (fun ls hl => ?_)
          refine lv_iconst (v := 3) hx hb dX4_remove_40 (by decide) ?_
          refine lv_iload hx hb dX4_remove_41 (lv_at hl 1 rfl) ?_
          refine lv_imul hx hb dX4_remove_43 ?_
          refine tt_rei (show (3 * (nI (tt_pos k (s1, p1, o1) (L k)))) = nI (3 * (tt_pos k (s1, p1, o1) (L k))) from pk_mul 3 (tt_pos k (s1, p1, o1) (L k))) ?_
          refine lv_istore (lv' := [(7, .int (nI (3 * (tt_pos k (s1, p1, o1) (L k))))), (6, .int (nI (2101 * k))), (5, .int (nI (tt_pos k (s1, p1, o1) (L k)))), (4, .int (nI k)), (0, .ref (ad 0)), (1, .int s1), (2, .int p1), (3, .int o1)]) hx hb dX4_remove_44 hl (by decide) rfl (fun ls hl => ?_)
          have loop2 : ∀ (e1 i1 : Nat) (cx : Nat → va_E) (g : Nat → Int32), (3 * (tt_pos k (s1, p1, o1) (L k)) + i1 + e1 = 3 * n - 3) → (tt_sd f g (2101 * k) (3 * (tt_pos k (s1, p1, o1) (L k))) (3 * (tt_pos k (s1, p1, o1) (L k)) + i1)) → (tt_C9 cx (.inr (4, [.ref (ad 1), .int (nI n), .int (nI ch), .ref (ad 2), .ref (ad 3), .ref (ad 4), .ref (ad 5), .ref (ad 6), .ref (ad 7), .ref (ad 8), .int mt])) (.inl (cI, 6303, .inl g)) (.inl (cZ, 8, .inl (fun j => tt_b (K j).1))) (.inl (cZ, 8, .inl (fun j => tt_b (K j).2.1))) (.inl (cI, 8, .inl (fun j => nI (K j).2.2.1))) (.inl (cI, 24, .inl (tt_kp K))) (.inl (cI, 8, .inl (fun j => nI (K j).2.2.2.2.2.2 - 1))) (.inl (cI, 1402, .inl me)) (.inl (cI, 1402, .inl ms))) → ∀ (H : Heap) (locs : List Loc) (ls : Array Slot), va_P D vwCl (tt_blk 9 ad cx) H → va_D A (tt_blk 9 ad cx) → va_S A s.heap H locs → lv_has ls 8 [(7, .int (nI (3 * (tt_pos k (s1, p1, o1) (L k)) + i1))), (6, .int (nI (2101 * k))), (5, .int (nI (tt_pos k (s1, p1, o1) (L k)))), (4, .int (nI k)), (0, .ref (ad 0)), (1, .int s1), (2, .int p1), (3, .int o1)] → W p l e ({ frames := 4, cells := 0, slots := 0, locals := 101 } : Room) s m ([.ref (ad 0), .int s1, .int p1, .int o1] : List Value).toArray below meth c H locs 0 0 Q (F0 m 46 ls []) := by
            intro e1
            induction e1 with
            | zero =>
              intro i1 cx g he hg hg9 H locs ls hP hD hS hl
              have h9 := hg9
              refine lv_iload hx hb dX4_remove_46 (lv_at hl 0 rfl) ?_
              refine lv_iconst (v := 3) hx hb dX4_remove_48 (by decide) ?_
              refine lv_aload_n hx hb dX4_remove_49 rfl (lv_at hl 4 rfl) ?_
              refine va_get (D := D) (ci := 4) (v := .int (nI n)) (C := RX4) (T := TX4) (N := 11) hx hb hts hinX4 hown hK hP 0 (tt_bg (by omega) h9.1) rfl 1 (by decide) hf35 (fun _ h9 => h9) rfl dX4_remove_50 ?_
              refine lv_imul hx hb dX4_remove_53 ?_
              refine tt_rei (show (3 * (nI n)) = nI (3 * n) from pk_mul 3 n) ?_
              refine lv_iconst (v := 3) hx hb dX4_remove_54 (by decide) ?_
              refine lv_isub hx hb dX4_remove_55 ?_
              refine tt_rei (show ((nI (3 * n)) - 3) = nI (3 * n - 3) from pk_sub (a := 3 * n) (b := 3) (by omega)) ?_
              refine lv_icmp_ge (tgt := 87) hx hb dX4_remove_56 (by decide) (fun hb56 => ?_) (fun hb56 => ?_)
              · have hb56 : 3 * n - 3 ≤ 3 * (tt_pos k (s1, p1, o1) (L k)) + i1 := (nI_leI (a := 3 * n - 3) (b := 3 * (tt_pos k (s1, p1, o1) (L k)) + i1) (by omega) (by omega)).mp hb56
                refine lv_iinc (v := nI (k + 1)) (lv' := [(4, .int (nI (k + 1))), (7, .int (nI (3 * (tt_pos k (s1, p1, o1) (L k)) + i1))), (6, .int (nI (2101 * k))), (5, .int (nI (tt_pos k (s1, p1, o1) (L k)))), (0, .ref (ad 0)), (1, .int s1), (2, .int p1), (3, .int o1)]) hx hb dX4_remove_87 hl (k := 3) rfl (nI_add k 1) (by decide) rfl (fun ls hl => ?_)
                refine lv_goto (tgt := 15) hx hb dX4_remove_90 (by decide) ?_
                exact ih (k + 1) cx g (by omega) (tt_RQ_del hk hls (by omega) (tt_I_nd hI hk) hpt hpj hf (by rw [show 3 * n - 3 = 3 * (tt_pos k (s1, p1, o1) (L k)) + i1 by omega]; exact hg)) h9 H locs ls hP hD hS (lv_sub hl [0, 4, 5, 6, 7] rfl)
              · have hb56 : ¬ 3 * n - 3 ≤ 3 * (tt_pos k (s1, p1, o1) (L k)) + i1 := fun hz9 => hb56 ((nI_leI (a := 3 * n - 3) (b := 3 * (tt_pos k (s1, p1, o1) (L k)) + i1) (by omega) (by omega)).mpr hz9)
                exact absurd hb56 (by omega)
            | succ e1 ih2 =>
              intro i1 cx g he hg hg9 H locs ls hP hD hS hl
              have h9 := hg9
              refine lv_iload hx hb dX4_remove_46 (lv_at hl 0 rfl) ?_
              refine lv_iconst (v := 3) hx hb dX4_remove_48 (by decide) ?_
              refine lv_aload_n hx hb dX4_remove_49 rfl (lv_at hl 4 rfl) ?_
              refine va_get (D := D) (ci := 4) (v := .int (nI n)) (C := RX4) (T := TX4) (N := 11) hx hb hts hinX4 hown hK hP 0 (tt_bg (by omega) h9.1) rfl 1 (by decide) hf35 (fun _ h9 => h9) rfl dX4_remove_50 ?_
              refine lv_imul hx hb dX4_remove_53 ?_
              refine tt_rei (show (3 * (nI n)) = nI (3 * n) from pk_mul 3 n) ?_
              refine lv_iconst (v := 3) hx hb dX4_remove_54 (by decide) ?_
              refine lv_isub hx hb dX4_remove_55 ?_
              refine tt_rei (show ((nI (3 * n)) - 3) = nI (3 * n - 3) from pk_sub (a := 3 * n) (b := 3) (by omega)) ?_
              refine lv_icmp_ge (tgt := 87) hx hb dX4_remove_56 (by decide) (fun hb56 => ?_) (fun hb56 => ?_)
              · have hb56 : 3 * n - 3 ≤ 3 * (tt_pos k (s1, p1, o1) (L k)) + i1 := (nI_leI (a := 3 * n - 3) (b := 3 * (tt_pos k (s1, p1, o1) (L k)) + i1) (by omega) (by omega)).mp hb56
                exact absurd hb56 (by omega)
              · have hb56 : ¬ 3 * n - 3 ≤ 3 * (tt_pos k (s1, p1, o1) (L k)) + i1 := fun hz9 => hb56 ((nI_leI (a := 3 * n - 3) (b := 3 * (tt_pos k (s1, p1, o1) (L k)) + i1) (by omega) (by omega)).mpr hz9)
                refine lv_aload_n hx hb dX4_remove_59 rfl (lv_at hl 4 rfl) ?_
                refine va_get (D := D) (ci := 4) (v := .ref (ad 1)) (C := RX4) (T := TX4) (N := 11) hx hb hts hinX4 hown hK hP 0 (tt_bg (by omega) h9.1) rfl 0 (by decide) hf7 (fun _ h9 => h9) rfl dX4_remove_60 ?_
                refine lv_iload hx hb dX4_remove_63 (lv_at hl 1 rfl) ?_
                refine lv_iload hx hb dX4_remove_65 (lv_at hl 0 rfl) ?_
                refine lv_iadd hx hb dX4_remove_67 ?_
                refine tt_rei (show ((nI (2101 * k)) + (nI (3 * (tt_pos k (s1, p1, o1) (L k)) + i1))) = nI (2101 * k + (3 * (tt_pos k (s1, p1, o1) (L k)) + i1)) from nI_add (2101 * k) (3 * (tt_pos k (s1, p1, o1) (L k)) + i1)) ?_
                refine lv_aload_n hx hb dX4_remove_68 rfl (lv_at hl 4 rfl) ?_
                refine va_get (D := D) (ci := 4) (v := .ref (ad 1)) (C := RX4) (T := TX4) (N := 11) hx hb hts hinX4 hown hK hP 0 (tt_bg (by omega) h9.1) rfl 0 (by decide) hf7 (fun _ h9 => h9) rfl dX4_remove_69 ?_
                refine lv_iload hx hb dX4_remove_72 (lv_at hl 1 rfl) ?_
                refine lv_iload hx hb dX4_remove_74 (lv_at hl 0 rfl) ?_
                refine lv_iadd hx hb dX4_remove_76 ?_
                refine tt_rei (show ((nI (2101 * k)) + (nI (3 * (tt_pos k (s1, p1, o1) (L k)) + i1))) = nI (2101 * k + (3 * (tt_pos k (s1, p1, o1) (L k)) + i1)) from nI_add (2101 * k) (3 * (tt_pos k (s1, p1, o1) (L k)) + i1)) ?_
                refine lv_iconst (v := 3) hx hb dX4_remove_77 (by decide) ?_
                refine lv_iadd hx hb dX4_remove_78 ?_
                refine tt_rei (show ((nI (2101 * k + (3 * (tt_pos k (s1, p1, o1) (L k)) + i1))) + 3) = nI (2101 * k + (3 * (tt_pos k (s1, p1, o1) (L k)) + i1) + 3) from nI_add (2101 * k + (3 * (tt_pos k (s1, p1, o1) (L k)) + i1)) 3) ?_
                refine va_iald hx hb hK hP 1 0 (tt_bg (by omega) h9.2.1) rfl (vp_in_nI (n := 2101 * k + (3 * (tt_pos k (s1, p1, o1) (L k)) + i1) + 3) (by omega) (by omega)) dX4_remove_79 ?_
                refine tt_rei (show (g (nI (2101 * k + (3 * (tt_pos k (s1, p1, o1) (L k)) + i1) + 3)).toNatClampNeg) = g (2101 * k + (3 * (tt_pos k (s1, p1, o1) (L k)) + i1) + 3) from congrArg g (nI_clamp (n := 2101 * k + (3 * (tt_pos k (s1, p1, o1) (L k)) + i1) + 3) (by omega))) ?_
                refine va_iast hx hb hK hP hD hS 1 0 (tt_bg (by omega) h9.2.1) rfl (vp_in_nI (n := 2101 * k + (3 * (tt_pos k (s1, p1, o1) (L k)) + i1)) (by omega) (by omega)) dX4_remove_80 (fun H locs hP hD hS => ?_)
                rw [nI_clamp (n := 2101 * k + (3 * (tt_pos k (s1, p1, o1) (L k)) + i1)) (by omega)] at hP hD
                obtain ⟨cx, h9, hP, hD⟩ : ∃ zg : Nat → va_E, tt_C9 zg (.inr (4, [.ref (ad 1), .int (nI n), .int (nI ch), .ref (ad 2), .ref (ad 3), .ref (ad 4), .ref (ad 5), .ref (ad 6), .ref (ad 7), .ref (ad 8), .int mt])) (.inl (cI, 6303, .inl (upd g (2101 * k + (3 * (tt_pos k (s1, p1, o1) (L k)) + i1)) (g (2101 * k + (3 * (tt_pos k (s1, p1, o1) (L k)) + i1) + 3))))) (.inl (cZ, 8, .inl (fun j => tt_b (K j).1))) (.inl (cZ, 8, .inl (fun j => tt_b (K j).2.1))) (.inl (cI, 8, .inl (fun j => nI (K j).2.2.1))) (.inl (cI, 24, .inl (tt_kp K))) (.inl (cI, 8, .inl (fun j => nI (K j).2.2.2.2.2.2 - 1))) (.inl (cI, 1402, .inl me)) (.inl (cI, 1402, .inl ms)) ∧ va_P D vwCl (tt_blk 9 ad zg) H ∧ va_D A (tt_blk 9 ad zg) := ⟨_, h9.set1, by rw [← tt_bset]; exact hP, by rw [← tt_bset]; exact hD⟩
                refine lv_iinc (v := nI (3 * (tt_pos k (s1, p1, o1) (L k)) + i1 + 1)) (lv' := [(7, .int (nI (3 * (tt_pos k (s1, p1, o1) (L k)) + i1 + 1))), (6, .int (nI (2101 * k))), (5, .int (nI (tt_pos k (s1, p1, o1) (L k)))), (4, .int (nI k)), (0, .ref (ad 0)), (1, .int s1), (2, .int p1), (3, .int o1)]) hx hb dX4_remove_81 hl (k := 0) rfl (nI_add (3 * (tt_pos k (s1, p1, o1) (L k)) + i1) 1) (by decide) rfl (fun ls hl => ?_)
                refine lv_goto (tgt := 46) hx hb dX4_remove_84 (by decide) ?_
                exact ih2 (i1 + 1) cx (upd g (2101 * k + (3 * (tt_pos k (s1, p1, o1) (L k)) + i1)) (g (2101 * k + (3 * (tt_pos k (s1, p1, o1) (L k)) + i1) + 3))) (by omega) (tt_sd_up hg) h9 H locs ls hP hD hS (lv_sub hl [0, 1, 2, 3, 4, 5, 6, 7] rfl)
          exact loop2 (3 * n - 3 - 3 * (tt_pos k (s1, p1, o1) (L k))) 0 cx f (by omega) (tt_sd_0 f _ _) h9 _ _ ls hP hD hS (lv_sub (l' := [(7, .int (nI (3 * (tt_pos k (s1, p1, o1) (L k)) + 0))), (6, .int (nI (2101 * k))), (5, .int (nI (tt_pos k (s1, p1, o1) (L k)))), (4, .int (nI k)), (0, .ref (ad 0)), (1, .int s1), (2, .int p1), (3, .int o1)]) hl [0, 1, 2, 3, 4, 5, 6, 7] rfl)
    refine lv_iconst (v := 0) hx hb dX4_remove_12 (by decide) ?_
    refine lv_istore (lv' := [(4, .int 0), (0, .ref (ad 0)), (1, .int s1), (2, .int p1), (3, .int o1)]) hx hb dX4_remove_13 hl (by decide) rfl (fun ls hl => ?_)
    exact loop 3 0 cx f (by omega) (fun i hi => by have := hf i hi; rwa [show tt_Lz (s1, p1, o1) L 0 i = L i from if_neg (by omega)]) h9 _ _ ls hP hD hS (lv_sub hl [0, 1, 2, 3, 4] rfl)
  · refine lv_iconst (v := 0) hx hb dX4_remove_10 (by decide) ?_
    exact kr _ _ _ _ _ cx (Or.inl ⟨tt_if0 hb7, rfl, mt, f, me, ms, h9, hf⟩) hP hS dX4_remove_11

/-! own rows: the reference's walks -/
def tt_QS (cI cZ : ClassId) (ad : Nat → Nat) (cx : Nat → va_E) (n : Nat) (L : Nat → List tt_T3) (ch : Nat) (K : Nat → tt_KU) (M : tt_MM) : Prop := ∃ (f me ms : Nat → Int32), tt_C9 cx (.inr (4, [.ref (ad 1), .int (nI n), .int (nI ch), .ref (ad 2), .ref (ad 3), .ref (ad 4), .ref (ad 5), .ref (ad 6), .ref (ad 7), .ref (ad 8), .int (nI M.length)])) (.inl (cI, 6303, .inl f)) (.inl (cZ, 8, .inl (fun j => tt_b (K j).1))) (.inl (cZ, 8, .inl (fun j => tt_b (K j).2.1))) (.inl (cI, 8, .inl (fun j => nI (K j).2.2.1))) (.inl (cI, 24, .inl (tt_kp K))) (.inl (cI, 8, .inl (fun j => nI (K j).2.2.2.2.2.2 - 1))) (.inl (cI, 1402, .inl me)) (.inl (cI, 1402, .inl ms)) ∧ (∀ k, k < 3 → tt_RQ k f (L k)) ∧ tt_MR M me ms
theorem tt_mg_app {M : tt_MM} {e : Int32 × Int32} {k : Nat} (h : k < M.length) : tt_mg (M ++ [e]) k = tt_mg M k := by
  unfold tt_mg
  rw [List.getD_eq_getElem?_getD, List.getD_eq_getElem?_getD, List.getElem?_append_left h]
theorem tt_wo_pre (l : List tt_T3) (p v sv : Int32) {M : tt_MM} {k : Nat} (hk : k < M.length) : ∀ j, tt_mg (tt_wo l p v sv M j) k = tt_mg M k
  | 0 => rfl
  | j + 1 => by
    have ih := tt_wo_pre l p v sv hk j
    have hlen := tt_wo_len l p v sv M j
    show tt_mg (tt_wv p v sv (tt_gt l j) (tt_wo l p v sv M j)) k = _
    unfold tt_wv
    split
    · rw [tt_mg_app (by omega)]
      exact ih
    · exact ih
theorem tt_fi_no {M : tt_MM} {x : Int32} (h : (if tt_fi M x < M.length then nI (tt_fi M x) else (-1)) = -1) (hl : M.length < 2 ^ 31 := by omega) : x ∉ M.map Prod.fst := by
  intro hm
  have h1 := (tt_fi_mem M x).mpr hm
  rw [if_pos h1] at h
  have h2 := congrArg Int32.toInt h
  rw [nI_toInt (by omega), show (-1 : Int32).toInt = -1 by decide] at h2
  omega
theorem tt_fi_yes {M : tt_MM} {x : Int32} (hl : M.length < 2 ^ 31) (h : ¬ (if tt_fi M x < M.length then nI (tt_fi M x) else (-1)) = -1) (hn : x ∉ M.map Prod.fst) : False := by
  refine h (if_neg (fun h1 => hn ((tt_fi_mem M x).mp h1)))
theorem tt_fi_lt {M : tt_MM} {x : Int32} (h : ¬ (if tt_fi M x < M.length then nI (tt_fi M x) else (-1)) = -1) : tt_fi M x < M.length := Decidable.byContradiction (fun q => h (if_neg q))
theorem tt_fi_nlt {M : tt_MM} {x : Int32} (hl : M.length < 2 ^ 31) (h : (if tt_fi M x < M.length then nI (tt_fi M x) else (-1)) = -1) : ¬ tt_fi M x < M.length := fun q => tt_fi_no h hl ((tt_fi_mem M x).mp q)
set_option maxHeartbeats 4000000 in
set_option maxRecDepth 100000 in
theorem c_X4_find (l : Launch) (D : va_G) (cI cZ cO cC : ClassId) (ad : Nat → Nat) (cx : Nat → va_E) (n : Nat) (L : Nat → List tt_T3) (ch : Nat) (K : Nat → tt_KU) (M : tt_MM) (hQ : tt_QS cI cZ ad cx n L ch K M) (x1 : Int32) (hml : M.length ≤ 1402) : tt_Pure l yX4_find wsX4_find ({ frames := 0, cells := 0, slots := 0, locals := 0 } : Room) D (tt_tys cI cZ cO cC) false (tt_blk 9 ad cx) [.ref (ad 0), .int x1] (if tt_fi M x1 < M.length then nI (tt_fi M x1) else (-1)) := by
  refine tt_pure (cc := cX4_find) (maxL := 3) (rt := .int) (by decide) rfl (rfl) (Nat.le_of_ble_eq_true rfl) ?_
  intro p e s m below meth c Q ls hfix hK hP hE hl kr
  obtain ⟨hx, hb, hml, hown, hts⟩ := id hfix
  have hown : s.vm.findClass RX4 = some m.cls := hown
  have hfix : CallFix p m c cX4_find 3 s ([.ref (ad 0), .int x1] : List Value).toArray wsX4_find RX4 := hfix
  have hl : lv_has ls 3 [(0, .ref (ad 0)), (1, .int x1)] := hl
  have hf87 := hts (.fieldLink RX4 87 "TripleTreesModel" "meets" "I") (by decide +kernel)
  have hf29 := hts (.fieldLink RX4 29 "TripleTreesModel" "met" "[I") (by decide +kernel)
  have hinX4 : ∀ w ∈ u_ws RX4 TX4 11, w ∈ wsX4_find := by decide +kernel
  have hS : va_S (fun _ => False) s.heap s.heap [] := va_S.rf
  obtain ⟨f, me, ms, h9, hf, hMR⟩ := id hQ
  have hr := tt_fi_ff hMR x1
  have loop : ∀ (d i : Nat), (d + i = M.length) → (i ≤ tt_fi M x1) → ∀ (H : Heap) (locs : List Loc) (ls : Array Slot), va_P D vwCl (tt_blk 9 ad cx) H → va_S (fun _ => False) s.heap H locs → lv_has ls 3 [(2, .int (nI i)), (0, .ref (ad 0)), (1, .int x1)] → W p l e ({ frames := 0, cells := 0, slots := 0, locals := 0 } : Room) s m ([.ref (ad 0), .int x1] : List Value).toArray below meth c H locs 0 0 Q (F0 m 2 ls []) := by
    intro d
    induction d with
    | zero =>
      intro i hd hi H locs ls hP hS hl
      refine lv_iload_n hx hb dX4_find_2 rfl (lv_at hl 0 rfl) ?_
      refine lv_aload_n hx hb dX4_find_3 rfl (lv_at hl 1 rfl) ?_
      refine va_get (D := D) (ci := 4) (v := .int (nI M.length)) (C := RX4) (T := TX4) (N := 11) hx hb hts hinX4 hown hK hP 0 (tt_bg (by omega) h9.1) rfl 10 (by decide) hf87 (fun _ h9 => h9) rfl dX4_find_4 ?_
      refine lv_icmp_ge (tgt := 28) hx hb dX4_find_7 (by decide) (fun hb7 => ?_) (fun hb7 => ?_)
      · have hb7 : M.length ≤ i := (nI_leI (a := M.length) (b := i) (by omega) (by omega)).mp hb7
        refine lv_iconst (v := (-1)) hx hb dX4_find_28 (by decide) ?_
        have hr1 := hr.1
        have hnr : ¬ tt_fi M x1 < M.length := by omega
        refine tt_rei (show (-1 : Int32) = if tt_fi M x1 < M.length then nI (tt_fi M x1) else (-1) from (if_neg hnr).symm) ?_
        exact kr _ _ _ _ hS dX4_find_29
      · have hb7 : ¬ M.length ≤ i := fun hz9 => hb7 ((nI_leI (a := M.length) (b := i) (by omega) (by omega)).mpr hz9)
        exact absurd hb7 (by omega)
    | succ d ih =>
      intro i hd hi H locs ls hP hS hl
      refine lv_iload_n hx hb dX4_find_2 rfl (lv_at hl 0 rfl) ?_
      refine lv_aload_n hx hb dX4_find_3 rfl (lv_at hl 1 rfl) ?_
      refine va_get (D := D) (ci := 4) (v := .int (nI M.length)) (C := RX4) (T := TX4) (N := 11) hx hb hts hinX4 hown hK hP 0 (tt_bg (by omega) h9.1) rfl 10 (by decide) hf87 (fun _ h9 => h9) rfl dX4_find_4 ?_
      refine lv_icmp_ge (tgt := 28) hx hb dX4_find_7 (by decide) (fun hb7 => ?_) (fun hb7 => ?_)
      · have hb7 : M.length ≤ i := (nI_leI (a := M.length) (b := i) (by omega) (by omega)).mp hb7
        exact absurd hb7 (by omega)
      · have hb7 : ¬ M.length ≤ i := fun hz9 => hb7 ((nI_leI (a := M.length) (b := i) (by omega) (by omega)).mpr hz9)
        refine lv_aload_n hx hb dX4_find_10 rfl (lv_at hl 1 rfl) ?_
        refine va_get (D := D) (ci := 4) (v := .ref (ad 7)) (C := RX4) (T := TX4) (N := 11) hx hb hts hinX4 hown hK hP 0 (tt_bg (by omega) h9.1) rfl 8 (by decide) hf29 (fun _ h9 => h9) rfl dX4_find_11 ?_
        refine lv_iload_n hx hb dX4_find_14 rfl (lv_at hl 0 rfl) ?_
        refine va_iald hx hb hK hP 7 0 (tt_bg (by omega) h9.2.2.2.2.2.2.2.1) rfl (vp_in_nI (n := i) (by omega) (by omega)) dX4_find_15 ?_
        refine tt_rei (show (me (nI i).toNatClampNeg) = me i from congrArg me (nI_clamp (n := i) (by omega))) ?_
        refine lv_iload_n hx hb dX4_find_16 rfl (lv_at hl 2 rfl) ?_
        refine lv_icmp_ne (tgt := 22) hx hb dX4_find_17 (by decide) (fun hb17 => ?_) (fun hb17 => ?_)
        · refine lv_iinc (v := nI (i + 1)) (lv' := [(2, .int (nI (i + 1))), (0, .ref (ad 0)), (1, .int x1)]) hx hb dX4_find_22 hl (k := 0) rfl (nI_add i 1) (by decide) rfl (fun ls hl => ?_)
          refine lv_goto (tgt := 2) hx hb dX4_find_25 (by decide) ?_
          exact ih (i + 1) (by omega) (tt_ff_lt hr hi (by omega) hb17) H locs ls hP hS (lv_sub hl [0, 1, 2] rfl)
        · refine lv_iload_n hx hb dX4_find_20 rfl (lv_at hl 0 rfl) ?_
          have hir : i = tt_fi M x1 := tt_ff_eq hr hi (by omega) hb17
          refine tt_rei (show nI i = if tt_fi M x1 < M.length then nI (tt_fi M x1) else (-1) from ?_) ?_
          · rw [← hir]; exact (if_pos (by omega)).symm
          exact kr _ _ _ _ hS dX4_find_21
  refine lv_iconst (v := 0) hx hb dX4_find_0 (by decide) ?_
  refine lv_istore_n (lv' := [(2, .int 0), (0, .ref (ad 0)), (1, .int x1)]) hx hb dX4_find_1 rfl hl (by decide) rfl (fun ls hl => ?_)
  exact loop M.length 0 (by omega) (Nat.zero_le _) _ _ ls hP hS (lv_sub hl [0, 1, 2] rfl)
set_option maxHeartbeats 4000000 in
set_option maxRecDepth 100000 in
theorem c_X4_go (l : Launch) (D : va_G) (cI cZ cO cC : ClassId) (ad : Nat → Nat) (cx : Nat → va_E) (n : Nat) (L : Nat → List tt_T3) (ch : Nat) (K : Nat → tt_KU) (hQ : tt_Q cI cZ ad cx n L ch K) (p1 src : Int32) (hI : tt_I L) (hn : n = (L 0).length) : tt_Mutv (S := (Nat → va_E)) l yX4_go wsX4_go ({ frames := 1, cells := 0, slots := 0, locals := 23 } : Room) D (tt_tys cI cZ cO cC) false (tt_blk 9 ad cx) [.ref (ad 0), .int p1, .int src] (fun u => tt_QS cI cZ ad u n L ch K (tt_bfs (L 0) p1 src) ∧ tt_MI (L 0) p1 src (tt_bfs (L 0) p1 src)) (fun u => tt_blk 9 ad u) := by
  refine tt_mutv (cc := cX4_go) (maxL := 5) (by decide) rfl (Nat.le_of_ble_eq_true rfl) ?_
  intro p e s m below meth c Q ls A hfix hK hP hD hA hE hl kr
  obtain ⟨hx, hb, hml, hown, hts⟩ := id hfix
  have hown : s.vm.findClass RX4 = some m.cls := hown
  have hfix : CallFix p m c cX4_go 5 s ([.ref (ad 0), .int p1, .int src] : List Value).toArray wsX4_go RX4 := hfix
  have hl : lv_has ls 5 [(0, .ref (ad 0)), (1, .int p1), (2, .int src)] := hl
  have hf29 := hts (.fieldLink RX4 29 "TripleTreesModel" "met" "[I") (by decide +kernel)
  have hf32 := hts (.fieldLink RX4 32 "TripleTreesModel" "steps" "[I") (by decide +kernel)
  have hf87 := hts (.fieldLink RX4 87 "TripleTreesModel" "meets" "I") (by decide +kernel)
  have hf35 := hts (.fieldLink RX4 35 "TripleTreesModel" "size" "I") (by decide +kernel)
  have hinX4 : ∀ w ∈ u_ws RX4 TX4 11, w ∈ wsX4_go := by decide +kernel
  have hS : va_S A s.heap s.heap [] := va_S.rf
  obtain ⟨mt, f, me, ms, h9, hf⟩ := id hQ
  have h700 := (hI 0 (by omega)).2.2
  have loop : ∀ (d k : Nat) (cx : Nat → va_E) (M : tt_MM), (d + k = 702) → (tt_bf (L 0) p1 d k M = (tt_bfs (L 0) p1 src)) → (tt_MI (L 0) p1 src M) → (tt_QS cI cZ ad cx n L ch K M) → ∀ (H : Heap) (locs : List Loc) (ls : Array Slot), va_P D vwCl (tt_blk 9 ad cx) H → va_D A (tt_blk 9 ad cx) → va_S A s.heap H locs → lv_has ls 5 [(3, .int (nI k)), (0, .ref (ad 0)), (1, .int p1), (2, .int src)] → W p l e ({ frames := 1, cells := 0, slots := 0, locals := 23 } : Room) s m ([.ref (ad 0), .int p1, .int src] : List Value).toArray below meth c H locs 0 0 Q (F0 m 21 ls []) := by
    intro d
    induction d with
    | zero =>
      intro k cx M hd hbf hMI hQS H locs ls hP hD hS hl
      obtain ⟨f, me, ms, h9, hf, hMR⟩ := id hQS
      have hml := tt_MI_len hMI
      refine lv_iload_n hx hb dX4_go_21 rfl (lv_at hl 0 rfl) ?_
      refine lv_aload_n hx hb dX4_go_22 rfl (lv_at hl 1 rfl) ?_
      refine va_get (D := D) (ci := 4) (v := .int (nI M.length)) (C := RX4) (T := TX4) (N := 11) hx hb hts hinX4 hown hK hP 0 (tt_bg (by omega) h9.1) rfl 10 (by decide) hf87 (fun _ h9 => h9) rfl dX4_go_23 ?_
      refine lv_icmp_ge (tgt := 142) hx hb dX4_go_26 (by decide) (fun hb26 => ?_) (fun hb26 => ?_)
      · have hb26 : M.length ≤ k := (nI_leI (a := M.length) (b := k) (by omega) (by omega)).mp hb26
        have hM : M = (tt_bfs (L 0) p1 src) := by rw [← hbf]; exact (tt_bf_end (by omega)).symm
        rw [← hM] at kr
        exact kr _ _ _ _ cx ⟨hQS, hMI⟩ hP hS dX4_go_142
      · have hb26 : ¬ M.length ≤ k := fun hz9 => hb26 ((nI_leI (a := M.length) (b := k) (by omega) (by omega)).mpr hz9)
        exact absurd hb26 (by omega)
    | succ d ih =>
      intro k cx M hd hbf hMI hQS H locs ls hP hD hS hl
      obtain ⟨f, me, ms, h9, hf, hMR⟩ := id hQS
      have hml := tt_MI_len hMI
      refine lv_iload_n hx hb dX4_go_21 rfl (lv_at hl 0 rfl) ?_
      refine lv_aload_n hx hb dX4_go_22 rfl (lv_at hl 1 rfl) ?_
      refine va_get (D := D) (ci := 4) (v := .int (nI M.length)) (C := RX4) (T := TX4) (N := 11) hx hb hts hinX4 hown hK hP 0 (tt_bg (by omega) h9.1) rfl 10 (by decide) hf87 (fun _ h9 => h9) rfl dX4_go_23 ?_
      refine lv_icmp_ge (tgt := 142) hx hb dX4_go_26 (by decide) (fun hb26 => ?_) (fun hb26 => ?_)
      · have hb26 : M.length ≤ k := (nI_leI (a := M.length) (b := k) (by omega) (by omega)).mp hb26
        have hM : M = (tt_bfs (L 0) p1 src) := by rw [← hbf]; exact (tt_bf_end (by omega)).symm
        rw [← hM] at kr
        exact kr _ _ _ _ cx ⟨hQS, hMI⟩ hP hS dX4_go_142
      · have hb26 : ¬ M.length ≤ k := fun hz9 => hb26 ((nI_leI (a := M.length) (b := k) (by omega) (by omega)).mpr hz9)
        have hk : k < M.length := by omega
        have loop2 : ∀ (d2 j : Nat) (cx : Nat → va_E), (d2 + j = n) → (tt_MI (L 0) p1 src (tt_wo (L 0) p1 (tt_mg M k).1 ((tt_mg M k).2 + 1) M j)) → (tt_QS cI cZ ad cx n L ch K (tt_wo (L 0) p1 (tt_mg M k).1 ((tt_mg M k).2 + 1) M j)) → ∀ (H : Heap) (locs : List Loc) (ls : Array Slot), va_P D vwCl (tt_blk 9 ad cx) H → va_D A (tt_blk 9 ad cx) → va_S A s.heap H locs → lv_has ls 5 [(4, .int (nI j)), (3, .int (nI k)), (0, .ref (ad 0)), (1, .int p1), (2, .int src)] → W p l e ({ frames := 1, cells := 0, slots := 0, locals := 23 } : Room) s m ([.ref (ad 0), .int p1, .int src] : List Value).toArray below meth c H locs 0 0 Q (F0 m 32 ls []) := by
          intro d2
          induction d2 with
          | zero =>
            intro j cx hd2 hMI hQS H locs ls hP hD hS hl
            obtain ⟨f, me, ms, h9, hf, hMR⟩ := id hQS
            have hml := tt_MI_len hMI
            have hlen := tt_wo_len (L 0) p1 (tt_mg M k).1 ((tt_mg M k).2 + 1) M j
            have hpre := tt_wo_pre (L 0) p1 (tt_mg M k).1 ((tt_mg M k).2 + 1) hk j
            refine lv_iload hx hb dX4_go_32 (lv_at hl 0 rfl) ?_
            refine lv_aload_n hx hb dX4_go_34 rfl (lv_at hl 2 rfl) ?_
            refine va_get (D := D) (ci := 4) (v := .int (nI n)) (C := RX4) (T := TX4) (N := 11) hx hb hts hinX4 hown hK hP 0 (tt_bg (by omega) h9.1) rfl 1 (by decide) hf35 (fun _ h9 => h9) rfl dX4_go_35 ?_
            refine lv_icmp_ge (tgt := 136) hx hb dX4_go_38 (by decide) (fun hb38 => ?_) (fun hb38 => ?_)
            · have hb38 : n ≤ j := (nI_leI (a := n) (b := j) (by omega) (by omega)).mp hb38
              refine lv_iinc (v := nI (k + 1)) (lv' := [(3, .int (nI (k + 1))), (4, .int (nI j)), (0, .ref (ad 0)), (1, .int p1), (2, .int src)]) hx hb dX4_go_136 hl (k := 1) rfl (nI_add k 1) (by decide) rfl (fun ls hl => ?_)
              refine lv_goto (tgt := 21) hx hb dX4_go_139 (by decide) ?_
              have hj : j = (L 0).length := by omega
              subst hj
              exact ih (k + 1) cx _ (by omega) (by rw [← hbf]; exact (tt_bf_go hk).symm) hMI hQS H locs ls hP hD hS (lv_sub hl [0, 2, 3, 4] rfl)
            · have hb38 : ¬ n ≤ j := fun hz9 => hb38 ((nI_leI (a := n) (b := j) (by omega) (by omega)).mpr hz9)
              exact absurd hb38 (by omega)
          | succ d2 ih2 =>
            intro j cx hd2 hMI hQS H locs ls hP hD hS hl
            obtain ⟨f, me, ms, h9, hf, hMR⟩ := id hQS
            have hml := tt_MI_len hMI
            have hlen := tt_wo_len (L 0) p1 (tt_mg M k).1 ((tt_mg M k).2 + 1) M j
            have hpre := tt_wo_pre (L 0) p1 (tt_mg M k).1 ((tt_mg M k).2 + 1) hk j
            refine lv_iload hx hb dX4_go_32 (lv_at hl 0 rfl) ?_
            refine lv_aload_n hx hb dX4_go_34 rfl (lv_at hl 2 rfl) ?_
            refine va_get (D := D) (ci := 4) (v := .int (nI n)) (C := RX4) (T := TX4) (N := 11) hx hb hts hinX4 hown hK hP 0 (tt_bg (by omega) h9.1) rfl 1 (by decide) hf35 (fun _ h9 => h9) rfl dX4_go_35 ?_
            refine lv_icmp_ge (tgt := 136) hx hb dX4_go_38 (by decide) (fun hb38 => ?_) (fun hb38 => ?_)
            · have hb38 : n ≤ j := (nI_leI (a := n) (b := j) (by omega) (by omega)).mp hb38
              exact absurd hb38 (by omega)
            · have hb38 : ¬ n ≤ j := fun hz9 => hb38 ((nI_leI (a := n) (b := j) (by omega) (by omega)).mpr hz9)
              refine lv_aload_n hx hb dX4_go_41 rfl (lv_at hl 2 rfl) ?_
              refine lv_iconst (v := 0) hx hb dX4_go_42 (by decide) ?_
              refine lv_iload hx hb dX4_go_43 (lv_at hl 0 rfl) ?_
              refine lv_iconst (v := 1) hx hb dX4_go_45 (by decide) ?_
              have hPc := hP
              refine tt_calli (va_runV (As := [.int 0, .int (nI j), .int 1]) (rest := []) hfix (c_X4_cell l D cI cZ cO cC ad cx n L ch K ⟨_, f, me, ms, h9, hf⟩ 0 j 1 (by omega) (by omega) (by omega) h700) (cwV 3 hts gX4_go_X4_cell rfl rfl rfl (by decide +kernel) ⟨Nat.le_of_ble_eq_true rfl, Nat.le_of_ble_eq_true rfl⟩) (tt_preV (q0 := 0) (ci := 4) hK hPc tt_E.no (tt_bg (by omega) h9.1) rfl) rfl rfl hl.1 rfl (lv_room (Nat.le_of_ble_eq_true rfl)) dX4_go_46 ⟨Nat.zero_le _, Nat.zero_le _⟩) hP hS (fun H locs hP hS => ?_)
              refine lv_iload_n hx hb dX4_go_49 rfl (lv_at hl 3 rfl) ?_
              refine lv_icmp_ne (tgt := 130) hx hb dX4_go_50 (by decide) (fun hb50 => ?_) (fun hb50 => ?_)
              · refine lv_iinc (v := nI (j + 1)) (lv' := [(4, .int (nI (j + 1))), (3, .int (nI k)), (0, .ref (ad 0)), (1, .int p1), (2, .int src)]) hx hb dX4_go_130 hl (k := 0) rfl (nI_add j 1) (by decide) rfl (fun ls hl => ?_)
                refine lv_goto (tgt := 32) hx hb dX4_go_133 (by decide) ?_
                have hwv : tt_wo (L 0) p1 (tt_mg M k).1 ((tt_mg M k).2 + 1) M (j + 1) = (tt_wo (L 0) p1 (tt_mg M k).1 ((tt_mg M k).2 + 1) M j) := if_neg (fun q => by first | exact hb50 q.1 | exact hb67 q.2.1 | exact tt_fi_yes (by omega) hb83 q.2.2)
                exact ih2 (j + 1) cx (by omega) (by rw [hwv]; exact hMI) (by rw [hwv]; exact hQS) H locs ls hP hD hS (lv_sub hl [0, 1, 2, 3, 4] rfl)
              · refine lv_aload_n hx hb dX4_go_53 rfl (lv_at hl 2 rfl) ?_
                refine lv_iconst (v := 0) hx hb dX4_go_54 (by decide) ?_
                refine lv_iload hx hb dX4_go_55 (lv_at hl 0 rfl) ?_
                refine lv_iconst (v := 0) hx hb dX4_go_57 (by decide) ?_
                have hPc := hP
                refine tt_calli (va_runV (As := [.int 0, .int (nI j), .int 0]) (rest := []) hfix (c_X4_cell l D cI cZ cO cC ad cx n L ch K ⟨_, f, me, ms, h9, hf⟩ 0 j 0 (by omega) (by omega) (by omega) h700) (cwV 3 hts gX4_go_X4_cell rfl rfl rfl (by decide +kernel) ⟨Nat.le_of_ble_eq_true rfl, Nat.le_of_ble_eq_true rfl⟩) (tt_preV (q0 := 0) (ci := 4) hK hPc tt_E.no (tt_bg (by omega) h9.1) rfl) rfl rfl hl.1 rfl (lv_room (Nat.le_of_ble_eq_true rfl)) dX4_go_58 ⟨Nat.zero_le _, Nat.zero_le _⟩) hP hS (fun H locs hP hS => ?_)
                refine lv_aload_n hx hb dX4_go_61 rfl (lv_at hl 2 rfl) ?_
                refine va_get (D := D) (ci := 4) (v := .ref (ad 7)) (C := RX4) (T := TX4) (N := 11) hx hb hts hinX4 hown hK hP 0 (tt_bg (by omega) h9.1) rfl 8 (by decide) hf29 (fun _ h9 => h9) rfl dX4_go_62 ?_
                refine lv_iload_n hx hb dX4_go_65 rfl (lv_at hl 1 rfl) ?_
                refine va_iald hx hb hK hP 7 0 (tt_bg (by omega) h9.2.2.2.2.2.2.2.1) rfl (vp_in_nI (n := k) (by omega) (by omega)) dX4_go_66 ?_
                refine tt_rei (show (me (nI k).toNatClampNeg) = me k from congrArg me (nI_clamp (n := k) (by omega))) ?_
                refine tt_rei (show (me k) = (tt_mg M k).1 from ((hMR k (by omega)).1).trans (congrArg Prod.fst hpre)) ?_
                refine lv_icmp_ne (tgt := 130) hx hb dX4_go_67 (by decide) (fun hb67 => ?_) (fun hb67 => ?_)
                · refine lv_iinc (v := nI (j + 1)) (lv' := [(4, .int (nI (j + 1))), (3, .int (nI k)), (0, .ref (ad 0)), (1, .int p1), (2, .int src)]) hx hb dX4_go_130 hl (k := 0) rfl (nI_add j 1) (by decide) rfl (fun ls hl => ?_)
                  refine lv_goto (tgt := 32) hx hb dX4_go_133 (by decide) ?_
                  have hwv : tt_wo (L 0) p1 (tt_mg M k).1 ((tt_mg M k).2 + 1) M (j + 1) = (tt_wo (L 0) p1 (tt_mg M k).1 ((tt_mg M k).2 + 1) M j) := if_neg (fun q => by first | exact hb50 q.1 | exact hb67 q.2.1 | exact tt_fi_yes (by omega) hb83 q.2.2)
                  exact ih2 (j + 1) cx (by omega) (by rw [hwv]; exact hMI) (by rw [hwv]; exact hQS) H locs ls hP hD hS (lv_sub hl [0, 1, 2, 3, 4] rfl)
                · refine lv_aload_n hx hb dX4_go_70 rfl (lv_at hl 2 rfl) ?_
                  refine lv_aload_n hx hb dX4_go_71 rfl (lv_at hl 2 rfl) ?_
                  refine lv_iconst (v := 0) hx hb dX4_go_72 (by decide) ?_
                  refine lv_iload hx hb dX4_go_73 (lv_at hl 0 rfl) ?_
                  refine lv_iconst (v := 2) hx hb dX4_go_75 (by decide) ?_
                  have hPc := hP
                  refine tt_calli (va_runV (As := [.int 0, .int (nI j), .int 2]) (rest := [.ref (ad 0)]) hfix (c_X4_cell l D cI cZ cO cC ad cx n L ch K ⟨_, f, me, ms, h9, hf⟩ 0 j 2 (by omega) (by omega) (by omega) h700) (cwV 3 hts gX4_go_X4_cell rfl rfl rfl (by decide +kernel) ⟨Nat.le_of_ble_eq_true rfl, Nat.le_of_ble_eq_true rfl⟩) (tt_preV (q0 := 0) (ci := 4) hK hPc tt_E.no (tt_bg (by omega) h9.1) rfl) rfl rfl hl.1 rfl (lv_room (Nat.le_of_ble_eq_true rfl)) dX4_go_76 ⟨Nat.zero_le _, Nat.zero_le _⟩) hP hS (fun H locs hP hS => ?_)
                  have hPc := hP
                  refine tt_calli (va_runV (As := [.int (tt_pp 2 (tt_gt (L 0) j))]) (rest := []) hfix (c_X4_find l D cI cZ cO cC ad cx n L ch K (tt_wo (L 0) p1 (tt_mg M k).1 ((tt_mg M k).2 + 1) M j) ⟨f, me, ms, h9, hf, hMR⟩ (tt_pp 2 (tt_gt (L 0) j)) (by omega)) (cwV 1 hts gX4_go_X4_find rfl rfl rfl (by decide +kernel) ⟨Nat.le_of_ble_eq_true rfl, Nat.le_of_ble_eq_true rfl⟩) (tt_preV (q0 := 0) (ci := 4) hK hPc tt_E.no (tt_bg (by omega) h9.1) rfl) rfl rfl hl.1 rfl (lv_room (Nat.le_of_ble_eq_true rfl)) dX4_go_79 ⟨Nat.zero_le _, Nat.zero_le _⟩) hP hS (fun H locs hP hS => ?_)
                  refine lv_iconst (v := (-1)) hx hb dX4_go_82 (by decide) ?_
                  refine lv_icmp_ne (tgt := 130) hx hb dX4_go_83 (by decide) (fun hb83 => ?_) (fun hb83 => ?_)
                  · refine lv_iinc (v := nI (j + 1)) (lv' := [(4, .int (nI (j + 1))), (3, .int (nI k)), (0, .ref (ad 0)), (1, .int p1), (2, .int src)]) hx hb dX4_go_130 hl (k := 0) rfl (nI_add j 1) (by decide) rfl (fun ls hl => ?_)
                    refine lv_goto (tgt := 32) hx hb dX4_go_133 (by decide) ?_
                    have hwv : tt_wo (L 0) p1 (tt_mg M k).1 ((tt_mg M k).2 + 1) M (j + 1) = (tt_wo (L 0) p1 (tt_mg M k).1 ((tt_mg M k).2 + 1) M j) := if_neg (fun q => by first | exact hb50 q.1 | exact hb67 q.2.1 | exact tt_fi_yes (by omega) hb83 q.2.2)
                    exact ih2 (j + 1) cx (by omega) (by rw [hwv]; exact hMI) (by rw [hwv]; exact hQS) H locs ls hP hD hS (lv_sub hl [0, 1, 2, 3, 4] rfl)
                  · have hnm := tt_fi_no hb83
                    have hMI1 := tt_MI_add hMI (tt_gt_mem (l := L 0) (j := j) (by omega)) hb50 hnm ((tt_mg M k).2 + 1)
                    have hml1 := tt_MI_len hMI1
                    rw [List.length_append] at hml1
                    have hml1 : (tt_wo (L 0) p1 (tt_mg M k).1 ((tt_mg M k).2 + 1) M j).length + 1 ≤ (L 0).length + 1 := hml1
                    refine lv_aload_n hx hb dX4_go_86 rfl (lv_at hl 2 rfl) ?_
                    refine va_get (D := D) (ci := 4) (v := .ref (ad 7)) (C := RX4) (T := TX4) (N := 11) hx hb hts hinX4 hown hK hP 0 (tt_bg (by omega) h9.1) rfl 8 (by decide) hf29 (fun _ h9 => h9) rfl dX4_go_87 ?_
                    refine lv_aload_n hx hb dX4_go_90 rfl (lv_at hl 2 rfl) ?_
                    refine va_get (D := D) (ci := 4) (v := .int (nI ((tt_wo (L 0) p1 (tt_mg M k).1 ((tt_mg M k).2 + 1) M j).length))) (C := RX4) (T := TX4) (N := 11) hx hb hts hinX4 hown hK hP 0 (tt_bg (by omega) h9.1) rfl 10 (by decide) hf87 (fun _ h9 => h9) rfl dX4_go_91 ?_
                    refine lv_aload_n hx hb dX4_go_94 rfl (lv_at hl 2 rfl) ?_
                    refine lv_iconst (v := 0) hx hb dX4_go_95 (by decide) ?_
                    refine lv_iload hx hb dX4_go_96 (lv_at hl 0 rfl) ?_
                    refine lv_iconst (v := 2) hx hb dX4_go_98 (by decide) ?_
                    have hPc := hP
                    refine tt_calli (va_runV (As := [.int 0, .int (nI j), .int 2]) (rest := [.int (nI ((tt_wo (L 0) p1 (tt_mg M k).1 ((tt_mg M k).2 + 1) M j).length)), .ref (ad 7)]) hfix (c_X4_cell l D cI cZ cO cC ad cx n L ch K ⟨_, f, me, ms, h9, hf⟩ 0 j 2 (by omega) (by omega) (by omega) h700) (cwV 3 hts gX4_go_X4_cell rfl rfl rfl (by decide +kernel) ⟨Nat.le_of_ble_eq_true rfl, Nat.le_of_ble_eq_true rfl⟩) (tt_preV (q0 := 0) (ci := 4) hK hPc tt_E.no (tt_bg (by omega) h9.1) rfl) rfl rfl hl.1 rfl (lv_room (Nat.le_of_ble_eq_true rfl)) dX4_go_99 ⟨Nat.zero_le _, Nat.zero_le _⟩) hP hS (fun H locs hP hS => ?_)
                    refine va_iast hx hb hK hP hD hS 7 0 (tt_bg (by omega) h9.2.2.2.2.2.2.2.1) rfl (vp_in_nI (n := (tt_wo (L 0) p1 (tt_mg M k).1 ((tt_mg M k).2 + 1) M j).length) (by omega) (by omega)) dX4_go_102 (fun H locs hP hD hS => ?_)
                    rw [nI_clamp (n := (tt_wo (L 0) p1 (tt_mg M k).1 ((tt_mg M k).2 + 1) M j).length) (by omega)] at hP hD
                    obtain ⟨cx, h9, hP, hD⟩ : ∃ zg : Nat → va_E, tt_C9 zg (.inr (4, [.ref (ad 1), .int (nI n), .int (nI ch), .ref (ad 2), .ref (ad 3), .ref (ad 4), .ref (ad 5), .ref (ad 6), .ref (ad 7), .ref (ad 8), .int (nI ((tt_wo (L 0) p1 (tt_mg M k).1 ((tt_mg M k).2 + 1) M j).length))])) (.inl (cI, 6303, .inl f)) (.inl (cZ, 8, .inl (fun j => tt_b (K j).1))) (.inl (cZ, 8, .inl (fun j => tt_b (K j).2.1))) (.inl (cI, 8, .inl (fun j => nI (K j).2.2.1))) (.inl (cI, 24, .inl (tt_kp K))) (.inl (cI, 8, .inl (fun j => nI (K j).2.2.2.2.2.2 - 1))) (.inl (cI, 1402, .inl (upd me ((tt_wo (L 0) p1 (tt_mg M k).1 ((tt_mg M k).2 + 1) M j).length) (tt_pp 2 (tt_gt (L 0) j))))) (.inl (cI, 1402, .inl ms)) ∧ va_P D vwCl (tt_blk 9 ad zg) H ∧ va_D A (tt_blk 9 ad zg) := ⟨_, h9.set7, by rw [← tt_bset]; exact hP, by rw [← tt_bset]; exact hD⟩
                    refine lv_aload_n hx hb dX4_go_103 rfl (lv_at hl 2 rfl) ?_
                    refine va_get (D := D) (ci := 4) (v := .ref (ad 8)) (C := RX4) (T := TX4) (N := 11) hx hb hts hinX4 hown hK hP 0 (tt_bg (by omega) h9.1) rfl 9 (by decide) hf32 (fun _ h9 => h9) rfl dX4_go_104 ?_
                    refine lv_aload_n hx hb dX4_go_107 rfl (lv_at hl 2 rfl) ?_
                    refine va_get (D := D) (ci := 4) (v := .int (nI ((tt_wo (L 0) p1 (tt_mg M k).1 ((tt_mg M k).2 + 1) M j).length))) (C := RX4) (T := TX4) (N := 11) hx hb hts hinX4 hown hK hP 0 (tt_bg (by omega) h9.1) rfl 10 (by decide) hf87 (fun _ h9 => h9) rfl dX4_go_108 ?_
                    refine lv_aload_n hx hb dX4_go_111 rfl (lv_at hl 2 rfl) ?_
                    refine va_get (D := D) (ci := 4) (v := .ref (ad 8)) (C := RX4) (T := TX4) (N := 11) hx hb hts hinX4 hown hK hP 0 (tt_bg (by omega) h9.1) rfl 9 (by decide) hf32 (fun _ h9 => h9) rfl dX4_go_112 ?_
                    refine lv_iload_n hx hb dX4_go_115 rfl (lv_at hl 1 rfl) ?_
                    refine va_iald hx hb hK hP 8 0 (tt_bg (by omega) h9.2.2.2.2.2.2.2.2) rfl (vp_in_nI (n := k) (by omega) (by omega)) dX4_go_116 ?_
                    refine tt_rei (show (ms (nI k).toNatClampNeg) = ms k from congrArg ms (nI_clamp (n := k) (by omega))) ?_
                    refine tt_rei (show (ms k) = (tt_mg M k).2 from ((hMR k (by omega)).2).trans (congrArg Prod.snd hpre)) ?_
                    refine lv_iconst (v := 1) hx hb dX4_go_117 (by decide) ?_
                    refine lv_iadd hx hb dX4_go_118 ?_
                    refine va_iast hx hb hK hP hD hS 8 0 (tt_bg (by omega) h9.2.2.2.2.2.2.2.2) rfl (vp_in_nI (n := (tt_wo (L 0) p1 (tt_mg M k).1 ((tt_mg M k).2 + 1) M j).length) (by omega) (by omega)) dX4_go_119 (fun H locs hP hD hS => ?_)
                    rw [nI_clamp (n := (tt_wo (L 0) p1 (tt_mg M k).1 ((tt_mg M k).2 + 1) M j).length) (by omega)] at hP hD
                    obtain ⟨cx, h9, hP, hD⟩ : ∃ zg : Nat → va_E, tt_C9 zg (.inr (4, [.ref (ad 1), .int (nI n), .int (nI ch), .ref (ad 2), .ref (ad 3), .ref (ad 4), .ref (ad 5), .ref (ad 6), .ref (ad 7), .ref (ad 8), .int (nI ((tt_wo (L 0) p1 (tt_mg M k).1 ((tt_mg M k).2 + 1) M j).length))])) (.inl (cI, 6303, .inl f)) (.inl (cZ, 8, .inl (fun j => tt_b (K j).1))) (.inl (cZ, 8, .inl (fun j => tt_b (K j).2.1))) (.inl (cI, 8, .inl (fun j => nI (K j).2.2.1))) (.inl (cI, 24, .inl (tt_kp K))) (.inl (cI, 8, .inl (fun j => nI (K j).2.2.2.2.2.2 - 1))) (.inl (cI, 1402, .inl (upd me ((tt_wo (L 0) p1 (tt_mg M k).1 ((tt_mg M k).2 + 1) M j).length) (tt_pp 2 (tt_gt (L 0) j))))) (.inl (cI, 1402, .inl (upd ms ((tt_wo (L 0) p1 (tt_mg M k).1 ((tt_mg M k).2 + 1) M j).length) (((tt_mg M k).2) + 1)))) ∧ va_P D vwCl (tt_blk 9 ad zg) H ∧ va_D A (tt_blk 9 ad zg) := ⟨_, h9.set8, by rw [← tt_bset]; exact hP, by rw [← tt_bset]; exact hD⟩
                    refine lv_aload_n hx hb dX4_go_120 rfl (lv_at hl 2 rfl) ?_
                    refine lv_dup hx hb dX4_go_121 rfl ?_
                    refine va_get (D := D) (ci := 4) (v := .int (nI ((tt_wo (L 0) p1 (tt_mg M k).1 ((tt_mg M k).2 + 1) M j).length))) (C := RX4) (T := TX4) (N := 11) hx hb hts hinX4 hown hK hP 0 (tt_bg (by omega) h9.1) rfl 10 (by decide) hf87 (fun _ h9 => h9) rfl dX4_go_122 ?_
                    refine lv_iconst (v := 1) hx hb dX4_go_125 (by decide) ?_
                    refine lv_iadd hx hb dX4_go_126 ?_
                    refine tt_rei (show ((nI ((tt_wo (L 0) p1 (tt_mg M k).1 ((tt_mg M k).2 + 1) M j).length)) + 1) = nI ((tt_wo (L 0) p1 (tt_mg M k).1 ((tt_mg M k).2 + 1) M j).length + 1) from nI_add ((tt_wo (L 0) p1 (tt_mg M k).1 ((tt_mg M k).2 + 1) M j).length) 1) ?_
                    refine va_put (D := D) (ci := 4) (v := .int (nI ((tt_wo (L 0) p1 (tt_mg M k).1 ((tt_mg M k).2 + 1) M j).length + 1))) (ty := .int) (C := RX4) (T := TX4) (N := 11) hx hb hts hinX4 tyX4 tyX4_ok nmX4 hown hK hP hD hS 0 (tt_bg (by omega) h9.1) rfl 10 (by decide) hf87 (fun _ h9 => h9) rfl (by decide +kernel) rfl rfl (Nat.le_of_ble_eq_true rfl) dX4_go_127 (fun H locs hP hD hS => ?_)
                    obtain ⟨cx, h9, hP, hD⟩ : ∃ zg : Nat → va_E, tt_C9 zg (.inr (4, [.ref (ad 1), .int (nI n), .int (nI ch), .ref (ad 2), .ref (ad 3), .ref (ad 4), .ref (ad 5), .ref (ad 6), .ref (ad 7), .ref (ad 8), .int (nI ((tt_wo (L 0) p1 (tt_mg M k).1 ((tt_mg M k).2 + 1) M j).length + 1))])) (.inl (cI, 6303, .inl f)) (.inl (cZ, 8, .inl (fun j => tt_b (K j).1))) (.inl (cZ, 8, .inl (fun j => tt_b (K j).2.1))) (.inl (cI, 8, .inl (fun j => nI (K j).2.2.1))) (.inl (cI, 24, .inl (tt_kp K))) (.inl (cI, 8, .inl (fun j => nI (K j).2.2.2.2.2.2 - 1))) (.inl (cI, 1402, .inl (upd me ((tt_wo (L 0) p1 (tt_mg M k).1 ((tt_mg M k).2 + 1) M j).length) (tt_pp 2 (tt_gt (L 0) j))))) (.inl (cI, 1402, .inl (upd ms ((tt_wo (L 0) p1 (tt_mg M k).1 ((tt_mg M k).2 + 1) M j).length) (((tt_mg M k).2) + 1)))) ∧ va_P D vwCl (tt_blk 9 ad zg) H ∧ va_D A (tt_blk 9 ad zg) := ⟨_, h9.set0, by rw [← tt_bset]; exact hP, by rw [← tt_bset]; exact hD⟩
                    refine lv_iinc (v := nI (j + 1)) (lv' := [(4, .int (nI (j + 1))), (3, .int (nI k)), (0, .ref (ad 0)), (1, .int p1), (2, .int src)]) hx hb dX4_go_130 hl (k := 0) rfl (nI_add j 1) (by decide) rfl (fun ls hl => ?_)
                    refine lv_goto (tgt := 32) hx hb dX4_go_133 (by decide) ?_
                    have hwv : tt_wo (L 0) p1 (tt_mg M k).1 ((tt_mg M k).2 + 1) M (j + 1) = (tt_wo (L 0) p1 (tt_mg M k).1 ((tt_mg M k).2 + 1) M j) ++ [((tt_gt (L 0) j).2.2, (tt_mg M k).2 + 1)] := if_pos ⟨hb50, hb67, hnm⟩
                    have hQS1 : tt_QS cI cZ ad cx n L ch K ((tt_wo (L 0) p1 (tt_mg M k).1 ((tt_mg M k).2 + 1) M j) ++ [((tt_gt (L 0) j).2.2, (tt_mg M k).2 + 1)]) := ⟨f, _, _, by rw [List.length_append]; exact h9, hf, tt_MR_add hMR _ _⟩
                    exact ih2 (j + 1) cx (by omega) (by rw [hwv]; exact hMI1) (by rw [hwv]; exact hQS1) H locs ls hP hD hS (lv_sub hl [0, 1, 2, 3, 4] rfl)
        refine lv_iconst (v := 0) hx hb dX4_go_29 (by decide) ?_
        refine lv_istore (lv' := [(4, .int 0), (3, .int (nI k)), (0, .ref (ad 0)), (1, .int p1), (2, .int src)]) hx hb dX4_go_30 hl (by decide) rfl (fun ls hl => ?_)
        exact loop2 n 0 cx (by omega) hMI hQS _ _ ls hP hD hS (lv_sub hl [0, 1, 2, 3, 4] rfl)
  refine lv_aload_n hx hb dX4_go_0 rfl (lv_at hl 0 rfl) ?_
  refine va_get (D := D) (ci := 4) (v := .ref (ad 7)) (C := RX4) (T := TX4) (N := 11) hx hb hts hinX4 hown hK hP 0 (tt_bg (by omega) h9.1) rfl 8 (by decide) hf29 (fun _ h9 => h9) rfl dX4_go_1 ?_
  refine lv_iconst (v := 0) hx hb dX4_go_4 (by decide) ?_
  refine lv_iload_n hx hb dX4_go_5 rfl (lv_at hl 2 rfl) ?_
  refine va_iast hx hb hK hP hD hS 7 0 (tt_bg (by omega) h9.2.2.2.2.2.2.2.1) rfl (vp_in_nI (n := 0) (by omega) (by omega)) dX4_go_6 (fun H locs hP hD hS => ?_)
  rw [show (0 : Int32).toNatClampNeg = 0 from rfl] at hP hD
  obtain ⟨cx, h9, hP, hD⟩ : ∃ zg : Nat → va_E, tt_C9 zg (.inr (4, [.ref (ad 1), .int (nI n), .int (nI ch), .ref (ad 2), .ref (ad 3), .ref (ad 4), .ref (ad 5), .ref (ad 6), .ref (ad 7), .ref (ad 8), .int mt])) (.inl (cI, 6303, .inl f)) (.inl (cZ, 8, .inl (fun j => tt_b (K j).1))) (.inl (cZ, 8, .inl (fun j => tt_b (K j).2.1))) (.inl (cI, 8, .inl (fun j => nI (K j).2.2.1))) (.inl (cI, 24, .inl (tt_kp K))) (.inl (cI, 8, .inl (fun j => nI (K j).2.2.2.2.2.2 - 1))) (.inl (cI, 1402, .inl (upd me 0 src))) (.inl (cI, 1402, .inl ms)) ∧ va_P D vwCl (tt_blk 9 ad zg) H ∧ va_D A (tt_blk 9 ad zg) := ⟨_, h9.set7, by rw [← tt_bset]; exact hP, by rw [← tt_bset]; exact hD⟩
  refine lv_aload_n hx hb dX4_go_7 rfl (lv_at hl 0 rfl) ?_
  refine va_get (D := D) (ci := 4) (v := .ref (ad 8)) (C := RX4) (T := TX4) (N := 11) hx hb hts hinX4 hown hK hP 0 (tt_bg (by omega) h9.1) rfl 9 (by decide) hf32 (fun _ h9 => h9) rfl dX4_go_8 ?_
  refine lv_iconst (v := 0) hx hb dX4_go_11 (by decide) ?_
  refine lv_iconst (v := 0) hx hb dX4_go_12 (by decide) ?_
  refine va_iast hx hb hK hP hD hS 8 0 (tt_bg (by omega) h9.2.2.2.2.2.2.2.2) rfl (vp_in_nI (n := 0) (by omega) (by omega)) dX4_go_13 (fun H locs hP hD hS => ?_)
  rw [show (0 : Int32).toNatClampNeg = 0 from rfl] at hP hD
  obtain ⟨cx, h9, hP, hD⟩ : ∃ zg : Nat → va_E, tt_C9 zg (.inr (4, [.ref (ad 1), .int (nI n), .int (nI ch), .ref (ad 2), .ref (ad 3), .ref (ad 4), .ref (ad 5), .ref (ad 6), .ref (ad 7), .ref (ad 8), .int mt])) (.inl (cI, 6303, .inl f)) (.inl (cZ, 8, .inl (fun j => tt_b (K j).1))) (.inl (cZ, 8, .inl (fun j => tt_b (K j).2.1))) (.inl (cI, 8, .inl (fun j => nI (K j).2.2.1))) (.inl (cI, 24, .inl (tt_kp K))) (.inl (cI, 8, .inl (fun j => nI (K j).2.2.2.2.2.2 - 1))) (.inl (cI, 1402, .inl (upd me 0 src))) (.inl (cI, 1402, .inl (upd ms 0 0))) ∧ va_P D vwCl (tt_blk 9 ad zg) H ∧ va_D A (tt_blk 9 ad zg) := ⟨_, h9.set8, by rw [← tt_bset]; exact hP, by rw [← tt_bset]; exact hD⟩
  refine lv_aload_n hx hb dX4_go_14 rfl (lv_at hl 0 rfl) ?_
  refine lv_iconst (v := 1) hx hb dX4_go_15 (by decide) ?_
  refine va_put (D := D) (ci := 4) (v := .int 1) (ty := .int) (C := RX4) (T := TX4) (N := 11) hx hb hts hinX4 tyX4 tyX4_ok nmX4 hown hK hP hD hS 0 (tt_bg (by omega) h9.1) rfl 10 (by decide) hf87 (fun _ h9 => h9) rfl (by decide +kernel) rfl rfl (Nat.le_of_ble_eq_true rfl) dX4_go_16 (fun H locs hP hD hS => ?_)
  obtain ⟨cx, h9, hP, hD⟩ : ∃ zg : Nat → va_E, tt_C9 zg (.inr (4, [.ref (ad 1), .int (nI n), .int (nI ch), .ref (ad 2), .ref (ad 3), .ref (ad 4), .ref (ad 5), .ref (ad 6), .ref (ad 7), .ref (ad 8), .int 1])) (.inl (cI, 6303, .inl f)) (.inl (cZ, 8, .inl (fun j => tt_b (K j).1))) (.inl (cZ, 8, .inl (fun j => tt_b (K j).2.1))) (.inl (cI, 8, .inl (fun j => nI (K j).2.2.1))) (.inl (cI, 24, .inl (tt_kp K))) (.inl (cI, 8, .inl (fun j => nI (K j).2.2.2.2.2.2 - 1))) (.inl (cI, 1402, .inl (upd me 0 src))) (.inl (cI, 1402, .inl (upd ms 0 0))) ∧ va_P D vwCl (tt_blk 9 ad zg) H ∧ va_D A (tt_blk 9 ad zg) := ⟨_, h9.set0, by rw [← tt_bset]; exact hP, by rw [← tt_bset]; exact hD⟩
  refine lv_iconst (v := 0) hx hb dX4_go_19 (by decide) ?_
  refine lv_istore_n (lv' := [(3, .int 0), (0, .ref (ad 0)), (1, .int p1), (2, .int src)]) hx hb dX4_go_20 rfl hl (by decide) rfl (fun ls hl => ?_)
  have hQS : tt_QS cI cZ ad cx n L ch K [(src, 0)] := ⟨f, _, _, h9, hf, tt_MR_1 me ms src 0⟩
  exact loop 702 0 cx [(src, 0)] (by omega) rfl (tt_MI_0 _ _ _) hQS _ _ ls hP hD hS (lv_sub hl [0, 1, 2, 3] rfl)
set_option maxHeartbeats 4000000 in
set_option maxRecDepth 100000 in
theorem c_X4_far (l : Launch) (D : va_G) (cI cZ cO cC : ClassId) (ad : Nat → Nat) (cx : Nat → va_E) (n : Nat) (L : Nat → List tt_T3) (ch : Nat) (K : Nat → tt_KU) (hQ : tt_Q cI cZ ad cx n L ch K) (p1 src x3 : Int32) (hI : tt_I L) (hn : n = (L 0).length) : tt_Muti (S := (Nat → va_E)) l yX4_far wsX4_far ({ frames := 2, cells := 0, slots := 0, locals := 47 } : Room) D (tt_tys cI cZ cO cC) false (tt_blk 9 ad cx) [.ref (ad 0), .int p1, .int src, .int x3] (fun r u => r = tt_fs (tt_bfs (L 0) p1 src) x3 ∧ tt_Q cI cZ ad u n L ch K) (fun u => tt_blk 9 ad u) := by
  refine tt_muti (cc := cX4_far) (maxL := 5) (rt := .int) (by decide) rfl (fun _ _ _ => rfl) (Nat.le_of_ble_eq_true rfl) ?_
  intro p e s m below meth c Q ls A hfix hK hP hD hA hE hl kr
  obtain ⟨hx, hb, hml, hown, hts⟩ := id hfix
  have hown : s.vm.findClass RX4 = some m.cls := hown
  have hfix : CallFix p m c cX4_far 5 s ([.ref (ad 0), .int p1, .int src, .int x3] : List Value).toArray wsX4_far RX4 := hfix
  have hl : lv_has ls 5 [(0, .ref (ad 0)), (1, .int p1), (2, .int src), (3, .int x3)] := hl
  have hf32 := hts (.fieldLink RX4 32 "TripleTreesModel" "steps" "[I") (by decide +kernel)
  have hinX4 : ∀ w ∈ u_ws RX4 TX4 11, w ∈ wsX4_far := by decide +kernel
  have hS : va_S A s.heap s.heap [] := va_S.rf
  obtain ⟨mt, f, me, ms, h9, hf⟩ := id hQ
  have h700 := (hI 0 (by omega)).2.2
  refine lv_aload_n hx hb dX4_far_0 rfl (lv_at hl 0 rfl) ?_
  refine lv_iload_n hx hb dX4_far_1 rfl (lv_at hl 1 rfl) ?_
  refine lv_iload_n hx hb dX4_far_2 rfl (lv_at hl 2 rfl) ?_
  refine tt_fullv (va_runV (As := [.int p1, .int src]) (rest := []) hfix (c_X4_go l D cI cZ cO cC ad cx n L ch K hQ p1 src hI hn _) (cwV 2 hts gX4_far_X4_go rfl rfl rfl (by decide +kernel) ⟨Nat.le_of_ble_eq_true rfl, Nat.le_of_ble_eq_true rfl⟩) (tt_mpreV (q0 := 0) (ci := 4) hK hP hD tt_E.no (tt_bg (by omega) h9.1) rfl) rfl rfl hl.1 rfl (lv_room (Nat.le_of_ble_eq_true rfl)) dX4_far_3 ⟨Nat.zero_le _, Nat.zero_le _⟩) hD hS hA (fun cx H locs hu hP hD hS => ?_)
  obtain ⟨hQS, hMI⟩ := hu
  have hml := tt_MI_len hMI
  obtain ⟨f, me, ms, h9, hf, hMR⟩ := id hQS
  refine lv_aload_n hx hb dX4_far_6 rfl (lv_at hl 0 rfl) ?_
  refine lv_iload_n hx hb dX4_far_7 rfl (lv_at hl 3 rfl) ?_
  have hPc := hP
  refine tt_calli (va_runV (As := [.int x3]) (rest := []) hfix (c_X4_find l D cI cZ cO cC ad cx n L ch K (tt_bfs (L 0) p1 src) hQS x3 (by omega)) (cwV 1 hts gX4_far_X4_find rfl rfl rfl (by decide +kernel) ⟨Nat.le_of_ble_eq_true rfl, Nat.le_of_ble_eq_true rfl⟩) (tt_preV (q0 := 0) (ci := 4) hK hPc tt_E.no (tt_bg (by omega) h9.1) rfl) rfl rfl hl.1 rfl (lv_room (Nat.le_of_ble_eq_true rfl)) dX4_far_8 ⟨Nat.zero_le _, Nat.zero_le _⟩) hP hS (fun H locs hP hS => ?_)
  refine lv_istore (lv' := [(4, .int (if tt_fi (tt_bfs (L 0) p1 src) x3 < (tt_bfs (L 0) p1 src).length then nI (tt_fi (tt_bfs (L 0) p1 src) x3) else (-1))), (0, .ref (ad 0)), (1, .int p1), (2, .int src), (3, .int x3)]) hx hb dX4_far_11 hl (by decide) rfl (fun ls hl => ?_)
  refine lv_iload hx hb dX4_far_13 (lv_at hl 0 rfl) ?_
  refine lv_iconst (v := (-1)) hx hb dX4_far_15 (by decide) ?_
  refine lv_icmp_ne (tgt := 23) hx hb dX4_far_16 (by decide) (fun hb16 => ?_) (fun hb16 => ?_)
  · have hlt := tt_fi_lt hb16
    rw [show (if tt_fi (tt_bfs (L 0) p1 src) x3 < (tt_bfs (L 0) p1 src).length then nI (tt_fi (tt_bfs (L 0) p1 src) x3) else (-1)) = nI (tt_fi (tt_bfs (L 0) p1 src) x3) from if_pos hlt] at hl
    refine lv_aload_n hx hb dX4_far_23 rfl (lv_at hl 1 rfl) ?_
    refine va_get (D := D) (ci := 4) (v := .ref (ad 8)) (C := RX4) (T := TX4) (N := 11) hx hb hts hinX4 hown hK hP 0 (tt_bg (by omega) h9.1) rfl 9 (by decide) hf32 (fun _ h9 => h9) rfl dX4_far_24 ?_
    refine lv_iload hx hb dX4_far_27 (lv_at hl 0 rfl) ?_
    refine va_iald hx hb hK hP 8 0 (tt_bg (by omega) h9.2.2.2.2.2.2.2.2) rfl (vp_in_nI (n := tt_fi (tt_bfs (L 0) p1 src) x3) (by omega) (by omega)) dX4_far_29 ?_
    refine tt_rei (show (ms (nI (tt_fi (tt_bfs (L 0) p1 src) x3)).toNatClampNeg) = ms (tt_fi (tt_bfs (L 0) p1 src) x3) from congrArg ms (nI_clamp (n := tt_fi (tt_bfs (L 0) p1 src) x3) (by omega))) ?_
    exact kr _ _ _ _ _ cx ⟨((hMR _ hlt).2).trans (if_pos hlt).symm, _, f, me, ms, h9, hf⟩ hP hS dX4_far_30
  · refine lv_iconst (v := (-1)) hx hb dX4_far_19 (by decide) ?_
    refine lv_goto (tgt := 30) hx hb dX4_far_20 (by decide) ?_
    exact kr _ _ _ _ _ cx ⟨(if_neg (tt_fi_nlt (by omega) hb16)).symm, _, f, me, ms, h9, hf⟩ hP hS dX4_far_30
set_option maxHeartbeats 4000000 in
set_option maxRecDepth 100000 in
theorem c_X4_reached (l : Launch) (D : va_G) (cI cZ cO cC : ClassId) (ad : Nat → Nat) (cx : Nat → va_E) (n : Nat) (L : Nat → List tt_T3) (ch : Nat) (K : Nat → tt_KU) (hQ : tt_Q cI cZ ad cx n L ch K) (p1 src : Int32) (hI : tt_I L) (hn : n = (L 0).length) : tt_Muti (S := (Nat → va_E)) l yX4_reached wsX4_reached ({ frames := 2, cells := 0, slots := 0, locals := 47 } : Room) D (tt_tys cI cZ cO cC) false (tt_blk 9 ad cx) [.ref (ad 0), .int p1, .int src] (fun r u => r = nI (tt_bfs (L 0) p1 src).length ∧ tt_Q cI cZ ad u n L ch K) (fun u => tt_blk 9 ad u) := by
  refine tt_muti (cc := cX4_reached) (maxL := 3) (rt := .int) (by decide) rfl (fun _ _ _ => rfl) (Nat.le_of_ble_eq_true rfl) ?_
  intro p e s m below meth c Q ls A hfix hK hP hD hA hE hl kr
  obtain ⟨hx, hb, hml, hown, hts⟩ := id hfix
  have hown : s.vm.findClass RX4 = some m.cls := hown
  have hfix : CallFix p m c cX4_reached 3 s ([.ref (ad 0), .int p1, .int src] : List Value).toArray wsX4_reached RX4 := hfix
  have hl : lv_has ls 3 [(0, .ref (ad 0)), (1, .int p1), (2, .int src)] := hl
  have hf87 := hts (.fieldLink RX4 87 "TripleTreesModel" "meets" "I") (by decide +kernel)
  have hinX4 : ∀ w ∈ u_ws RX4 TX4 11, w ∈ wsX4_reached := by decide +kernel
  have hS : va_S A s.heap s.heap [] := va_S.rf
  obtain ⟨mt, f, me, ms, h9, hf⟩ := id hQ
  have h700 := (hI 0 (by omega)).2.2
  refine lv_aload_n hx hb dX4_reached_0 rfl (lv_at hl 0 rfl) ?_
  refine lv_iload_n hx hb dX4_reached_1 rfl (lv_at hl 1 rfl) ?_
  refine lv_iload_n hx hb dX4_reached_2 rfl (lv_at hl 2 rfl) ?_
  refine tt_fullv (va_runV (As := [.int p1, .int src]) (rest := []) hfix (c_X4_go l D cI cZ cO cC ad cx n L ch K hQ p1 src hI hn _) (cwV 2 hts gX4_reached_X4_go rfl rfl rfl (by decide +kernel) ⟨Nat.le_of_ble_eq_true rfl, Nat.le_of_ble_eq_true rfl⟩) (tt_mpreV (q0 := 0) (ci := 4) hK hP hD tt_E.no (tt_bg (by omega) h9.1) rfl) rfl rfl hl.1 rfl (lv_room (Nat.le_of_ble_eq_true rfl)) dX4_reached_3 ⟨Nat.zero_le _, Nat.zero_le _⟩) hD hS hA (fun cx H locs hu hP hD hS => ?_)
  obtain ⟨hQS, hMI⟩ := hu
  have hml := tt_MI_len hMI
  obtain ⟨f, me, ms, h9, hf, hMR⟩ := id hQS
  refine lv_aload_n hx hb dX4_reached_6 rfl (lv_at hl 0 rfl) ?_
  refine va_get (D := D) (ci := 4) (v := .int (nI ((tt_bfs (L 0) p1 src).length))) (C := RX4) (T := TX4) (N := 11) hx hb hts hinX4 hown hK hP 0 (tt_bg (by omega) h9.1) rfl 10 (by decide) hf87 (fun _ h9 => h9) rfl dX4_reached_7 ?_
  exact kr _ _ _ _ _ cx ⟨rfl, _, f, me, ms, h9, hf⟩ hP hS dX4_reached_10

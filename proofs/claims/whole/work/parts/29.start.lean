/-! own rows: the law from its entry -/
theorem tt_gt5 {a n : Nat} (ha : a ≤ 3000) (hn : n ≤ 3000) : nI n - 5 < nI a ↔ n < a + 5 := by
  rw [Int32.lt_iff_toInt_lt, show (5 : Int32) = nI 5 from rfl, pk_sub_toInt (by omega) (by omega), nI_toInt (by omega)]
  omega
theorem tt_apart {adx adm : Nat → Nat} {cx cm : Nat → va_E} {A : Nat → Prop} {D : va_G} {H : Heap} {q1 : Nat} {e : va_E} (hD : va_D A (tt_blk 21 adx cx ++ [(q1, e)])) (hP : va_P D vwCl (tt_blk 21 adx cx ++ [(q1, e)]) H) (hD1 : va_D (va_A [(q1, e)] H.size) (tt_blk 9 adm cm)) : ∀ i j, i < 21 → j < 9 → adx i ≠ adm j := by
  intro i j hi hj z
  have hlen : (tt_blk 21 adx cx).length = 21 := by simp [tt_blk]
  have h1 : (tt_blk 21 adx cx ++ [(q1, e)])[i]? = some (adx i, cx i) := by rw [List.getElem?_append_left (by omega), tt_bg hi rfl]
  have h2 : (tt_blk 21 adx cx ++ [(q1, e)])[21]? = some (q1, e) := by rw [List.getElem?_append_right (by omega), hlen]; rfl
  have h3 := hD1.2 j _ (tt_bg hj rfl)
  have h3 : va_A [(q1, e)] H.size (adm j) := h3
  rw [← z] at h3
  rcases h3 with ⟨k, e2, h3⟩ | h3
  · have hk : k = 0 := by
      have := (List.getElem?_eq_some_iff.mp h3).1
      simp at this
      exact this
    subst hk
    have h4 : adx i = q1 := by
      have h5 : (q1, e) = (adx i, e2) := Option.some.inj h3
      exact (congrArg Prod.fst h5).symm
    have := hD.1 i 21 _ _ h1 h2 h4
    omega
  · have := (hP i _ h1).lt
    exact absurd this (Nat.not_lt.mpr h3)
theorem tt_SM_0 : tt_SM (fun _ => []) 0 (fun _ => (false, false, 0, 0, 0, 0)) (fun _ => (false, false, 0, 0, 0, 0, 1)) 0 := by
  refine ⟨fun k _ => ⟨List.Pairwise.nil, List.Perm.refl _, Nat.zero_le _⟩, Nat.le_refl _, Nat.le_refl _, fun j _ => ⟨show (0 : Nat) < 3 by decide, Nat.le_refl _, Nat.zero_le _, Nat.zero_le _, fun h => by cases h⟩, fun j _ => ⟨show (0 : Nat) < 8 by decide, show (1 : Nat) ≤ 702 + 0 * 0 by decide⟩, fun j _ => ⟨rfl, fun h => by cases h⟩⟩
set_option maxHeartbeats 4000000 in
set_option maxRecDepth 100000 in
theorem law_loop {p : Program} {l : Launch} {e : Env} {s : State} {m : MethodId} {below : List Frame} {meth : Method} {c : Code} {D : va_G} {cI cZ cO cC : ClassId} {b LL : Nat} {xs : Nat → Int32} {adx adm : Nat → Nat} (hLL : LL ≤ 2560) (C0 : lw_At p s m meth c b LL xs) (hK : va_K D vwCl (tt_tys cI cZ cO cC) s) (hE : tt_E true (fun q : Nat => s.heap.size ≤ q) s s.heap) (hap : ∀ i j, i < 21 → j < 9 → adx i ≠ adm j) : ∀ (n k : Nat) (cx cm : Nat → va_E) (L : Nat → List tt_T3) (ch : Nat) (C : Nat → tt_CU) (K : Nat → tt_KU) (H : Heap) (locs : List Loc) (ls : Array Slot), n + k = 513 → tt_LS D cI cZ cO cC s adx adm cx cm L ch C K k H locs → lv_has ls 4 [(0, .ref b), (1, .ref (adx 0)), (2, .ref (adm 0)), (3, .int (nI (5 * k)))] → W p l e room_1 s m #[Value.ref b] below meth c H locs 30 17652 (lw_Z below #[Value.ref b] s) (F0 m 18 ls []) := by
  obtain ⟨hx, hb, hr, hml, hown, hts, hX, hbl, hlocks, hgv⟩ := id C0
  have hA : ∀ q : Nat, s.heap.size ≤ q → (fun q : Nat => s.heap.size ≤ q) q := fun _ h => h
  have hbA : ¬ (fun q : Nat => s.heap.size ≤ q) b := Nat.not_le.mpr hbl
  intro n
  induction n with
  | zero =>
    intro k cx cm L ch C K H locs ls hn hLS hl
    obtain ⟨hR, hQ, hSM, hPx, hPm, hDx, hDm, hS⟩ := id hLS
    refine lv_iload_n hx hb dL_law_18 rfl (lv_at hl 3 rfl) ?_
    refine lv_aload_n hx hb dL_law_19 rfl (lv_at hl 0 rfl) ?_
    refine va_slen hx hb hX hbl hbA hS dL_law_20 ?_
    refine lv_iconst (v := 5) hx hb dL_law_21 (by decide) ?_
    refine lv_isub hx hb dL_law_22 ?_
    refine lv_icmp_gt (tgt := 800) hx hb dL_law_23 (by decide) (fun h23 => ?_) (fun h23 => ?_)
    · refine lv_iconst (v := 1) hx hb dL_law_800 (by decide) ?_
      refine va_forget (fun q hq => hS.2.2 q hq) ?_
      refine W.widen (k := 600000) (n := 7302250) (by omega) (by omega) ?_
      exact lw_ret hx hb hr hlocks dL_law_801
    · have h23 : ¬ LL < 5 * k + 5 := fun h => h23 ((tt_gt5 (by omega) (by omega)).mpr h)
      omega
  | succ n ih =>
    intro k cx cm L ch C K H locs ls hn hLS hl
    obtain ⟨hR, hQ, hSM, hPx, hPm, hDx, hDm, hS⟩ := id hLS
    refine lv_iload_n hx hb dL_law_18 rfl (lv_at hl 3 rfl) ?_
    refine lv_aload_n hx hb dL_law_19 rfl (lv_at hl 0 rfl) ?_
    refine va_slen hx hb hX hbl hbA hS dL_law_20 ?_
    refine lv_iconst (v := 5) hx hb dL_law_21 (by decide) ?_
    refine lv_isub hx hb dL_law_22 ?_
    refine lv_icmp_gt (tgt := 800) hx hb dL_law_23 (by decide) (fun h23 => ?_) (fun h23 => ?_)
    · refine lv_iconst (v := 1) hx hb dL_law_800 (by decide) ?_
      refine va_forget (fun q hq => hS.2.2 q hq) ?_
      refine W.widen (k := 600000) (n := 7302250) (by omega) (by omega) ?_
      exact lw_ret hx hb hr hlocks dL_law_801
    · have h23 : ¬ LL < 5 * k + 5 := fun h => h23 ((tt_gt5 (by omega) (by omega)).mpr h)
      have hk5 : 5 * k + 4 < LL := by omega
      have hnext : ∀ (cx cm : Nat → va_E) (L : Nat → List tt_T3) (ch : Nat) (C : Nat → tt_CU) (K : Nat → tt_KU) (H : Heap) (locs : List Loc) (ls : Array Slot), tt_LS D cI cZ cO cC s adx adm cx cm L ch C K (k + 1) H locs → lv_has ls 4 [(0, .ref b), (1, .ref (adx 0)), (2, .ref (adm 0)), (3, .int (nI (5 * k)))] → W p l e room_1 s m #[Value.ref b] below meth c H locs 30 17652 (lw_Z below #[Value.ref b] s) (F0 m 794 ls []) := by
        intro cx cm L ch C K H locs ls hLS hl
        refine lv_iinc (v := nI (5 * (k + 1))) (lv' := [(3, .int (nI (5 * (k + 1)))), (0, .ref b), (1, .ref (adx 0)), (2, .ref (adm 0))]) hx hb dL_law_794 hl (k := 3) rfl (nI_add (5 * k) 5) (by decide) rfl (fun ls hl => ?_)
        refine lv_goto (tgt := 18) hx hb dL_law_797 (by decide) ?_
        exact ih (k + 1) cx cm L ch C K H locs ls (by omega) hLS (lv_sub hl [1, 2, 3, 0] rfl)
      refine lv_aload_n hx hb dL_law_26 rfl (lv_at hl 0 rfl) ?_
      refine lv_iload_n hx hb dL_law_27 rfl (lv_at hl 3 rfl) ?_
      refine va_sld hx hb hX hbl hbA hS (vp_in_nI (n := 5 * k) (by omega) (by omega)) dL_law_28 ?_
      refine lv_bipush (v := 31) hx hb dL_law_29 (by decide) ?_
      refine lv_iand hx hb dL_law_31 ?_
      obtain ⟨j, hj, ej⟩ := pk_andE (xs (nI (5 * k)).toNatClampNeg) (m := 31) 5 (by decide)
      refine tt_rei ej ?_
      rcases (show j = 0 ∨ j = 1 ∨ j = 2 ∨ j = 3 ∨ j = 4 ∨ j = 5 ∨ j = 6 ∨ j = 7 ∨ j = 8 ∨ j = 9 ∨ j = 10 ∨ j = 11 ∨ j = 12 ∨ j = 13 ∨ j = 14 ∨ j = 15 ∨ j = 16 ∨ j = 17 ∨ 18 ≤ j by omega) with rfl | rfl | rfl | rfl | rfl | rfl | rfl | rfl | rfl | rfl | rfl | rfl | rfl | rfl | rfl | rfl | rfl | rfl | h18
      · refine lv_tableIn (off := 88) (tgt := 120) hx hb dL_law_32 (by decide) (by decide) (by decide) (by decide) ?_
        exact law_add hLL C0 hK hE hap k hk5 cx cm L ch C K H locs ls hLS hl hnext
      · refine lv_tableIn (off := 131) (tgt := 163) hx hb dL_law_32 (by decide) (by decide) (by decide) (by decide) ?_
        exact law_remove hLL C0 hK hE hap k hk5 cx cm L ch C K H locs ls hLS hl hnext
      · refine lv_tableIn (off := 174) (tgt := 206) hx hb dL_law_32 (by decide) (by decide) (by decide) (by decide) ?_
        exact law_removeAll hLL C0 hK hE hap k hk5 cx cm L ch C K H locs ls hLS hl hnext
      · refine lv_tableIn (off := 227) (tgt := 259) hx hb dL_law_32 (by decide) (by decide) (by decide) (by decide) ?_
        exact law_holds hLL C0 hK hE hap k hk5 cx cm L ch C K H locs ls hLS hl hnext
      · refine lv_tableIn (off := 270) (tgt := 302) hx hb dL_law_32 (by decide) (by decide) (by decide) (by decide) ?_
        exact law_open hLL C0 hK hE hap k hk5 cx cm L ch C K H locs ls hLS hl hnext
      · refine lv_tableIn (off := 323) (tgt := 355) hx hb dL_law_32 (by decide) (by decide) (by decide) (by decide) ?_
        exact law_next hLL C0 hK hE hap k hk5 cx cm L ch C K H locs ls hLS hl hnext
      · refine lv_tableIn (off := 346) (tgt := 378) hx hb dL_law_32 (by decide) (by decide) (by decide) (by decide) ?_
        exact law_seek hLL C0 hK hE hap k hk5 cx cm L ch C K H locs ls hLS hl hnext
      · refine lv_tableIn (off := 399) (tgt := 431) hx hb dL_law_32 (by decide) (by decide) (by decide) (by decide) ?_
        exact law_part hLL C0 hK hE hap k hk5 cx cm L ch C K H locs ls hLS hl hnext
      · refine lv_tableIn (off := 432) (tgt := 464) hx hb dL_law_32 (by decide) (by decide) (by decide) (by decide) ?_
        exact law_close hLL C0 hK hE hap k hk5 cx cm L ch C K H locs ls hLS hl hnext
      · refine lv_tableIn (off := 455) (tgt := 487) hx hb dL_law_32 (by decide) (by decide) (by decide) (by decide) ?_
        exact law_many hLL C0 hK hE hap k hk5 cx cm L ch C K H locs ls hLS hl hnext
      · refine lv_tableIn (off := 508) (tgt := 540) hx hb dL_law_32 (by decide) (by decide) (by decide) (by decide) ?_
        exact law_at hLL C0 hK hE hap k hk5 cx cm L ch C K H locs ls hLS hl hnext
      · refine lv_tableIn (off := 551) (tgt := 583) hx hb dL_law_32 (by decide) (by decide) (by decide) (by decide) ?_
        exact law_before hLL C0 hK hE hap k hk5 cx cm L ch C K H locs ls hLS hl hnext
      · refine lv_tableIn (off := 604) (tgt := 636) hx hb dL_law_32 (by decide) (by decide) (by decide) (by decide) ?_
        exact law_different hLL C0 hK hE hap k hk5 cx cm L ch C K H locs ls hLS hl hnext
      · refine lv_tableIn (off := 627) (tgt := 659) hx hb dL_law_32 (by decide) (by decide) (by decide) (by decide) ?_
        exact law_chains hLL C0 hK hE hap k hk5 cx cm L ch C K H locs ls hLS hl hnext
      · refine lv_tableIn (off := 660) (tgt := 692) hx hb dL_law_32 (by decide) (by decide) (by decide) (by decide) ?_
        exact law_far hLL C0 hK hE hap k hk5 cx cm L ch C K H locs ls hLS hl hnext
      · refine lv_tableIn (off := 703) (tgt := 735) hx hb dL_law_32 (by decide) (by decide) (by decide) (by decide) ?_
        exact law_reached hLL C0 hK hE hap k hk5 cx cm L ch C K H locs ls hLS hl hnext
      · refine lv_tableIn (off := 736) (tgt := 768) hx hb dL_law_32 (by decide) (by decide) (by decide) (by decide) ?_
        exact law_size hLL C0 hK hE hap k hk5 cx cm L ch C K H locs ls hLS hl hnext
      · refine lv_tableIn (off := 749) (tgt := 781) hx hb dL_law_32 (by decide) (by decide) (by decide) (by decide) ?_
        exact law_changes hLL C0 hK hE hap k hk5 cx cm L ch C K H locs ls hLS hl hnext
      · refine lv_tableOut (tgt := 794) hx hb dL_law_32 (Or.inr (by rw [nI_toInt (by omega)]; omega)) (by decide) ?_
        exact hnext cx cm L ch C K H locs ls ⟨hR, hQ, tt_SM_more hSM (by omega), hPx, hPm, hDx, hDm, hS⟩ hl
set_option maxHeartbeats 4000000 in
set_option maxRecDepth 100000 in
theorem tt_start_T {s : State} {b : Nat} (hts : ∀ w ∈ lw_tbl, w.before #[Value.ref b] s = true) (hgv : (Jvm.Cond.and given_1 narrow_1).before #[Value.ref b] s = true) : tt_T (fun q : Nat => s.heap.size ≤ q) s s.heap := by
  have hs := flat_of_before _ hgv
  have hA : ∀ a : Nat, a < s.heap.size → ¬ (fun q : Nat => s.heap.size ≤ q) a := fun a h => Nat.not_le.mpr h
  have harr := hs (Cond.arrayOf (.static "TripleTrees" "ORDER_OF_MASK" "[I") .int) (by decide +kernel)
  have hlen := va_eqt (hs (Cond.eq (.length (.static "TripleTrees" "ORDER_OF_MASK" "[I")) (.int 8)) (by decide +kernel))
  have hel : ∀ j : Nat, j < 8 → (Term.elem (.static "TripleTrees" "ORDER_OF_MASK" "[I") (.int (Int32.ofNat j))).eval #[Value.ref b] s none [] s = some ((fun j => Value.int (tt_om j)) j) := by
    intro j hj
    rcases (show j = 0 ∨ j = 1 ∨ j = 2 ∨ j = 3 ∨ j = 4 ∨ j = 5 ∨ j = 6 ∨ j = 7 by omega) with rfl | rfl | rfl | rfl | rfl | rfl | rfl | rfl
    · exact va_eqt (hs (Cond.eq (.elem (.static "TripleTrees" "ORDER_OF_MASK" "[I") (.int 0)) (.int 0)) (by decide +kernel))
    · exact va_eqt (hs (Cond.eq (.elem (.static "TripleTrees" "ORDER_OF_MASK" "[I") (.int 1)) (.int 0)) (by decide +kernel))
    · exact va_eqt (hs (Cond.eq (.elem (.static "TripleTrees" "ORDER_OF_MASK" "[I") (.int 2)) (.int 1)) (by decide +kernel))
    · exact va_eqt (hs (Cond.eq (.elem (.static "TripleTrees" "ORDER_OF_MASK" "[I") (.int 3)) (.int 0)) (by decide +kernel))
    · exact va_eqt (hs (Cond.eq (.elem (.static "TripleTrees" "ORDER_OF_MASK" "[I") (.int 4)) (.int 2)) (by decide +kernel))
    · exact va_eqt (hs (Cond.eq (.elem (.static "TripleTrees" "ORDER_OF_MASK" "[I") (.int 5)) (.int 2)) (by decide +kernel))
    · exact va_eqt (hs (Cond.eq (.elem (.static "TripleTrees" "ORDER_OF_MASK" "[I") (.int 6)) (.int 1)) (by decide +kernel))
    · exact va_eqt (hs (Cond.eq (.elem (.static "TripleTrees" "ORDER_OF_MASK" "[I") (.int 7)) (.int 0)) (by decide +kernel))
  obtain ⟨t, ht, hT⟩ := va_Tof (N := 8) (f := fun j => Value.int (tt_om j)) (A := fun q : Nat => s.heap.size ≤ q) (by decide) harr hlen hel hA
  exact ⟨t, va_Zref (hts (.laysStatic "TripleTrees" "ORDER_OF_MASK" "[I") (by decide +kernel)) (hts (.initialized "TripleTrees") (by decide +kernel)) ht hA, hT⟩
theorem tt_arrK {s : State} {args : Array Value} {ty : FieldType} (h : (Cond.arrayClass ty).before args s = true) : ∃ cA : ClassId, ArrOfT s cA ty ∧ s.vm.findClass ("[" ++ ty.toString) = some cA := by
  obtain ⟨cA, kA, comp, h1, h2, h3⟩ := Cond.arrayClass_spec h
  exact ⟨cA, fun n z => ⟨fun k h => (by cases h), kA, h2, comp, h3⟩, h1⟩
theorem tt_arrO {s : State} {args : Array Value} {C : String} (h : (Cond.arrayOver (.object C)).before args s = true) : ∃ cA : ClassId, ArrOfT s cA (.object C) ∧ va_RA s cA (.object C) := by
  obtain ⟨comp, cA, kA, h1, h2, h3, h4, h5⟩ := Cond.arrayOver_spec h
  exact ⟨cA, fun n z => ⟨fun k h => (by cases h), kA, h3, comp, h4⟩, kA, comp, h3, h4, h1, h5⟩
set_option maxHeartbeats 4000000 in
set_option maxRecDepth 100000 in
theorem whole_start {p : Program} {e : Env} {s : State} {m : MethodId} {below : List Frame} {meth : Method} {c : Code} (l : Launch) {b L : Nat} {xs : Nat → Int32} (hL : L ≤ 2560) (C0 : lw_At p s m meth c b L xs) : W p l e room_1 s m #[Value.ref b] below meth c s.heap [] 0 0 (lw_Z below #[Value.ref b] s) (entryFrame m ([Value.ref b] : List Value).toArray 4) := by
  obtain ⟨hx, hb, hr, hml, hown, hts0, hX, hbl, hlocks, hgv⟩ := id C0
  have hts := fun w h => hts0 w (wsL_law_in w h)
  have hfix : CallFix p m c cL_law 4 s #[Value.ref b] wsL_law RL := ⟨hx, hb, hml, hown, hts⟩
  have hA : ∀ q : Nat, s.heap.size ≤ q → (fun q : Nat => s.heap.size ≤ q) q := fun _ h => h
  obtain ⟨c0, iS0, hKn0⟩ := u_known (C := RX0) (T := TX0) (N := 6) (n := 6) hts0 inX0 (hts0 (.instantiable RX0 6) (by decide +kernel))
  obtain ⟨c1, iS1, hKn1⟩ := u_known (C := RX1) (T := TX1) (N := 3) (n := 3) hts0 inX1 (hts0 (.instantiable RX1 3) (by decide +kernel))
  obtain ⟨c2, iS2, hKn2⟩ := u_known (C := RX2) (T := TX2) (N := 4) (n := 4) hts0 inX2 (hts0 (.instantiable RX2 4) (by decide +kernel))
  obtain ⟨c3, iS3, hKn3⟩ := u_known (C := RX3) (T := TX3) (N := 4) (n := 4) hts0 inX3 (hts0 (.instantiable RX3 4) (by decide +kernel))
  obtain ⟨c4, iS4, hKn4⟩ := u_known (C := RX4) (T := TX4) (N := 11) (n := 11) hts0 inX4 (hts0 (.instantiable RX4 11) (by decide +kernel))
  obtain ⟨D, hKc⟩ : ∃ D : va_G, ∀ (k : Nat) (q : vw_C), vwCl[k]? = some q → u_Kn s q.1 q.2.1 q.2.2 (D.1 k) (D.2 k) := by
    refine ⟨(fun k => if k = 0 then c0 else if k = 1 then c1 else if k = 2 then c2 else if k = 3 then c3 else c4, fun k => if k = 0 then iS0 else if k = 1 then iS1 else if k = 2 then iS2 else if k = 3 then iS3 else iS4), ?_⟩
    intro k q hq
    match k, hq with
    | 0, hq => cases hq; exact hKn0
    | 1, hq => cases hq; exact hKn1
    | 2, hq => cases hq; exact hKn2
    | 3, hq => cases hq; exact hKn3
    | 4, hq => cases hq; exact hKn4
    | k + 5, hq => simp [vwCl] at hq
  obtain ⟨cI, hI1, hI2⟩ := tt_arrK (hts0 (.arrayClass .int) (by decide +kernel))
  obtain ⟨cZ, hZ1, hZ2⟩ := tt_arrK (hts0 (.arrayClass .boolean) (by decide +kernel))
  have hAO1 := hts0 (.arrayOver (.object RX1)) (by decide +kernel)
  have hAO0 := hts0 (.arrayOver (.object RX0)) (by decide +kernel)
  obtain ⟨cO, hO1, hO2⟩ := tt_arrO hAO1
  obtain ⟨cC, hC1, hC2⟩ := tt_arrO hAO0
  have hK : va_K D vwCl (tt_tys cI cZ cO cC) s := by
    refine ⟨hKc, fun k q hq => ?_⟩
    match k, hq with
    | 0, hq => cases hq; exact ⟨hI1, hI2⟩
    | 1, hq => cases hq; exact ⟨hZ1, hZ2⟩
    | 2, hq => cases hq; exact ⟨hO1, hO2⟩
    | 3, hq => cases hq; exact ⟨hC1, hC2⟩
    | k + 4, hq => simp [tt_tys] at hq
  have hnF : ∀ w ∈ tt_nF, w ∈ lw_tbl := by decide +kernel
  have hnM : ∀ w ∈ tt_nM, w ∈ lw_tbl := by decide +kernel
  have hoF : tt_nF.all (fun w => w.onTables) = true := by decide +kernel
  have hoM : tt_nM.all (fun w => w.onTables) = true := by decide +kernel
  have hE : tt_E true (fun q : Nat => s.heap.size ≤ q) s s.heap := fun _ => ⟨tt_start_T hts0 hgv, fun w hw => va_Nw.of (List.all_eq_true.mp hoF w hw) (hts0 w (hnF w hw)), fun w hw => va_Nw.of (List.all_eq_true.mp hoM w hw) (hts0 w (hnM w hw))⟩
  have hS : va_S (fun q : Nat => s.heap.size ≤ q) s.heap s.heap [] := va_S.rf
  have hP : va_P D vwCl [] s.heap := tt_P0
  have hD : va_D (fun q : Nat => s.heap.size ≤ q) [] := ⟨fun i j p q h => by simp at h, fun k q h => by simp at h⟩
  have hl := lv_entry ([.ref b]) (n := 4) (Nat.le_of_ble_eq_true rfl)
  rw [lg_entry_eq]
  generalize (lg_sl ([.ref b]) ++ List.replicate (4 - (lg_sl ([.ref b])).length) Slot.unset).toArray = ls at hl ⊢
  have hl : lv_has ls 4 [(0, .ref b)] := hl
  refine va_new (ci := 3) (fs := [.null, .null, .null, .int 0]) (C := RX3) (T := TX3) (N := 4) hx hb hts inlX3 tyX3 tyX3_ok hown (hts (.classLink RL 7 RX3) (by decide +kernel)) (hts (.instantiable RX3 4) (by decide +kernel)) (hts (.initialized RX3) (by decide +kernel)) hK hP hD hS hA rfl (fun j hj => by rcases (show j = 0 ∨ j = 1 ∨ j = 2 ∨ j = 3 by omega) with rfl | rfl | rfl | rfl <;> rfl) (Nat.le_of_ble_eq_true rfl) (Nat.le_of_ble_eq_true rfl) dL_law_0 (fun q0 H hP hD hS => ?_)
  have hP : va_P D vwCl [(q0, .inr (3, [.null, .null, .null, .int 0]))] H := hP
  have hD : va_D (fun q : Nat => s.heap.size ≤ q) [(q0, .inr (3, [.null, .null, .null, .int 0]))] := hD
  refine W.widen (k := 1) (n := 4) (by omega) (by omega) ?_
  refine lv_dup hx hb dL_law_3 rfl ?_
  have hF := tt_freeF hD hS hA
  refine va_callv (va_runI (As := []) (rest := [.ref q0]) hfix (c_X3_init l D cI cZ cO cC q0 H.size) (cwI 0 hts gL_law_X3_init rfl rfl rfl (hts (.initialized RX3) (by decide +kernel)) (hts (.methodLink RL 9 yX3_init) (by decide +kernel)) (hts (.instanceMethod yX3_init) (by decide +kernel)) rfl (by decide +kernel) ⟨Nat.le_of_ble_eq_true rfl, Nat.le_of_ble_eq_true rfl⟩) (tt_npreS hK hP hD ((hE.at hS).narrow hF) (fun _ => ⟨va_AO.of hAO1, va_AO.of hAO0⟩)) rfl rfl hl.1 rfl (lv_room (Nat.le_of_ble_eq_true rfl)) dL_law_4 ⟨Nat.le_of_ble_eq_true rfl, Nat.le_of_ble_eq_true rfl⟩) hS (fun q _ h => hF q h) hF (fun u t H1 locs ht hvm hw hB hz1 hk1 hS => ?_)
  obtain ⟨adx, cx⟩ := u
  obtain ⟨e0, hR⟩ := hw
  obtain ⟨hPx, hDx⟩ := hB
  rw [ht] at hPx
  have hPx : va_P D vwCl (tt_blk 21 adx cx) H1 := hPx
  have hDX : va_D (fun q : Nat => s.heap.size ≤ q) (tt_blk 21 adx cx) := va_D.weaken (A := va_A [(q0, .inr (3, [.null, .null, .null, .int 0]))] H.size) hDx (fun k q _ h => hF q.1 h)
  have e0 : adx 0 = q0 := e0
  have hR : tt_R cI cZ cO cC adx cx (fun _ => []) 0 (fun _ => (false, false, 0, 0, 0, 0)) := hR
  generalize H1 = H at hPx hS ⊢
  refine W.widen (k := 21) (n := 8478) (by omega) (by omega) ?_
  refine lv_astore_n (lv' := [(1, .ref q0), (0, .ref b)]) hx hb dL_law_7 rfl hl (by decide) rfl (fun ls hl => ?_)
  refine va_new (ci := 4) (fs := [.null, .int 0, .int 0, .null, .null, .null, .null, .null, .null, .null, .int 0]) (C := RX4) (T := TX4) (N := 11) hx hb hts inlX4 tyX4 tyX4_ok hown (hts (.classLink RL 10 RX4) (by decide +kernel)) (hts (.instantiable RX4 11) (by decide +kernel)) (hts (.initialized RX4) (by decide +kernel)) hK hPx hDX hS hA rfl (fun j hj => by rcases (show j = 0 ∨ j = 1 ∨ j = 2 ∨ j = 3 ∨ j = 4 ∨ j = 5 ∨ j = 6 ∨ j = 7 ∨ j = 8 ∨ j = 9 ∨ j = 10 by omega) with rfl | rfl | rfl | rfl | rfl | rfl | rfl | rfl | rfl | rfl | rfl <;> rfl) (Nat.le_of_ble_eq_true rfl) (Nat.le_of_ble_eq_true rfl) dL_law_8 (fun q1 H hP hD hS => ?_)
  have hlen : (tt_blk 21 adx cx).length = 21 := by simp [tt_blk]
  have hPx : va_P D vwCl (tt_blk 21 adx cx) H := fun k q hq => hP k q (by rw [List.getElem?_append_left (by have := (List.getElem?_eq_some_iff.mp hq).1; exact this)]; exact hq)
  have hm21 : (tt_blk 21 adx cx ++ [(q1, .inr (4, [.null, .int 0, .int 0, .null, .null, .null, .null, .null, .null, .null, .int 0]))])[21]? = some (q1, .inr (4, [.null, .int 0, .int 0, .null, .null, .null, .null, .null, .null, .null, .int 0])) := by rw [List.getElem?_append_right (by omega), hlen]; rfl
  have hPc := tt_pick hP (tt_C1 hm21)
  have hDc := hD.sub [21] (tt_nd1 21) (tt_C1 hm21)
  refine W.widen (k := 22) (n := 8489) (by omega) (by omega) ?_
  refine lv_dup hx hb dL_law_11 rfl ?_
  have hF := tt_freeF hDc hS hA
  refine va_callv (va_runI (As := []) (rest := [.ref q1]) hfix (c_X4_init l D cI cZ cO cC q1 H.size) (cwI 0 hts gL_law_X4_init rfl rfl rfl (hts (.initialized RX4) (by decide +kernel)) (hts (.methodLink RL 12 yX4_init) (by decide +kernel)) (hts (.instanceMethod yX4_init) (by decide +kernel)) rfl (by decide +kernel) ⟨Nat.le_of_ble_eq_true rfl, Nat.le_of_ble_eq_true rfl⟩) (tt_npreS hK hPc hDc tt_E.no (fun h => by cases h)) rfl rfl hl.1 rfl (lv_room (Nat.le_of_ble_eq_true rfl)) dL_law_12 ⟨Nat.le_of_ble_eq_true rfl, Nat.le_of_ble_eq_true rfl⟩) hS (fun q _ h => hF q h) hF (fun u t H1 locs ht hvm hw hB hz1 hk1 hS => ?_)
  obtain ⟨adm, cm⟩ := u
  obtain ⟨e1, hQ⟩ := hw
  obtain ⟨hPm, hDm0⟩ := hB
  rw [ht] at hPm
  have hPm : va_P D vwCl (tt_blk 9 adm cm) H1 := hPm
  have hDm0 : va_D (va_A [(q1, .inr (4, [.null, .int 0, .int 0, .null, .null, .null, .null, .null, .null, .null, .int 0]))] H.size) (tt_blk 9 adm cm) := hDm0
  have hap := tt_apart hD hP hDm0
  have hDm : va_D (fun q : Nat => s.heap.size ≤ q) (tt_blk 9 adm cm) := hDm0.weaken (fun k q _ h => hF q.1 h)
  have e1 : adm 0 = q1 := e1
  have hQ : tt_Q cI cZ adm cm 0 (fun _ => []) 0 (fun _ => (false, false, 0, 0, 0, 0, 1)) := hQ
  have hPx : va_P D vwCl (tt_blk 21 adx cx) H1 := hPx.kept (fun k q hq => hk1 q.1 (hPx k q hq).lt (fun h => ?_))
  rotate_left
  · rcases h with ⟨i, e2, h⟩ | h
    · have hi : i = 0 := by have := (List.getElem?_eq_some_iff.mp h).1; simpa using this
      subst hi
      have h5 := Option.some.inj h
      have hk := (tt_blk_at hq).1
      have h6 := hD.1 k 21 q _ (by rw [List.getElem?_append_left (by omega)]; exact hq) hm21 (congrArg Prod.fst h5).symm
      omega
    · exact absurd (hPx k q hq).lt (Nat.not_lt.mpr h)
  generalize H1 = H at hPx hPm hS ⊢
  refine W.widen (k := 30) (n := 17652) (by omega) (by omega) ?_
  refine lv_astore_n (lv' := [(2, .ref q1), (1, .ref q0), (0, .ref b)]) hx hb dL_law_15 rfl hl (by decide) rfl (fun ls hl => ?_)
  refine lv_iconst (v := 0) hx hb dL_law_16 (by decide) ?_
  refine lv_istore_n (lv' := [(3, .int 0), (2, .ref q1), (1, .ref q0), (0, .ref b)]) hx hb dL_law_17 rfl hl (by decide) rfl (fun ls hl => ?_)
  subst e0
  subst e1
  exact law_loop hL C0 hK hE hap 513 0 cx cm _ _ _ _ H locs ls rfl ⟨hR, hQ, tt_SM_0, hPx, hPm, hDX, hDm, hS⟩ (lv_sub hl [3, 2, 1, 0] rfl)

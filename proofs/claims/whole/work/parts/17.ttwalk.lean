/-! own words: what the walk's cells hold while it goes -/
def tt_WS (cI cZ : ClassId) (ad : Nat → Nat) (cx : Nat → va_E) (L : Nat → List tt_T3) (p src : Int32) (M : tt_MM) : Prop := ∃ wi wst wm : Nat → Int32, tt_W cI cZ ad cx M.length wi wst wm ∧ tt_MR M wi wst ∧ tt_MK L p M wm ∧ tt_MI (L 0) p src M
theorem tt_WS_add {cI cZ : ClassId} {ad : Nat → Nat} {cx : Nat → va_E} {L : Nat → List tt_T3} {p src v sv : Int32} {M : tt_MM} {wi wst wm : Nat → Int32} {t : tt_T3} (hI : tt_I L) (hW : tt_W cI cZ ad cx (M.length + 1) (upd wi M.length (tt_pp 2 t)) (upd wst M.length sv) (upd wm (tt_st 6 0 p (tt_pp 2 t) L) 1)) (hMR : tt_MR M wi wst) (hMK : tt_MK L p M wm) (hMI : tt_MI (L 0) p src M) (ht : t ∈ L 0) (hp : t.2.1 = p) (hv : t.1 = v) (htg : 0 < tt_mn 6 0 p (tt_pp 2 t) L) (hz : wm (tt_st 6 0 p (tt_pp 2 t) L) = 0) : tt_WS cI cZ ad cx L p src (tt_wv p v sv t M) := by
  have hn : t.2.2 ∉ M.map Prod.fst := (hMK _ htg).mp hz
  have e : tt_wv p v sv t M = M ++ [(t.2.2, sv)] := if_pos ⟨hp, hv, hn⟩
  rw [e]
  refine ⟨_, _, _, ?_, tt_MR_add hMR t.2.2 sv, tt_MK_add hI hMK htg sv, tt_MI_add hMI ht hp hn sv⟩
  rw [List.length_append]
  exact hW
theorem tt_WS_no {cI cZ : ClassId} {ad : Nat → Nat} {cx : Nat → va_E} {L : Nat → List tt_T3} {p src v sv : Int32} {M : tt_MM} {wi wst wm : Nat → Int32} {t : tt_T3} (hW : tt_W cI cZ ad cx M.length wi wst wm) (hMR : tt_MR M wi wst) (hMK : tt_MK L p M wm) (hMI : tt_MI (L 0) p src M) (ht : t ∈ L 0) (hp : t.2.1 = p) (hv : t.1 = v) (hz : ¬ wm (tt_st 6 0 p (tt_pp 2 t) L) = 0) (hI : tt_I L) : tt_WS cI cZ ad cx L p src (tt_wv p v sv t M) := by
  have htg : 0 < tt_mn 6 0 p (tt_pp 2 t) L := by
    have := tt_tg_mem hI ht
    rwa [hp] at this
  have e : tt_wv p v sv t M = M := if_neg (fun q => hz ((hMK _ htg).mpr q.2.2))
  rw [e]
  exact ⟨_, _, _, hW, hMR, hMK, hMI⟩
theorem tt_m3_in {L : Nat → List tt_T3} (hI : tt_I L) {v p : Int32} {j : Nat} (h1 : tt_st 3 v p 0 L ≤ j) (h2 : j < tt_en 3 v p 0 L) : tt_gt (L 0) j ∈ L 0 ∧ (tt_gt (L 0) j).1 = v ∧ (tt_gt (L 0) j).2.1 = p := by
  have hel : tt_en 3 v p 0 L ≤ (L 0).length := (tt_en_le 3 v p 0 hI).1
  have h3 : tt_mt 3 v p 0 (tt_gt (L 0) j) = true := (tt_mt_at (mk := 3) (by omega) v p 0 hI (j := j) (by show j < (L 0).length; omega)).mpr ⟨h1, h2⟩
  refine ⟨tt_gt_mem (by omega), ?_⟩
  simpa [tt_mt] using h3
theorem tt_m3_iff {L : Nat → List tt_T3} (hI : tt_I L) {v p : Int32} {j : Nat} (hj : j < (L 0).length) (h : (tt_gt (L 0) j).2.1 = p ∧ (tt_gt (L 0) j).1 = v) : tt_st 3 v p 0 L ≤ j ∧ j < tt_en 3 v p 0 L := by
  refine (tt_mt_at (mk := 3) (by omega) v p 0 hI (j := j) hj).mp ?_
  show tt_mt 3 v p 0 (tt_gt (L 0) j) = true
  simp [tt_mt, h.1, h.2]
theorem tt_m3_hi {L : Nat → List tt_T3} (hI : tt_I L) {v p : Int32} {j : Nat} (h1 : tt_en 3 v p 0 L ≤ j) (hj : j < (L 0).length) (h : (tt_gt (L 0) j).2.1 = p ∧ (tt_gt (L 0) j).1 = v) : False := by
  have := tt_m3_iff hI hj h
  omega
theorem tt_m3_lo {L : Nat → List tt_T3} (hI : tt_I L) {v p : Int32} {j : Nat} (h1 : j < tt_st 3 v p 0 L + 0) (hj : j < (L 0).length) (h : (tt_gt (L 0) j).2.1 = p ∧ (tt_gt (L 0) j).1 = v) : False := by
  have := tt_m3_iff hI hj h
  omega
theorem tt_MR_1 (wi wst : Nat → Int32) (x y : Int32) : tt_MR [(x, y)] (upd wi 0 x) (upd wst 0 y) := tt_MR_add (M := []) (fun i h => absurd h (by simp)) x y
theorem tt_fs_eq {M : tt_MM} {wi wst : Nat → Int32} (h : tt_MR M wi wst) (x : Int32) : (if tt_fi M x < M.length then wst (tt_fi M x) else (-1)) = tt_fs M x := by
  unfold tt_fs
  by_cases hc : tt_fi M x < M.length
  · rw [if_pos hc, if_pos hc, (h _ hc).2]
  · rw [if_neg hc, if_neg hc]
set_option maxHeartbeats 4000000 in
set_option maxRecDepth 100000 in
theorem c_X3_walkOn (l : Launch) (D : va_G) (cI cZ cO cC : ClassId) (ad : Nat → Nat) (cx : Nat → va_E) (L : Nat → List tt_T3) (ch : Nat) (C : Nat → tt_CU) (hR : tt_R cI cZ cO cC ad cx L ch C) (p1 v1 sv src : Int32) (M : tt_MM) (hI : tt_I L) (hWS : tt_WS cI cZ ad cx L p1 src M) : tt_Mutv (S := (Nat → va_E)) l yX3_walkOn wsX3_walkOn ({ frames := 5, cells := 0, slots := 0, locals := 126 } : Room) D (tt_tys cI cZ cO cC) true (tt_blk 21 ad cx) [.ref (ad 0), .int p1, .int v1, .int sv] (fun u => tt_R cI cZ cO cC ad u L ch C ∧ tt_WS cI cZ ad u L p1 src (tt_wo (L 0) p1 v1 sv M (L 0).length)) (fun u => tt_blk 21 ad u) := by
  refine tt_mutv (cc := cX3_walkOn) (maxL := 7) (by decide) rfl (Nat.le_of_ble_eq_true rfl) ?_
  intro p e s m below meth c Q ls A hfix hK hP hD hA hE hl kr
  obtain ⟨hx, hb, hml, hown, hts⟩ := id hfix
  have hown : s.vm.findClass RX3 = some m.cls := hown
  have hfix : CallFix p m c cX3_walkOn 7 s ([.ref (ad 0), .int p1, .int v1, .int sv] : List Value).toArray wsX3_walkOn RX3 := hfix
  have hl : lv_has ls 7 [(0, .ref (ad 0)), (1, .int p1), (2, .int v1), (3, .int sv)] := hl
  have hf11 := hts (.fieldLink RX3 11 "TripleTrees" "orders" "[LTripleTrees$Order;") (by decide +kernel)
  have hf28 := hts (.fieldLink RX3 28 "TripleTrees" "walk" "LTripleTrees$Walk;") (by decide +kernel)
  have hinX3 : ∀ w ∈ u_ws RX3 TX3 4, w ∈ wsX3_walkOn := by decide +kernel
  have hS : va_S A s.heap s.heap [] := va_S.rf
  have hse := tt_st_en 3 v1 p1 0 L
  have hel : tt_en 3 v1 p1 0 L ≤ (L 0).length := (tt_en_le 3 v1 p1 0 hI).1
  have hl0 := (hI 0 (by omega)).2.2
  have loop : ∀ (d i : Nat) (cx : Nat → va_E), (tt_st 3 v1 p1 0 L + d + i = tt_en 3 v1 p1 0 L) → (tt_R cI cZ cO cC ad cx L ch C) → (tt_WS cI cZ ad cx L p1 src (tt_wo (L 0) p1 v1 sv M (tt_st 3 v1 p1 0 L + i))) → ∀ (H : Heap) (locs : List Loc) (ls : Array Slot), va_P D vwCl (tt_blk 21 ad cx) H → va_D A (tt_blk 21 ad cx) → va_S A s.heap H locs → lv_has ls 7 [(5, .int (nI (tt_st 3 v1 p1 0 L + i))), (4, .int (nI (tt_en 3 v1 p1 0 L))), (0, .ref (ad 0)), (1, .int p1), (2, .int v1), (3, .int sv)] → W p l e ({ frames := 5, cells := 0, slots := 0, locals := 126 } : Room) s m ([.ref (ad 0), .int p1, .int v1, .int sv] : List Value).toArray below meth c H locs 0 0 Q (F0 m 20 ls []) := by
    intro d
    induction d with
    | zero =>
      intro i cx hd hR hWS H locs ls hP hD hS hl
      refine lv_iload hx hb dX3_walkOn_20 (lv_at hl 0 rfl) ?_
      refine lv_iload hx hb dX3_walkOn_22 (lv_at hl 1 rfl) ?_
      refine lv_icmp_ge (tgt := 74) hx hb dX3_walkOn_24 (by decide) (fun hb24 => ?_) (fun hb24 => ?_)
      · have hb24 : tt_en 3 v1 p1 0 L ≤ tt_st 3 v1 p1 0 L + i := (nI_leI (a := tt_en 3 v1 p1 0 L) (b := tt_st 3 v1 p1 0 L + i) (by omega) (by omega)).mp hb24
        have hi : tt_st 3 v1 p1 0 L + i = tt_en 3 v1 p1 0 L := by omega
        rw [hi] at hWS
        rw [← tt_wo_skip (l := L 0) (p := p1) (v := v1) (sv := sv) (M := M) (a := tt_en 3 v1 p1 0 L) (L 0).length hel (fun j q1 q2 q3 => tt_m3_hi hI q1 q2 q3)] at hWS
        exact kr _ _ _ _ cx ⟨hR, hWS⟩ hP hS dX3_walkOn_74
      · have hb24 : ¬ tt_en 3 v1 p1 0 L ≤ tt_st 3 v1 p1 0 L + i := fun hz9 => hb24 ((nI_leI (a := tt_en 3 v1 p1 0 L) (b := tt_st 3 v1 p1 0 L + i) (by omega) (by omega)).mpr hz9)
        exact absurd hb24 (by omega)
    | succ d ih =>
      intro i cx hd hR hWS H locs ls hP hD hS hl
      obtain ⟨wi, wst, wm, hW, hMR, hMK, hMI⟩ := hWS
      obtain ⟨hTm, hTv, hTp⟩ := tt_m3_in hI (j := tt_st 3 v1 p1 0 L + i) (v := v1) (p := p1) (by omega) (by omega)
      have htg : 0 < tt_mn 6 0 p1 (tt_pp 2 (tt_gt (L 0) (tt_st 3 v1 p1 0 L + i))) L := by have := tt_tg_mem hI hTm; rwa [hTp] at this
      have hpo : (tt_st 6 0 p1 (tt_pp 2 (tt_gt (L 0) (tt_st 3 v1 p1 0 L + i))) L) < (L 1).length := (tt_tg_at hI htg).1
      have hl1 := (hI 1 (by omega)).2.2
      obtain ⟨f, ho, hp, hf⟩ := hR.2.2.2.2.1 (0) (by omega)
      refine lv_iload hx hb dX3_walkOn_20 (lv_at hl 0 rfl) ?_
      refine lv_iload hx hb dX3_walkOn_22 (lv_at hl 1 rfl) ?_
      refine lv_icmp_ge (tgt := 74) hx hb dX3_walkOn_24 (by decide) (fun hb24 => ?_) (fun hb24 => ?_)
      · have hb24 : tt_en 3 v1 p1 0 L ≤ tt_st 3 v1 p1 0 L + i := (nI_leI (a := tt_en 3 v1 p1 0 L) (b := tt_st 3 v1 p1 0 L + i) (by omega) (by omega)).mp hb24
        exact absurd hb24 (by omega)
      · have hb24 : ¬ tt_en 3 v1 p1 0 L ≤ tt_st 3 v1 p1 0 L + i := fun hz9 => hb24 ((nI_leI (a := tt_en 3 v1 p1 0 L) (b := tt_st 3 v1 p1 0 L + i) (by omega) (by omega)).mpr hz9)
        refine lv_aload_n hx hb dX3_walkOn_27 rfl (lv_at hl 2 rfl) ?_
        refine va_get (D := D) (ci := 3) (v := .ref (ad 1)) (C := RX3) (T := TX3) (N := 4) hx hb hts hinX3 hown hK hP 0 (tt_bg (by omega) hR.1) rfl 0 (by decide) hf11 (fun _ h9 => h9) rfl dX3_walkOn_28 ?_
        refine lv_iconst (v := 0) hx hb dX3_walkOn_31 (by decide) ?_
        refine va_aldq hx hb hK hP 1 2 (tt_bg (by omega) hR.2.1) rfl (vp_in_nI (n := 0) (by omega) (by omega)) dX3_walkOn_32 ?_
        refine tt_rer (show va_rf (some (ad (7 + (nI 0).toNatClampNeg))) = .ref (ad (7 + 0)) from by rw [nI_clamp (by omega)]; rfl) ?_
        refine lv_iload hx hb dX3_walkOn_33 (lv_at hl 0 rfl) ?_
        refine lv_iconst (v := 2) hx hb dX3_walkOn_35 (by decide) ?_
        have hPc := tt_pick2 hP (tt_bg (n := 21) (k := 7 + 0) (by omega) ho) (tt_bg (n := 21) (k := 10 + 0) (by omega) hp)
        refine tt_calli (va_runV (As := [.int (nI (tt_st 3 v1 p1 0 L + i)), .int 2]) (rest := []) hfix (c_X1_partAt l D cI cZ cO cC (ad (7 + 0)) (ad (10 + 0)) 0 (L 0).length f (nI (tt_st 3 v1 p1 0 L + i)) 2 (by omega) hl0) (cwV 2 hts gX3_walkOn_X1_partAt rfl rfl rfl (by decide +kernel) ⟨Nat.le_of_ble_eq_true rfl, Nat.le_of_ble_eq_true rfl⟩) (tt_preV (q0 := 0) (ci := 1) hK hPc tt_E.no rfl rfl) rfl rfl hl.1 rfl (lv_room (Nat.le_of_ble_eq_true rfl)) dX3_walkOn_36 ⟨Nat.zero_le _, Nat.zero_le _⟩) hP hS (fun H locs hP hS => ?_)
        refine tt_rei (show (tt_pa (L 0).length 0 f (nI (tt_st 3 v1 p1 0 L + i)) 2) = tt_pp 2 (tt_gt (L 0) (tt_st 3 v1 p1 0 L + i)) from tt_pa_pp (t := 2) hf (by omega) hl0 (by omega) (by omega)) ?_
        refine lv_istore (lv' := [(6, .int (tt_pp 2 (tt_gt (L 0) (tt_st 3 v1 p1 0 L + i)))), (5, .int (nI (tt_st 3 v1 p1 0 L + i))), (4, .int (nI (tt_en 3 v1 p1 0 L))), (0, .ref (ad 0)), (1, .int p1), (2, .int v1), (3, .int sv)]) hx hb dX3_walkOn_39 hl (by decide) rfl (fun ls hl => ?_)
        refine lv_aload_n hx hb dX3_walkOn_41 rfl (lv_at hl 3 rfl) ?_
        refine va_get (D := D) (ci := 3) (v := .ref (ad 3)) (C := RX3) (T := TX3) (N := 4) hx hb hts hinX3 hown hK hP 0 (tt_bg (by omega) hR.1) rfl 2 (by decide) hf28 (fun _ h9 => h9) rfl dX3_walkOn_42 ?_
        refine lv_aload_n hx hb dX3_walkOn_45 rfl (lv_at hl 3 rfl) ?_
        refine lv_iload_n hx hb dX3_walkOn_46 rfl (lv_at hl 4 rfl) ?_
        refine lv_iload hx hb dX3_walkOn_47 (lv_at hl 0 rfl) ?_
        have hPc := hP
        refine tt_calli (va_runV (As := [.int p1, .int (tt_pp 2 (tt_gt (L 0) (tt_st 3 v1 p1 0 L + i)))]) (rest := [.ref (ad 3)]) hfix (c_X3_markOf l D cI cZ cO cC ad cx L ch C hR p1 (tt_pp 2 (tt_gt (L 0) (tt_st 3 v1 p1 0 L + i))) hI) (cwV 2 hts gX3_walkOn_X3_markOf rfl rfl rfl (by decide +kernel) ⟨Nat.le_of_ble_eq_true rfl, Nat.le_of_ble_eq_true rfl⟩) (tt_preV (q0 := 0) (ci := 3) hK hPc ((hE.at hS).narrow (fun _ h => h.elim)) (tt_bg (by omega) hR.1) rfl) rfl rfl hl.1 rfl (lv_room (Nat.le_of_ble_eq_true rfl)) dX3_walkOn_49 ⟨Nat.zero_le _, Nat.zero_le _⟩) hP hS (fun H locs hP hS => ?_)
        have hCc := tt_C4 (tt_bg (n := 21) (ad := ad) (k := 3) (by omega) hW.1) (tt_bg (n := 21) (ad := ad) (k := 4) (by omega) hW.2.1) (tt_bg (n := 21) (ad := ad) (k := 5) (by omega) hW.2.2.1) (tt_bg (n := 21) (ad := ad) (k := 6) (by omega) hW.2.2.2)
        have hPc := tt_pick hP hCc
        have hDc := hD.sub [3, 4, 5, 6] (rfl) hCc
        refine tt_mcalli (va_runV (As := [.int (nI (tt_st 6 0 p1 (tt_pp 2 (tt_gt (L 0) (tt_st 3 v1 p1 0 L + i))) L))]) (rest := []) hfix (c_X2_mark l D cI cZ cO cC (ad 3) (ad 4) (ad 5) (ad 6) (tt_wo (L 0) p1 v1 sv M (tt_st 3 v1 p1 0 L + i)).length wi wst wm (tt_st 6 0 p1 (tt_pp 2 (tt_gt (L 0) (tt_st 3 v1 p1 0 L + i))) L) (by omega) _) (cwV 1 hts gX3_walkOn_X2_mark rfl rfl rfl (by decide +kernel) ⟨Nat.le_of_ble_eq_true rfl, Nat.le_of_ble_eq_true rfl⟩) (tt_mpreV (q0 := 0) (ci := 2) hK hPc hDc tt_E.no rfl rfl) rfl rfl hl.1 rfl (lv_room (Nat.le_of_ble_eq_true rfl)) dX3_walkOn_52 ⟨Nat.zero_le _, Nat.zero_le _⟩) hP hD hS hA [3, 4, 5, 6] (rfl) hCc (fun _ => rfl) (fun r1 u H locs hu hP hD hS => ?_)
        obtain ⟨cx, hR, hW, hP, hD⟩ := tt_aftW hR hP hD
        subst hu
        refine lv_if_eq (tgt := 68) hx hb dX3_walkOn_55 (by decide) (fun hb55 => ?_) (fun hb55 => ?_)
        · have hnz := tt_if0 hb55
          rw [if_neg hnz] at hW
          have hWS := tt_WS_no hW hMR hMK hMI hTm hTp hTv hnz (sv := sv) hI
          refine lv_iinc (v := nI (tt_st 3 v1 p1 0 L + i + 1)) (lv' := [(5, .int (nI (tt_st 3 v1 p1 0 L + i + 1))), (6, .int (tt_pp 2 (tt_gt (L 0) (tt_st 3 v1 p1 0 L + i)))), (4, .int (nI (tt_en 3 v1 p1 0 L))), (0, .ref (ad 0)), (1, .int p1), (2, .int v1), (3, .int sv)]) hx hb dX3_walkOn_68 hl (k := 1) rfl (nI_add (tt_st 3 v1 p1 0 L + i) 1) (by decide) rfl (fun ls hl => ?_)
          refine lv_goto (tgt := 20) hx hb dX3_walkOn_71 (by decide) ?_
          exact ih (i + 1) cx (by omega) hR hWS H locs ls hP hD hS (lv_sub hl [0, 2, 3, 4, 5, 6] rfl)
        · have hz := tt_if1 hb55
          rw [if_pos hz] at hW
          have hnm := (hMK _ htg).mp hz
          have hml := tt_MI_len (tt_MI_add hMI hTm hTp hnm sv)
          rw [List.length_append] at hml
          have hml : (tt_wo (L 0) p1 v1 sv M (tt_st 3 v1 p1 0 L + i)).length + 1 ≤ (L 0).length + 1 := hml
          refine lv_aload_n hx hb dX3_walkOn_58 rfl (lv_at hl 3 rfl) ?_
          refine va_get (D := D) (ci := 3) (v := .ref (ad 3)) (C := RX3) (T := TX3) (N := 4) hx hb hts hinX3 hown hK hP 0 (tt_bg (by omega) hR.1) rfl 2 (by decide) hf28 (fun _ h9 => h9) rfl dX3_walkOn_59 ?_
          refine lv_iload hx hb dX3_walkOn_62 (lv_at hl 0 rfl) ?_
          refine lv_iload_n hx hb dX3_walkOn_64 rfl (lv_at hl 6 rfl) ?_
          have hCc := tt_C4 (tt_bg (n := 21) (ad := ad) (k := 3) (by omega) hW.1) (tt_bg (n := 21) (ad := ad) (k := 4) (by omega) hW.2.1) (tt_bg (n := 21) (ad := ad) (k := 5) (by omega) hW.2.2.1) (tt_bg (n := 21) (ad := ad) (k := 6) (by omega) hW.2.2.2)
          have hPc := tt_pick hP hCc
          have hDc := hD.sub [3, 4, 5, 6] (rfl) hCc
          refine tt_mcallv (va_runV (As := [.int (tt_pp 2 (tt_gt (L 0) (tt_st 3 v1 p1 0 L + i))), .int sv]) (rest := []) hfix (c_X2_comeTo l D cI cZ cO cC (ad 3) (ad 4) (ad 5) (ad 6) (tt_wo (L 0) p1 v1 sv M (tt_st 3 v1 p1 0 L + i)).length wi wst (upd wm (tt_st 6 0 p1 (tt_pp 2 (tt_gt (L 0) (tt_st 3 v1 p1 0 L + i))) L) 1) (tt_pp 2 (tt_gt (L 0) (tt_st 3 v1 p1 0 L + i))) sv (by omega) _) (cwV 2 hts gX3_walkOn_X2_comeTo rfl rfl rfl (by decide +kernel) ⟨Nat.le_of_ble_eq_true rfl, Nat.le_of_ble_eq_true rfl⟩) (tt_mpreV (q0 := 0) (ci := 2) hK hPc hDc tt_E.no rfl rfl) rfl rfl hl.1 rfl (lv_room (Nat.le_of_ble_eq_true rfl)) dX3_walkOn_65 ⟨Nat.zero_le _, Nat.zero_le _⟩) hP hD hS hA [3, 4, 5, 6] (rfl) hCc (fun _ => rfl) (fun u H locs hu hP hD hS => ?_)
          obtain ⟨cx, hR, hW, hP, hD⟩ := tt_aftW hR hP hD
          have hWS := tt_WS_add hI hW hMR hMK hMI hTm hTp hTv htg hz (sv := sv)
          refine lv_iinc (v := nI (tt_st 3 v1 p1 0 L + i + 1)) (lv' := [(5, .int (nI (tt_st 3 v1 p1 0 L + i + 1))), (6, .int (tt_pp 2 (tt_gt (L 0) (tt_st 3 v1 p1 0 L + i)))), (4, .int (nI (tt_en 3 v1 p1 0 L))), (0, .ref (ad 0)), (1, .int p1), (2, .int v1), (3, .int sv)]) hx hb dX3_walkOn_68 hl (k := 1) rfl (nI_add (tt_st 3 v1 p1 0 L + i) 1) (by decide) rfl (fun ls hl => ?_)
          refine lv_goto (tgt := 20) hx hb dX3_walkOn_71 (by decide) ?_
          exact ih (i + 1) cx (by omega) hR hWS H locs ls hP hD hS (lv_sub hl [0, 2, 3, 4, 5, 6] rfl)
  refine lv_aload_n hx hb dX3_walkOn_0 rfl (lv_at hl 0 rfl) ?_
  refine lv_iconst (v := 3) hx hb dX3_walkOn_1 (by decide) ?_
  refine lv_iload_n hx hb dX3_walkOn_2 rfl (lv_at hl 2 rfl) ?_
  refine lv_iload_n hx hb dX3_walkOn_3 rfl (lv_at hl 1 rfl) ?_
  refine lv_iconst (v := 0) hx hb dX3_walkOn_4 (by decide) ?_
  have hPc := hP
  refine tt_calli (va_runV (As := [.int 3, .int v1, .int p1, .int 0]) (rest := []) hfix (c_X3_endOf l D cI cZ cO cC ad cx L ch C hR 3 v1 p1 0 (by omega) hI) (cwV 4 hts gX3_walkOn_X3_endOf rfl rfl rfl (by decide +kernel) ⟨Nat.le_of_ble_eq_true rfl, Nat.le_of_ble_eq_true rfl⟩) (tt_preV (q0 := 0) (ci := 3) hK hPc ((hE.at hS).narrow (fun _ h => h.elim)) (tt_bg (by omega) hR.1) rfl) rfl rfl hl.1 rfl (lv_room (Nat.le_of_ble_eq_true rfl)) dX3_walkOn_5 ⟨Nat.zero_le _, Nat.zero_le _⟩) hP hS (fun H locs hP hS => ?_)
  refine lv_istore (lv' := [(4, .int (nI (tt_en 3 v1 p1 0 L))), (0, .ref (ad 0)), (1, .int p1), (2, .int v1), (3, .int sv)]) hx hb dX3_walkOn_8 hl (by decide) rfl (fun ls hl => ?_)
  refine lv_aload_n hx hb dX3_walkOn_10 rfl (lv_at hl 1 rfl) ?_
  refine lv_iconst (v := 3) hx hb dX3_walkOn_11 (by decide) ?_
  refine lv_iload_n hx hb dX3_walkOn_12 rfl (lv_at hl 3 rfl) ?_
  refine lv_iload_n hx hb dX3_walkOn_13 rfl (lv_at hl 2 rfl) ?_
  refine lv_iconst (v := 0) hx hb dX3_walkOn_14 (by decide) ?_
  have hPc := hP
  refine tt_calli (va_runV (As := [.int 3, .int v1, .int p1, .int 0]) (rest := []) hfix (c_X3_startOf l D cI cZ cO cC ad cx L ch C hR 3 v1 p1 0 (by omega) hI) (cwV 4 hts gX3_walkOn_X3_startOf rfl rfl rfl (by decide +kernel) ⟨Nat.le_of_ble_eq_true rfl, Nat.le_of_ble_eq_true rfl⟩) (tt_preV (q0 := 0) (ci := 3) hK hPc ((hE.at hS).narrow (fun _ h => h.elim)) (tt_bg (by omega) hR.1) rfl) rfl rfl hl.1 rfl (lv_room (Nat.le_of_ble_eq_true rfl)) dX3_walkOn_15 ⟨Nat.zero_le _, Nat.zero_le _⟩) hP hS (fun H locs hP hS => ?_)
  refine lv_istore (lv' := [(5, .int (nI (tt_st 3 v1 p1 0 L))), (4, .int (nI (tt_en 3 v1 p1 0 L))), (0, .ref (ad 0)), (1, .int p1), (2, .int v1), (3, .int sv)]) hx hb dX3_walkOn_18 hl (by decide) rfl (fun ls hl => ?_)
  have hWS : tt_WS cI cZ ad cx L p1 src (tt_wo (L 0) p1 v1 sv M (tt_st 3 v1 p1 0 L + 0)) := by rw [tt_wo_skip (a := 0) (tt_st 3 v1 p1 0 L + 0) (Nat.zero_le _) (fun j q1 q2 q3 => tt_m3_lo hI q2 (by omega) q3)]; exact hWS
  exact loop (tt_en 3 v1 p1 0 L - tt_st 3 v1 p1 0 L) 0 cx (by omega) hR hWS _ _ ls hP hD hS (lv_sub hl [0, 1, 2, 3, 4, 5] rfl)
set_option maxHeartbeats 4000000 in
set_option maxRecDepth 100000 in
theorem c_X3_walkAll (l : Launch) (D : va_G) (cI cZ cO cC : ClassId) (ad : Nat → Nat) (cx : Nat → va_E) (L : Nat → List tt_T3) (ch : Nat) (C : Nat → tt_CU) (hR : tt_R cI cZ cO cC ad cx L ch C) (p1 src : Int32) (hI : tt_I L) : tt_Mutv (S := (Nat → va_E)) l yX3_walkAll wsX3_walkAll ({ frames := 6, cells := 0, slots := 0, locals := 152 } : Room) D (tt_tys cI cZ cO cC) true (tt_blk 21 ad cx) [.ref (ad 0), .int p1, .int src] (fun u => tt_R cI cZ cO cC ad u L ch C ∧ tt_WS cI cZ ad u L p1 src (tt_bfs (L 0) p1 src)) (fun u => tt_blk 21 ad u) := by
  refine tt_mutv (cc := cX3_walkAll) (maxL := 4) (by decide) rfl (Nat.le_of_ble_eq_true rfl) ?_
  intro p e s m below meth c Q ls A hfix hK hP hD hA hE hl kr
  obtain ⟨hx, hb, hml, hown, hts⟩ := id hfix
  have hown : s.vm.findClass RX3 = some m.cls := hown
  have hfix : CallFix p m c cX3_walkAll 4 s ([.ref (ad 0), .int p1, .int src] : List Value).toArray wsX3_walkAll RX3 := hfix
  have hl : lv_has ls 4 [(0, .ref (ad 0)), (1, .int p1), (2, .int src)] := hl
  have hf28 := hts (.fieldLink RX3 28 "TripleTrees" "walk" "LTripleTrees$Walk;") (by decide +kernel)
  have hN119 : (Cond.fieldLinkNest RX3 119 "TripleTrees$Walk" "count" "I" "TripleTrees").before ([.ref (ad 0), .int p1, .int src] : List Value).toArray s = true := va_Nw.use rfl ((hE rfl).2.1 _ (by decide +kernel))
  have hN146 : (Cond.fieldLinkNest RX3 146 "TripleTrees$Walk" "ints" "[I" "TripleTrees").before ([.ref (ad 0), .int p1, .int src] : List Value).toArray s = true := va_Nw.use rfl ((hE rfl).2.1 _ (by decide +kernel))
  have hN149 : (Cond.fieldLinkNest RX3 149 "TripleTrees$Walk" "steps" "[I" "TripleTrees").before ([.ref (ad 0), .int p1, .int src] : List Value).toArray s = true := va_Nw.use rfl ((hE rfl).2.1 _ (by decide +kernel))
  have hinX2 : ∀ w ∈ u_ws RX2 TX2 4, w ∈ wsX3_walkAll := by decide +kernel
  have hinX3 : ∀ w ∈ u_ws RX3 TX3 4, w ∈ wsX3_walkAll := by decide +kernel
  have hS : va_S A s.heap s.heap [] := va_S.rf
  have hl0 := (hI 0 (by omega)).2.2
  have hmn := tt_mn_le 6 0 p1 src hI
  have hst2 := tt_st_en 2 0 p1 0 L
  have hen2 : tt_en 2 0 p1 0 L ≤ (L 1).length := (tt_en_le 2 0 p1 0 hI).1
  have hl1 := (hI 1 (by omega)).2.2
  have loop : ∀ (d k : Nat) (cx : Nat → va_E) (M : tt_MM), (d + k = 702) → (tt_bf (L 0) p1 d k M = (tt_bfs (L 0) p1 src)) → (tt_R cI cZ cO cC ad cx L ch C) → (tt_WS cI cZ ad cx L p1 src M) → ∀ (H : Heap) (locs : List Loc) (ls : Array Slot), va_P D vwCl (tt_blk 21 ad cx) H → va_D A (tt_blk 21 ad cx) → va_S A s.heap H locs → lv_has ls 4 [(3, .int (nI k)), (0, .ref (ad 0)), (1, .int p1), (2, .int src)] → W p l e ({ frames := 6, cells := 0, slots := 0, locals := 152 } : Room) s m ([.ref (ad 0), .int p1, .int src] : List Value).toArray below meth c H locs 0 0 Q (F0 m 60 ls []) := by
    intro d
    induction d with
    | zero =>
      intro k cx M hd hbf hR hWS H locs ls hP hD hS hl
      obtain ⟨wi, wst, wm, hW, hMR, hMK, hMI⟩ := hWS
      have hml := tt_MI_len hMI
      refine lv_iload_n hx hb dX3_walkAll_60 rfl (lv_at hl 0 rfl) ?_
      refine lv_aload_n hx hb dX3_walkAll_61 rfl (lv_at hl 1 rfl) ?_
      refine va_get (D := D) (ci := 3) (v := .ref (ad 3)) (C := RX3) (T := TX3) (N := 4) hx hb hts hinX3 hown hK hP 0 (tt_bg (by omega) hR.1) rfl 2 (by decide) hf28 (fun _ h9 => h9) rfl dX3_walkAll_62 ?_
      refine va_getN (host := "TripleTrees") (D := D) (ci := 2) (v := .int (nI M.length)) (C := RX2) (T := TX2) (N := 4) hx hb hts hinX2 hown hK hP 3 (tt_bg (by omega) hW.1) rfl 3 (by decide) hN119 (fun _ h9 => h9) rfl dX3_walkAll_65 ?_
      refine lv_icmp_ge (tgt := 109) hx hb dX3_walkAll_68 (by decide) (fun hb68 => ?_) (fun hb68 => ?_)
      · have hb68 : M.length ≤ k := (nI_leI (a := M.length) (b := k) (by omega) (by omega)).mp hb68
        have hM : M = (tt_bfs (L 0) p1 src) := by rw [← hbf]; exact (tt_bf_end (by omega)).symm
        rw [← hM] at kr
        exact kr _ _ _ _ cx ⟨hR, wi, wst, wm, hW, hMR, hMK, hMI⟩ hP hS dX3_walkAll_109
      · have hb68 : ¬ M.length ≤ k := fun hz9 => hb68 ((nI_leI (a := M.length) (b := k) (by omega) (by omega)).mpr hz9)
        exact absurd hb68 (by omega)
    | succ d ih =>
      intro k cx M hd hbf hR hWS H locs ls hP hD hS hl
      obtain ⟨wi, wst, wm, hW, hMR, hMK, hMI⟩ := hWS
      have hml := tt_MI_len hMI
      refine lv_iload_n hx hb dX3_walkAll_60 rfl (lv_at hl 0 rfl) ?_
      refine lv_aload_n hx hb dX3_walkAll_61 rfl (lv_at hl 1 rfl) ?_
      refine va_get (D := D) (ci := 3) (v := .ref (ad 3)) (C := RX3) (T := TX3) (N := 4) hx hb hts hinX3 hown hK hP 0 (tt_bg (by omega) hR.1) rfl 2 (by decide) hf28 (fun _ h9 => h9) rfl dX3_walkAll_62 ?_
      refine va_getN (host := "TripleTrees") (D := D) (ci := 2) (v := .int (nI M.length)) (C := RX2) (T := TX2) (N := 4) hx hb hts hinX2 hown hK hP 3 (tt_bg (by omega) hW.1) rfl 3 (by decide) hN119 (fun _ h9 => h9) rfl dX3_walkAll_65 ?_
      refine lv_icmp_ge (tgt := 109) hx hb dX3_walkAll_68 (by decide) (fun hb68 => ?_) (fun hb68 => ?_)
      · have hb68 : M.length ≤ k := (nI_leI (a := M.length) (b := k) (by omega) (by omega)).mp hb68
        have hM : M = (tt_bfs (L 0) p1 src) := by rw [← hbf]; exact (tt_bf_end (by omega)).symm
        rw [← hM] at kr
        exact kr _ _ _ _ cx ⟨hR, wi, wst, wm, hW, hMR, hMK, hMI⟩ hP hS dX3_walkAll_109
      · have hb68 : ¬ M.length ≤ k := fun hz9 => hb68 ((nI_leI (a := M.length) (b := k) (by omega) (by omega)).mpr hz9)
        refine lv_iload_n hx hb dX3_walkAll_71 rfl (lv_at hl 0 rfl) ?_
        refine lv_sipush (v := 700) hx hb dX3_walkAll_72 (by decide) ?_
        refine lv_icmp_gt (tgt := 109) hx hb dX3_walkAll_75 (by decide) (fun hb75 => ?_) (fun hb75 => ?_)
        · have hb75 : 700 < k := (nI_ltI (a := 700) (b := k) (by omega) (by omega)).mp hb75
          exact absurd hb75 (by omega)
        · have hb75 : ¬ 700 < k := fun hz9 => hb75 ((nI_ltI (a := 700) (b := k) (by omega) (by omega)).mpr hz9)
          refine lv_aload_n hx hb dX3_walkAll_78 rfl (lv_at hl 1 rfl) ?_
          refine lv_iload_n hx hb dX3_walkAll_79 rfl (lv_at hl 2 rfl) ?_
          refine lv_aload_n hx hb dX3_walkAll_80 rfl (lv_at hl 1 rfl) ?_
          refine va_get (D := D) (ci := 3) (v := .ref (ad 3)) (C := RX3) (T := TX3) (N := 4) hx hb hts hinX3 hown hK hP 0 (tt_bg (by omega) hR.1) rfl 2 (by decide) hf28 (fun _ h9 => h9) rfl dX3_walkAll_81 ?_
          refine va_getN (host := "TripleTrees") (D := D) (ci := 2) (v := .ref (ad 4)) (C := RX2) (T := TX2) (N := 4) hx hb hts hinX2 hown hK hP 3 (tt_bg (by omega) hW.1) rfl 0 (by decide) hN146 (fun _ h9 => h9) rfl dX3_walkAll_84 ?_
          refine lv_iload_n hx hb dX3_walkAll_87 rfl (lv_at hl 0 rfl) ?_
          refine va_iald hx hb hK hP 4 0 (tt_bg (by omega) hW.2.1) rfl (vp_in_nI (n := k) (by omega) (by omega)) dX3_walkAll_88 ?_
          refine tt_rei (show (wi (nI k).toNatClampNeg) = wi k from congrArg wi (nI_clamp (n := k) (by omega))) ?_
          refine tt_rei (show (wi k) = (tt_mg M k).1 from (hMR k (by omega)).1) ?_
          refine lv_aload_n hx hb dX3_walkAll_89 rfl (lv_at hl 1 rfl) ?_
          refine va_get (D := D) (ci := 3) (v := .ref (ad 3)) (C := RX3) (T := TX3) (N := 4) hx hb hts hinX3 hown hK hP 0 (tt_bg (by omega) hR.1) rfl 2 (by decide) hf28 (fun _ h9 => h9) rfl dX3_walkAll_90 ?_
          refine va_getN (host := "TripleTrees") (D := D) (ci := 2) (v := .ref (ad 5)) (C := RX2) (T := TX2) (N := 4) hx hb hts hinX2 hown hK hP 3 (tt_bg (by omega) hW.1) rfl 1 (by decide) hN149 (fun _ h9 => h9) rfl dX3_walkAll_93 ?_
          refine lv_iload_n hx hb dX3_walkAll_96 rfl (lv_at hl 0 rfl) ?_
          refine va_iald hx hb hK hP 5 0 (tt_bg (by omega) hW.2.2.1) rfl (vp_in_nI (n := k) (by omega) (by omega)) dX3_walkAll_97 ?_
          refine tt_rei (show (wst (nI k).toNatClampNeg) = wst k from congrArg wst (nI_clamp (n := k) (by omega))) ?_
          refine tt_rei (show (wst k) = (tt_mg M k).2 from (hMR k (by omega)).2) ?_
          refine lv_iconst (v := 1) hx hb dX3_walkAll_98 (by decide) ?_
          refine lv_iadd hx hb dX3_walkAll_99 ?_
          refine tt_fullv (va_runV (As := [.int p1, .int ((tt_mg M k).1), .int (((tt_mg M k).2) + 1)]) (rest := []) hfix (c_X3_walkOn l D cI cZ cO cC ad cx L ch C hR p1 (tt_mg M k).1 ((tt_mg M k).2 + 1) src M hI ⟨wi, wst, wm, hW, hMR, hMK, hMI⟩ _) (cwV 3 hts gX3_walkAll_X3_walkOn rfl rfl rfl (by decide +kernel) ⟨Nat.le_of_ble_eq_true rfl, Nat.le_of_ble_eq_true rfl⟩) (tt_mpreV (q0 := 0) (ci := 3) hK hP hD ((hE.at hS).narrow (tt_freeF hD hS hA)) (tt_bg (by omega) hR.1) rfl) rfl rfl hl.1 rfl (lv_room (Nat.le_of_ble_eq_true rfl)) dX3_walkAll_100 ⟨Nat.zero_le _, Nat.zero_le _⟩) hD hS hA (fun cx H locs hu hP hD hS => ?_)
          obtain ⟨hR, hWS⟩ := hu
          refine lv_iinc (v := nI (k + 1)) (lv' := [(3, .int (nI (k + 1))), (0, .ref (ad 0)), (1, .int p1), (2, .int src)]) hx hb dX3_walkAll_103 hl (k := 0) rfl (nI_add k 1) (by decide) rfl (fun ls hl => ?_)
          refine lv_goto (tgt := 60) hx hb dX3_walkAll_106 (by decide) ?_
          exact ih (k + 1) cx _ (by omega) (by rw [← hbf]; exact (tt_bf_go (by omega)).symm) hR hWS H locs ls hP hD hS (lv_sub hl [0, 1, 2, 3] rfl)
  obtain ⟨wc, wi, wst, wm, hW⟩ := hR.2.2.2.1
  have hW : tt_W cI cZ ad cx wc wi wst wm := hW
  refine lv_aload_n hx hb dX3_walkAll_0 rfl (lv_at hl 0 rfl) ?_
  refine va_get (D := D) (ci := 3) (v := .ref (ad 3)) (C := RX3) (T := TX3) (N := 4) hx hb hts hinX3 hown hK hP 0 (tt_bg (by omega) hR.1) rfl 2 (by decide) hf28 (fun _ h9 => h9) rfl dX3_walkAll_1 ?_
  refine lv_aload_n hx hb dX3_walkAll_4 rfl (lv_at hl 0 rfl) ?_
  refine lv_iconst (v := 2) hx hb dX3_walkAll_5 (by decide) ?_
  refine lv_iconst (v := 0) hx hb dX3_walkAll_6 (by decide) ?_
  refine lv_iload_n hx hb dX3_walkAll_7 rfl (lv_at hl 1 rfl) ?_
  refine lv_iconst (v := 0) hx hb dX3_walkAll_8 (by decide) ?_
  have hPc := hP
  refine tt_calli (va_runV (As := [.int 2, .int 0, .int p1, .int 0]) (rest := [.ref (ad 3)]) hfix (c_X3_startOf l D cI cZ cO cC ad cx L ch C hR 2 0 p1 0 (by omega) hI) (cwV 4 hts gX3_walkAll_X3_startOf rfl rfl rfl (by decide +kernel) ⟨Nat.le_of_ble_eq_true rfl, Nat.le_of_ble_eq_true rfl⟩) (tt_preV (q0 := 0) (ci := 3) hK hPc ((hE.at hS).narrow (fun _ h => h.elim)) (tt_bg (by omega) hR.1) rfl) rfl rfl hl.1 rfl (lv_room (Nat.le_of_ble_eq_true rfl)) dX3_walkAll_9 ⟨Nat.zero_le _, Nat.zero_le _⟩) hP hS (fun H locs hP hS => ?_)
  refine lv_aload_n hx hb dX3_walkAll_12 rfl (lv_at hl 0 rfl) ?_
  refine lv_iconst (v := 2) hx hb dX3_walkAll_13 (by decide) ?_
  refine lv_iconst (v := 0) hx hb dX3_walkAll_14 (by decide) ?_
  refine lv_iload_n hx hb dX3_walkAll_15 rfl (lv_at hl 1 rfl) ?_
  refine lv_iconst (v := 0) hx hb dX3_walkAll_16 (by decide) ?_
  have hPc := hP
  refine tt_calli (va_runV (As := [.int 2, .int 0, .int p1, .int 0]) (rest := [.int (nI (tt_st 2 0 p1 0 L)), .ref (ad 3)]) hfix (c_X3_endOf l D cI cZ cO cC ad cx L ch C hR 2 0 p1 0 (by omega) hI) (cwV 4 hts gX3_walkAll_X3_endOf rfl rfl rfl (by decide +kernel) ⟨Nat.le_of_ble_eq_true rfl, Nat.le_of_ble_eq_true rfl⟩) (tt_preV (q0 := 0) (ci := 3) hK hPc ((hE.at hS).narrow (fun _ h => h.elim)) (tt_bg (by omega) hR.1) rfl) rfl rfl hl.1 rfl (lv_room (Nat.le_of_ble_eq_true rfl)) dX3_walkAll_17 ⟨Nat.zero_le _, Nat.zero_le _⟩) hP hS (fun H locs hP hS => ?_)
  have hCc := tt_C4 (tt_bg (n := 21) (ad := ad) (k := 3) (by omega) hW.1) (tt_bg (n := 21) (ad := ad) (k := 4) (by omega) hW.2.1) (tt_bg (n := 21) (ad := ad) (k := 5) (by omega) hW.2.2.1) (tt_bg (n := 21) (ad := ad) (k := 6) (by omega) hW.2.2.2)
  have hPc := tt_pick hP hCc
  have hDc := hD.sub [3, 4, 5, 6] (rfl) hCc
  refine tt_mcallv (va_runV (As := [.int (nI (tt_st 2 0 p1 0 L)), .int (nI (tt_en 2 0 p1 0 L))]) (rest := []) hfix (c_X2_clear l D cI cZ cO cC (ad 3) (ad 4) (ad 5) (ad 6) wc wi wst wm (tt_st 2 0 p1 0 L) (tt_en 2 0 p1 0 L) (by omega) (by omega) _) (cwV 2 hts gX3_walkAll_X2_clear rfl rfl rfl (by decide +kernel) ⟨Nat.le_of_ble_eq_true rfl, Nat.le_of_ble_eq_true rfl⟩) (tt_mpreV (q0 := 0) (ci := 2) hK hPc hDc tt_E.no rfl rfl) rfl rfl hl.1 rfl (lv_room (Nat.le_of_ble_eq_true rfl)) dX3_walkAll_20 ⟨Nat.zero_le _, Nat.zero_le _⟩) hP hD hS hA [3, 4, 5, 6] (rfl) hCc (fun _ => rfl) (fun g H locs hg hP hD hS => ?_)
  obtain ⟨cx, hR, hW, hP, hD⟩ := tt_aftW hR hP hD
  obtain ⟨hk1, hk2⟩ := tt_MK_0 (src := src) hI hg
  refine lv_aload_n hx hb dX3_walkAll_23 rfl (lv_at hl 0 rfl) ?_
  refine lv_bipush (v := 6) hx hb dX3_walkAll_24 (by decide) ?_
  refine lv_iconst (v := 0) hx hb dX3_walkAll_26 (by decide) ?_
  refine lv_iload_n hx hb dX3_walkAll_27 rfl (lv_at hl 1 rfl) ?_
  refine lv_iload_n hx hb dX3_walkAll_28 rfl (lv_at hl 2 rfl) ?_
  have hPc := hP
  refine tt_calli (va_runV (As := [.int 6, .int 0, .int p1, .int src]) (rest := []) hfix (c_X3_matching l D cI cZ cO cC ad cx L ch C hR 6 0 p1 src (by omega) hI) (cwV 4 hts gX3_walkAll_X3_matching rfl rfl rfl (by decide +kernel) ⟨Nat.le_of_ble_eq_true rfl, Nat.le_of_ble_eq_true rfl⟩) (tt_preV (q0 := 0) (ci := 3) hK hPc ((hE.at hS).narrow (fun _ h => h.elim)) (tt_bg (by omega) hR.1) rfl) rfl rfl hl.1 rfl (lv_room (Nat.le_of_ble_eq_true rfl)) dX3_walkAll_29 ⟨Nat.zero_le _, Nat.zero_le _⟩) hP hS (fun H locs hP hS => ?_)
  refine lv_if_le (tgt := 49) hx hb dX3_walkAll_32 (by decide) (fun hb32 => ?_) (fun hb32 => ?_)
  · have hb32 : tt_mn 6 0 p1 src L ≤ 0 := (nI_leI (a := tt_mn 6 0 p1 src L) (b := 0) (by omega) (by omega)).mp hb32
    refine lv_aload_n hx hb dX3_walkAll_49 rfl (lv_at hl 0 rfl) ?_
    refine va_get (D := D) (ci := 3) (v := .ref (ad 3)) (C := RX3) (T := TX3) (N := 4) hx hb hts hinX3 hown hK hP 0 (tt_bg (by omega) hR.1) rfl 2 (by decide) hf28 (fun _ h9 => h9) rfl dX3_walkAll_50 ?_
    refine lv_iload_n hx hb dX3_walkAll_53 rfl (lv_at hl 2 rfl) ?_
    refine lv_iconst (v := 0) hx hb dX3_walkAll_54 (by decide) ?_
    have hMK := hk2 (by omega)
    have hCc := tt_C4 (tt_bg (n := 21) (ad := ad) (k := 3) (by omega) hW.1) (tt_bg (n := 21) (ad := ad) (k := 4) (by omega) hW.2.1) (tt_bg (n := 21) (ad := ad) (k := 5) (by omega) hW.2.2.1) (tt_bg (n := 21) (ad := ad) (k := 6) (by omega) hW.2.2.2)
    have hPc := tt_pick hP hCc
    have hDc := hD.sub [3, 4, 5, 6] (rfl) hCc
    refine tt_mcallv (va_runV (As := [.int src, .int 0]) (rest := []) hfix (c_X2_comeTo l D cI cZ cO cC (ad 3) (ad 4) (ad 5) (ad 6) 0 wi wst g src 0 (by omega) _) (cwV 2 hts gX3_walkAll_X2_comeTo rfl rfl rfl (by decide +kernel) ⟨Nat.le_of_ble_eq_true rfl, Nat.le_of_ble_eq_true rfl⟩) (tt_mpreV (q0 := 0) (ci := 2) hK hPc hDc tt_E.no rfl rfl) rfl rfl hl.1 rfl (lv_room (Nat.le_of_ble_eq_true rfl)) dX3_walkAll_55 ⟨Nat.zero_le _, Nat.zero_le _⟩) hP hD hS hA [3, 4, 5, 6] (rfl) hCc (fun _ => rfl) (fun u H locs hu hP hD hS => ?_)
    obtain ⟨cx, hR, hW, hP, hD⟩ := tt_aftW hR hP hD
    have hWS : tt_WS cI cZ ad cx L p1 src [(src, 0)] := ⟨_, _, _, hW, tt_MR_1 wi wst src 0, hMK, tt_MI_0 _ _ _⟩
    refine lv_iconst (v := 0) hx hb dX3_walkAll_58 (by decide) ?_
    refine lv_istore_n (lv' := [(3, .int 0), (0, .ref (ad 0)), (1, .int p1), (2, .int src)]) hx hb dX3_walkAll_59 rfl hl (by decide) rfl (fun ls hl => ?_)
    exact loop 702 0 cx [(src, 0)] (by omega) rfl hR hWS _ _ ls hP hD hS (lv_sub hl [0, 1, 2, 3] rfl)
  · have hb32 : ¬ tt_mn 6 0 p1 src L ≤ 0 := fun hz9 => hb32 ((nI_leI (a := tt_mn 6 0 p1 src L) (b := 0) (by omega) (by omega)).mpr hz9)
    refine lv_aload_n hx hb dX3_walkAll_35 rfl (lv_at hl 0 rfl) ?_
    refine va_get (D := D) (ci := 3) (v := .ref (ad 3)) (C := RX3) (T := TX3) (N := 4) hx hb hts hinX3 hown hK hP 0 (tt_bg (by omega) hR.1) rfl 2 (by decide) hf28 (fun _ h9 => h9) rfl dX3_walkAll_36 ?_
    refine lv_aload_n hx hb dX3_walkAll_39 rfl (lv_at hl 0 rfl) ?_
    refine lv_iload_n hx hb dX3_walkAll_40 rfl (lv_at hl 1 rfl) ?_
    refine lv_iload_n hx hb dX3_walkAll_41 rfl (lv_at hl 2 rfl) ?_
    have hPc := hP
    refine tt_calli (va_runV (As := [.int p1, .int src]) (rest := [.ref (ad 3)]) hfix (c_X3_markOf l D cI cZ cO cC ad cx L ch C hR p1 src hI) (cwV 2 hts gX3_walkAll_X3_markOf rfl rfl rfl (by decide +kernel) ⟨Nat.le_of_ble_eq_true rfl, Nat.le_of_ble_eq_true rfl⟩) (tt_preV (q0 := 0) (ci := 3) hK hPc ((hE.at hS).narrow (fun _ h => h.elim)) (tt_bg (by omega) hR.1) rfl) rfl rfl hl.1 rfl (lv_room (Nat.le_of_ble_eq_true rfl)) dX3_walkAll_42 ⟨Nat.zero_le _, Nat.zero_le _⟩) hP hS (fun H locs hP hS => ?_)
    obtain ⟨hz, hMK⟩ := hk1 (by omega)
    have hpo : (tt_st 6 0 p1 src L) < (L 1).length := (tt_tg_at hI (by omega)).1
    have hCc := tt_C4 (tt_bg (n := 21) (ad := ad) (k := 3) (by omega) hW.1) (tt_bg (n := 21) (ad := ad) (k := 4) (by omega) hW.2.1) (tt_bg (n := 21) (ad := ad) (k := 5) (by omega) hW.2.2.1) (tt_bg (n := 21) (ad := ad) (k := 6) (by omega) hW.2.2.2)
    have hPc := tt_pick hP hCc
    have hDc := hD.sub [3, 4, 5, 6] (rfl) hCc
    refine tt_mcalli (va_runV (As := [.int (nI (tt_st 6 0 p1 src L))]) (rest := []) hfix (c_X2_mark l D cI cZ cO cC (ad 3) (ad 4) (ad 5) (ad 6) 0 wi wst g (tt_st 6 0 p1 src L) (by omega) _) (cwV 1 hts gX3_walkAll_X2_mark rfl rfl rfl (by decide +kernel) ⟨Nat.le_of_ble_eq_true rfl, Nat.le_of_ble_eq_true rfl⟩) (tt_mpreV (q0 := 0) (ci := 2) hK hPc hDc tt_E.no rfl rfl) rfl rfl hl.1 rfl (lv_room (Nat.le_of_ble_eq_true rfl)) dX3_walkAll_45 ⟨Nat.zero_le _, Nat.zero_le _⟩) hP hD hS hA [3, 4, 5, 6] (rfl) hCc (fun _ => rfl) (fun r1 u H locs hu hP hD hS => ?_)
    obtain ⟨cx, hR, hW, hP, hD⟩ := tt_aftW hR hP hD
    rw [if_pos hz] at hW
    refine lv_pop hx hb dX3_walkAll_48 rfl ?_
    refine lv_aload_n hx hb dX3_walkAll_49 rfl (lv_at hl 0 rfl) ?_
    refine va_get (D := D) (ci := 3) (v := .ref (ad 3)) (C := RX3) (T := TX3) (N := 4) hx hb hts hinX3 hown hK hP 0 (tt_bg (by omega) hR.1) rfl 2 (by decide) hf28 (fun _ h9 => h9) rfl dX3_walkAll_50 ?_
    refine lv_iload_n hx hb dX3_walkAll_53 rfl (lv_at hl 2 rfl) ?_
    refine lv_iconst (v := 0) hx hb dX3_walkAll_54 (by decide) ?_
    have hCc := tt_C4 (tt_bg (n := 21) (ad := ad) (k := 3) (by omega) hW.1) (tt_bg (n := 21) (ad := ad) (k := 4) (by omega) hW.2.1) (tt_bg (n := 21) (ad := ad) (k := 5) (by omega) hW.2.2.1) (tt_bg (n := 21) (ad := ad) (k := 6) (by omega) hW.2.2.2)
    have hPc := tt_pick hP hCc
    have hDc := hD.sub [3, 4, 5, 6] (rfl) hCc
    refine tt_mcallv (va_runV (As := [.int src, .int 0]) (rest := []) hfix (c_X2_comeTo l D cI cZ cO cC (ad 3) (ad 4) (ad 5) (ad 6) 0 wi wst (upd g (tt_st 6 0 p1 src L) 1) src 0 (by omega) _) (cwV 2 hts gX3_walkAll_X2_comeTo rfl rfl rfl (by decide +kernel) ⟨Nat.le_of_ble_eq_true rfl, Nat.le_of_ble_eq_true rfl⟩) (tt_mpreV (q0 := 0) (ci := 2) hK hPc hDc tt_E.no rfl rfl) rfl rfl hl.1 rfl (lv_room (Nat.le_of_ble_eq_true rfl)) dX3_walkAll_55 ⟨Nat.zero_le _, Nat.zero_le _⟩) hP hD hS hA [3, 4, 5, 6] (rfl) hCc (fun _ => rfl) (fun u H locs hu hP hD hS => ?_)
    obtain ⟨cx, hR, hW, hP, hD⟩ := tt_aftW hR hP hD
    have hWS : tt_WS cI cZ ad cx L p1 src [(src, 0)] := ⟨_, _, _, hW, tt_MR_1 wi wst src 0, hMK, tt_MI_0 _ _ _⟩
    refine lv_iconst (v := 0) hx hb dX3_walkAll_58 (by decide) ?_
    refine lv_istore_n (lv' := [(3, .int 0), (0, .ref (ad 0)), (1, .int p1), (2, .int src)]) hx hb dX3_walkAll_59 rfl hl (by decide) rfl (fun ls hl => ?_)
    exact loop 702 0 cx [(src, 0)] (by omega) rfl hR hWS _ _ ls hP hD hS (lv_sub hl [0, 1, 2, 3] rfl)
set_option maxHeartbeats 4000000 in
set_option maxRecDepth 100000 in
theorem c_X3_far (l : Launch) (D : va_G) (cI cZ cO cC : ClassId) (ad : Nat → Nat) (cx : Nat → va_E) (L : Nat → List tt_T3) (ch : Nat) (C : Nat → tt_CU) (hR : tt_R cI cZ cO cC ad cx L ch C) (p1 src x3 : Int32) (hI : tt_I L) : tt_Muti (S := (Nat → va_E)) l yX3_far wsX3_far ({ frames := 7, cells := 0, slots := 0, locals := 175 } : Room) D (tt_tys cI cZ cO cC) true (tt_blk 21 ad cx) [.ref (ad 0), .int p1, .int src, .int x3] (fun r u => r = tt_fs (tt_bfs (L 0) p1 src) x3 ∧ tt_R cI cZ cO cC ad u L ch C) (fun u => tt_blk 21 ad u) := by
  refine tt_muti (cc := cX3_far) (maxL := 4) (rt := .int) (by decide) rfl (fun _ _ _ => rfl) (Nat.le_of_ble_eq_true rfl) ?_
  intro p e s m below meth c Q ls A hfix hK hP hD hA hE hl kr
  obtain ⟨hx, hb, hml, hown, hts⟩ := id hfix
  have hown : s.vm.findClass RX3 = some m.cls := hown
  have hfix : CallFix p m c cX3_far 4 s ([.ref (ad 0), .int p1, .int src, .int x3] : List Value).toArray wsX3_far RX3 := hfix
  have hl : lv_has ls 4 [(0, .ref (ad 0)), (1, .int p1), (2, .int src), (3, .int x3)] := hl
  have hf28 := hts (.fieldLink RX3 28 "TripleTrees" "walk" "LTripleTrees$Walk;") (by decide +kernel)
  have hinX3 : ∀ w ∈ u_ws RX3 TX3 4, w ∈ wsX3_far := by decide +kernel
  have hS : va_S A s.heap s.heap [] := va_S.rf
  have hl0 := (hI 0 (by omega)).2.2
  refine lv_aload_n hx hb dX3_far_0 rfl (lv_at hl 0 rfl) ?_
  refine lv_iload_n hx hb dX3_far_1 rfl (lv_at hl 1 rfl) ?_
  refine lv_iload_n hx hb dX3_far_2 rfl (lv_at hl 2 rfl) ?_
  refine tt_fullv (va_runV (As := [.int p1, .int src]) (rest := []) hfix (c_X3_walkAll l D cI cZ cO cC ad cx L ch C hR p1 src hI _) (cwV 2 hts gX3_far_X3_walkAll rfl rfl rfl (by decide +kernel) ⟨Nat.le_of_ble_eq_true rfl, Nat.le_of_ble_eq_true rfl⟩) (tt_mpreV (q0 := 0) (ci := 3) hK hP hD ((hE.at hS).narrow (tt_freeF hD hS hA)) (tt_bg (by omega) hR.1) rfl) rfl rfl hl.1 rfl (lv_room (Nat.le_of_ble_eq_true rfl)) dX3_far_3 ⟨Nat.zero_le _, Nat.zero_le _⟩) hD hS hA (fun cx H locs hu hP hD hS => ?_)
  obtain ⟨hR, wi, wst, wm, hW, hMR, hMK, hMI⟩ := hu
  have hml := tt_MI_len hMI
  refine lv_aload_n hx hb dX3_far_6 rfl (lv_at hl 0 rfl) ?_
  refine va_get (D := D) (ci := 3) (v := .ref (ad 3)) (C := RX3) (T := TX3) (N := 4) hx hb hts hinX3 hown hK hP 0 (tt_bg (by omega) hR.1) rfl 2 (by decide) hf28 (fun _ h9 => h9) rfl dX3_far_7 ?_
  refine lv_iload_n hx hb dX3_far_10 rfl (lv_at hl 3 rfl) ?_
  have hPc := tt_pick hP (tt_C4 (tt_bg (n := 21) (ad := ad) (k := 3) (by omega) hW.1) (tt_bg (n := 21) (ad := ad) (k := 4) (by omega) hW.2.1) (tt_bg (n := 21) (ad := ad) (k := 5) (by omega) hW.2.2.1) (tt_bg (n := 21) (ad := ad) (k := 6) (by omega) hW.2.2.2))
  refine tt_calli (va_runV (As := [.int x3]) (rest := []) hfix (c_X2_stepsTo l D cI cZ cO cC (ad 3) (ad 4) (ad 5) (ad 6) (tt_bfs (L 0) p1 src).length wi wst wm x3 (tt_fi (tt_bfs (L 0) p1 src) x3) (by omega) (tt_fi_ff hMR x3)) (cwV 1 hts gX3_far_X2_stepsTo rfl rfl rfl (by decide +kernel) ⟨Nat.le_of_ble_eq_true rfl, Nat.le_of_ble_eq_true rfl⟩) (tt_preV (q0 := 0) (ci := 2) hK hPc tt_E.no rfl rfl) rfl rfl hl.1 rfl (lv_room (Nat.le_of_ble_eq_true rfl)) dX3_far_11 ⟨Nat.zero_le _, Nat.zero_le _⟩) hP hS (fun H locs hP hS => ?_)
  refine tt_rei (show (if tt_fi (tt_bfs (L 0) p1 src) x3 < (tt_bfs (L 0) p1 src).length then wst (tt_fi (tt_bfs (L 0) p1 src) x3) else (-1)) = tt_fs (tt_bfs (L 0) p1 src) x3 from tt_fs_eq hMR x3) ?_
  exact kr _ _ _ _ _ cx ⟨rfl, hR⟩ hP hS dX3_far_14
set_option maxHeartbeats 4000000 in
set_option maxRecDepth 100000 in
theorem c_X3_reached (l : Launch) (D : va_G) (cI cZ cO cC : ClassId) (ad : Nat → Nat) (cx : Nat → va_E) (L : Nat → List tt_T3) (ch : Nat) (C : Nat → tt_CU) (hR : tt_R cI cZ cO cC ad cx L ch C) (p1 src : Int32) (hI : tt_I L) : tt_Muti (S := (Nat → va_E)) l yX3_reached wsX3_reached ({ frames := 7, cells := 0, slots := 0, locals := 175 } : Room) D (tt_tys cI cZ cO cC) true (tt_blk 21 ad cx) [.ref (ad 0), .int p1, .int src] (fun r u => r = nI (tt_bfs (L 0) p1 src).length ∧ tt_R cI cZ cO cC ad u L ch C) (fun u => tt_blk 21 ad u) := by
  refine tt_muti (cc := cX3_reached) (maxL := 3) (rt := .int) (by decide) rfl (fun _ _ _ => rfl) (Nat.le_of_ble_eq_true rfl) ?_
  intro p e s m below meth c Q ls A hfix hK hP hD hA hE hl kr
  obtain ⟨hx, hb, hml, hown, hts⟩ := id hfix
  have hown : s.vm.findClass RX3 = some m.cls := hown
  have hfix : CallFix p m c cX3_reached 3 s ([.ref (ad 0), .int p1, .int src] : List Value).toArray wsX3_reached RX3 := hfix
  have hl : lv_has ls 3 [(0, .ref (ad 0)), (1, .int p1), (2, .int src)] := hl
  have hf28 := hts (.fieldLink RX3 28 "TripleTrees" "walk" "LTripleTrees$Walk;") (by decide +kernel)
  have hN119 : (Cond.fieldLinkNest RX3 119 "TripleTrees$Walk" "count" "I" "TripleTrees").before ([.ref (ad 0), .int p1, .int src] : List Value).toArray s = true := va_Nw.use rfl ((hE rfl).2.1 _ (by decide +kernel))
  have hinX2 : ∀ w ∈ u_ws RX2 TX2 4, w ∈ wsX3_reached := by decide +kernel
  have hinX3 : ∀ w ∈ u_ws RX3 TX3 4, w ∈ wsX3_reached := by decide +kernel
  have hS : va_S A s.heap s.heap [] := va_S.rf
  have hl0 := (hI 0 (by omega)).2.2
  refine lv_aload_n hx hb dX3_reached_0 rfl (lv_at hl 0 rfl) ?_
  refine lv_iload_n hx hb dX3_reached_1 rfl (lv_at hl 1 rfl) ?_
  refine lv_iload_n hx hb dX3_reached_2 rfl (lv_at hl 2 rfl) ?_
  refine tt_fullv (va_runV (As := [.int p1, .int src]) (rest := []) hfix (c_X3_walkAll l D cI cZ cO cC ad cx L ch C hR p1 src hI _) (cwV 2 hts gX3_reached_X3_walkAll rfl rfl rfl (by decide +kernel) ⟨Nat.le_of_ble_eq_true rfl, Nat.le_of_ble_eq_true rfl⟩) (tt_mpreV (q0 := 0) (ci := 3) hK hP hD ((hE.at hS).narrow (tt_freeF hD hS hA)) (tt_bg (by omega) hR.1) rfl) rfl rfl hl.1 rfl (lv_room (Nat.le_of_ble_eq_true rfl)) dX3_reached_3 ⟨Nat.zero_le _, Nat.zero_le _⟩) hD hS hA (fun cx H locs hu hP hD hS => ?_)
  obtain ⟨hR, wi, wst, wm, hW, hMR, hMK, hMI⟩ := hu
  have hml := tt_MI_len hMI
  refine lv_aload_n hx hb dX3_reached_6 rfl (lv_at hl 0 rfl) ?_
  refine va_get (D := D) (ci := 3) (v := .ref (ad 3)) (C := RX3) (T := TX3) (N := 4) hx hb hts hinX3 hown hK hP 0 (tt_bg (by omega) hR.1) rfl 2 (by decide) hf28 (fun _ h9 => h9) rfl dX3_reached_7 ?_
  refine va_getN (host := "TripleTrees") (D := D) (ci := 2) (v := .int (nI ((tt_bfs (L 0) p1 src).length))) (C := RX2) (T := TX2) (N := 4) hx hb hts hinX2 hown hK hP 3 (tt_bg (by omega) hW.1) rfl 3 (by decide) hN119 (fun _ h9 => h9) rfl dX3_reached_10 ?_
  exact kr _ _ _ _ _ cx ⟨rfl, hR⟩ hP hS dX3_reached_13

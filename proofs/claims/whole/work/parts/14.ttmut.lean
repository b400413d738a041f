/-! own rows: taking what matches out, the last first -/
theorem tt_dec (x : Int32) : x + Int32.ofInt (-1) = x - 1 := by
  rw [Int32.sub_eq_add_neg]
  rfl
theorem tt_pred_lt {a : Nat} (h : a < 2 ^ 31) : nI a - 1 < nI a := by
  cases a with
  | zero => decide
  | succ a =>
    rw [nI_pred]
    exact nI_lt (by omega) h
/-- of the places that match, the first d are still there -/
def tt_RM (mk : Nat) (s p o : Int32) (L : Nat → List tt_T3) (d : Nat) (Lc : Nat → List tt_T3) : Prop := ∃ Rm : List tt_T3, (∀ k, k < 3 → Lc k = (L k).filter (fun u => decide (u ∉ Rm))) ∧ (∀ u, u ∈ Rm ↔ ∃ x, tt_st mk s p o L + d ≤ x ∧ x < tt_en mk s p o L ∧ u = tt_gt (L (tt_o mk)) x) ∧ (∀ x, x < tt_st mk s p o L + d → tt_gt (Lc (tt_o mk)) x = tt_gt (L (tt_o mk)) x) ∧ tt_st mk s p o L + d ≤ (Lc (tt_o mk)).length ∧ tt_I Lc
theorem tt_RM_0 (mk : Nat) (s p o : Int32) {L : Nat → List tt_T3} (hI : tt_I L) : tt_RM mk s p o L (tt_en mk s p o L - tt_st mk s p o L) L := by
  have hse := tt_st_en mk s p o L
  have hel := tt_en_le mk s p o hI
  refine ⟨[], fun k _ => ?_, fun u => ⟨fun h => absurd h List.not_mem_nil, ?_⟩, fun _ _ => rfl, by omega, hI⟩
  · exact (List.filter_eq_self.mpr (fun u _ => by simp)).symm
  · rintro ⟨x, h1, h2, -⟩
    omega
theorem tt_RM_s {mk : Nat} {s p o : Int32} {L Lc : Nat → List tt_T3} {d : Nat} (h : tt_RM mk s p o L (d + 1) Lc) : tt_gt (Lc (tt_o mk)) (tt_st mk s p o L + d) = tt_gt (L (tt_o mk)) (tt_st mk s p o L + d) ∧ tt_st mk s p o L + d < (Lc (tt_o mk)).length ∧ tt_gt (L (tt_o mk)) (tt_st mk s p o L + d) ∈ Lc 0 ∧ (tt_st mk s p o L + d < tt_en mk s p o L → tt_RM mk s p o L d (tt_Ld (tt_gt (L (tt_o mk)) (tt_st mk s p o L + d)) Lc)) ∧ tt_I Lc := by
  obtain ⟨Rm, h1, h2, h3, h4, h5⟩ := h
  have hg := h3 (tt_st mk s p o L + d) (by omega)
  have hk := tt_o_lt mk
  have hnd := tt_I_nd h5 hk
  have hlt : tt_st mk s p o L + d < (Lc (tt_o mk)).length := by omega
  refine ⟨hg, hlt, ?_, fun hen => ⟨tt_gt (L (tt_o mk)) (tt_st mk s p o L + d) :: Rm, fun k hk => ?_, fun u => ?_, fun x hx => ?_, ?_, ?_⟩, h5⟩
  · rw [← hg]
    exact (h5 _ hk).2.1.mem_iff.mp (tt_gt_mem hlt)
  · show tt_del _ (Lc k) = _
    rw [h1 k hk]
    exact tt_del_filter _ Rm (L k)
  · rw [List.mem_cons, h2]
    constructor
    · rintro (e | ⟨x, q1, q2, q3⟩)
      · exact ⟨_, Nat.le_refl _, hen, e⟩
      · exact ⟨x, by omega, q2, q3⟩
    · rintro ⟨x, q1, q2, q3⟩
      by_cases e : x = tt_st mk s p o L + d
      · exact Or.inl (by rw [q3, e])
      · exact Or.inr ⟨x, by omega, q2, q3⟩
  · show tt_gt (tt_del _ (Lc (tt_o mk))) x = _
    rw [← hg, ← tt_del_eq hnd hlt, tt_gt_del, if_pos hx]
    exact h3 x (by omega)
  · show _ ≤ (tt_del _ (Lc (tt_o mk))).length
    rw [← hg, tt_del_len hnd hlt]
    omega
  · exact tt_I_filter h5 _
theorem tt_RM_e {mk : Nat} (hm : mk < 8) (s p o : Int32) {L Lc : Nat → List tt_T3} (hI : tt_I L) (h : tt_RM mk s p o L 0 Lc) : ∀ k, k < 3 → Lc k = tt_Lr mk s p o L k := by
  obtain ⟨Rm, h1, h2, -⟩ := h
  intro k hk
  rw [h1 k hk]
  exact tt_rem_filter hm s p o hI h2 hk
set_option maxHeartbeats 4000000 in
set_option maxRecDepth 100000 in
theorem c_X3_add (l : Launch) (D : va_G) (cI cZ cO cC : ClassId) (ad : Nat → Nat) (cx : Nat → va_E) (L : Nat → List tt_T3) (ch : Nat) (C : Nat → tt_CU) (hR : tt_R cI cZ cO cC ad cx L ch C) (s1 p1 o1 : Int32) (hI : tt_I L) (hn : (L 0).length < 700) : tt_Muti (S := (Nat → va_E)) l yX3_add wsX3_add ({ frames := 5, cells := 0, slots := 0, locals := 128 } : Room) D (tt_tys cI cZ cO cC) true (tt_blk 21 ad cx) [.ref (ad 0), .int s1, .int p1, .int o1] (fun r u => (0 < tt_mn 7 s1 p1 o1 L ∧ r = 0 ∧ tt_R cI cZ cO cC ad u L ch C) ∨ (¬ 0 < tt_mn 7 s1 p1 o1 L ∧ r = 1 ∧ tt_R cI cZ cO cC ad u (tt_La (s1, p1, o1) L) (ch + 1) C)) (fun u => tt_blk 21 ad u) := by
  refine tt_muti (cc := cX3_add) (maxL := 5) (rt := .int) (by decide) rfl (fun _ _ _ => rfl) (Nat.le_of_ble_eq_true rfl) ?_
  intro p e s m below meth c Q ls A hfix hK hP hD hA hE hl kr
  obtain ⟨hx, hb, hml, hown, hts⟩ := id hfix
  have hown : s.vm.findClass RX3 = some m.cls := hown
  have hfix : CallFix p m c cX3_add 5 s ([.ref (ad 0), .int s1, .int p1, .int o1] : List Value).toArray wsX3_add RX3 := hfix
  have hl : lv_has ls 5 [(0, .ref (ad 0)), (1, .int s1), (2, .int p1), (3, .int o1)] := hl
  have hf11 := hts (.fieldLink RX3 11 "TripleTrees" "orders" "[LTripleTrees$Order;") (by decide +kernel)
  have hN36 : (Cond.fieldLinkNest RX3 36 "TripleTrees$Order" "count" "I" "TripleTrees").before ([.ref (ad 0), .int s1, .int p1, .int o1] : List Value).toArray s = true := va_Nw.use rfl ((hE rfl).2.1 _ (by decide +kernel))
  have hf44 := hts (.fieldLink RX3 44 "TripleTrees" "changed" "I") (by decide +kernel)
  have hinX1 : ∀ w ∈ u_ws RX1 TX1 3, w ∈ wsX3_add := by decide +kernel
  have hinX3 : ∀ w ∈ u_ws RX3 TX3 4, w ∈ wsX3_add := by decide +kernel
  have hS : va_S A s.heap s.heap [] := va_S.rf
  have hmn := tt_mn_le 7 s1 p1 o1 hI
  refine lv_aload_n hx hb dX3_add_0 rfl (lv_at hl 0 rfl) ?_
  refine lv_bipush (v := 7) hx hb dX3_add_1 (by decide) ?_
  refine lv_iload_n hx hb dX3_add_3 rfl (lv_at hl 1 rfl) ?_
  refine lv_iload_n hx hb dX3_add_4 rfl (lv_at hl 2 rfl) ?_
  refine lv_iload_n hx hb dX3_add_5 rfl (lv_at hl 3 rfl) ?_
  have hPc := hP
  refine tt_calli (va_runV (As := [.int 7, .int s1, .int p1, .int o1]) (rest := []) hfix (c_X3_matching l D cI cZ cO cC ad cx L ch C hR 7 s1 p1 o1 (by omega) hI) (cwV 4 hts gX3_add_X3_matching rfl rfl rfl (by decide +kernel) ⟨Nat.le_of_ble_eq_true rfl, Nat.le_of_ble_eq_true rfl⟩) (tt_preV (q0 := 0) (ci := 3) hK hPc ((hE.at hS).narrow (fun _ h => h.elim)) (tt_bg (by omega) hR.1) rfl) rfl rfl hl.1 rfl (lv_room (Nat.le_of_ble_eq_true rfl)) dX3_add_6 ⟨Nat.zero_le _, Nat.zero_le _⟩) hP hS (fun H locs hP hS => ?_)
  refine lv_if_le (tgt := 14) hx hb dX3_add_9 (by decide) (fun hb9 => ?_) (fun hb9 => ?_)
  · have hb9 : tt_mn 7 s1 p1 o1 L ≤ 0 := (nI_leI (a := tt_mn 7 s1 p1 o1 L) (b := 0) (by omega) (by omega)).mp hb9
    obtain ⟨f, ho, hp, hf⟩ := hR.2.2.2.2.1 (0) (by omega)
    refine lv_aload_n hx hb dX3_add_14 rfl (lv_at hl 0 rfl) ?_
    refine va_get (D := D) (ci := 3) (v := .ref (ad 1)) (C := RX3) (T := TX3) (N := 4) hx hb hts hinX3 hown hK hP 0 (tt_bg (by omega) hR.1) rfl 0 (by decide) hf11 (fun _ h9 => h9) rfl dX3_add_15 ?_
    refine lv_iconst (v := 0) hx hb dX3_add_18 (by decide) ?_
    refine va_aldq hx hb hK hP 1 2 (tt_bg (by omega) hR.2.1) rfl (vp_in_nI (n := 0) (by omega) (by omega)) dX3_add_19 ?_
    refine tt_rer (show va_rf (some (ad (7 + (nI 0).toNatClampNeg))) = .ref (ad (7 + 0)) from by rw [nI_clamp (by omega)]; rfl) ?_
    refine va_getN (host := "TripleTrees") (D := D) (ci := 1) (v := .int (nI ((L 0).length))) (C := RX1) (T := TX1) (N := 3) hx hb hts hinX1 hown hK hP (7 + 0) (tt_bg (by omega) ho) rfl 2 (by decide) hN36 (fun _ h9 => h9) rfl dX3_add_20 ?_
    refine lv_sipush (v := 700) hx hb dX3_add_23 (by decide) ?_
    refine lv_icmp_lt (tgt := 32) hx hb dX3_add_26 (by decide) (fun hb26 => ?_) (fun hb26 => ?_)
    · have hb26 : (L 0).length < 700 := (nI_ltI (a := (L 0).length) (b := 700) (by omega) (by omega)).mp hb26
      have hR := hR.congr (L' := tt_Lm (s1, p1, o1) L 0) (fun k _ => if_neg (by omega))
      refine lv_iconst (v := 0) hx hb dX3_add_32 (by decide) ?_
      refine lv_istore (lv' := [(4, .int 0), (0, .ref (ad 0)), (1, .int s1), (2, .int p1), (3, .int o1)]) hx hb dX3_add_33 hl (by decide) rfl (fun ls hl => ?_)
      refine lv_iload hx hb dX3_add_35 (lv_at hl 0 rfl) ?_
      refine lv_aload_n hx hb dX3_add_37 rfl (lv_at hl 1 rfl) ?_
      refine va_get (D := D) (ci := 3) (v := .ref (ad 1)) (C := RX3) (T := TX3) (N := 4) hx hb hts hinX3 hown hK hP 0 (tt_bg (by omega) hR.1) rfl 0 (by decide) hf11 (fun _ h9 => h9) rfl dX3_add_38 ?_
      refine va_alen (v := 3) hx hb hK hP 1 2 (tt_bg (by omega) hR.2.1) rfl rfl dX3_add_41 ?_
      refine lv_icmp_ge (tgt := 64) hx hb dX3_add_42 (by decide) (fun hb42 => ?_) (fun hb42 => ?_)
      · exact absurd hb42 (by decide)
      · obtain ⟨f, ho, hp, hf⟩ := hR.2.2.2.2.1 0 (by omega)
        rw [tt_Lm_at] at ho hf
        refine lv_aload_n hx hb dX3_add_45 rfl (lv_at hl 1 rfl) ?_
        refine va_get (D := D) (ci := 3) (v := .ref (ad 1)) (C := RX3) (T := TX3) (N := 4) hx hb hts hinX3 hown hK hP 0 (tt_bg (by omega) hR.1) rfl 0 (by decide) hf11 (fun _ h9 => h9) rfl dX3_add_46 ?_
        refine lv_iload hx hb dX3_add_49 (lv_at hl 0 rfl) ?_
        refine va_aldq hx hb hK hP 1 2 (tt_bg (by omega) hR.2.1) rfl (vp_in_nI (n := 0) (by omega) (by omega)) dX3_add_51 ?_
        refine tt_rer (show va_rf (some (ad (7 + (nI 0).toNatClampNeg))) = .ref (ad (7 + 0)) from by rw [nI_clamp (by omega)]; rfl) ?_
        refine lv_iload_n hx hb dX3_add_52 rfl (lv_at hl 2 rfl) ?_
        refine lv_iload_n hx hb dX3_add_53 rfl (lv_at hl 3 rfl) ?_
        refine lv_iload_n hx hb dX3_add_54 rfl (lv_at hl 4 rfl) ?_
        have hlen : (L 0).length = (L 0).length := (hI 0 (by omega)).2.1.length_eq
        have hCc := tt_C2 (tt_bg (n := 21) (ad := ad) (k := 7 + 0) (by omega) ho) (tt_bg (n := 21) (ad := ad) (k := 10 + 0) (by omega) hp)
        have hPc := tt_pick hP hCc
        have hDc := hD.sub [7 + 0, 10 + 0] (tt_nd2 (by omega)) hCc
        refine tt_mcallv (va_runV (As := [.int s1, .int p1, .int o1]) (rest := []) hfix (c_X1_insert l D cI cZ cO cC (ad (7 + 0)) (ad (10 + 0)) 0 (L 0).length f s1 p1 o1 (tt_pos 0 (s1, p1, o1) (L 0)) (by omega) (by omega) (tt_bd_f hf (hI 0 (by omega)).1 3 _ _ _ 0 (Or.inl rfl)) _) (cwV 3 hts gX3_add_X1_insert rfl rfl rfl (by decide +kernel) ⟨Nat.le_of_ble_eq_true rfl, Nat.le_of_ble_eq_true rfl⟩) (tt_mpreV (q0 := 0) (ci := 1) hK hPc hDc tt_E.no rfl rfl) rfl rfl hl.1 rfl (lv_room (Nat.le_of_ble_eq_true rfl)) dX3_add_55 ⟨Nat.zero_le _, Nat.zero_le _⟩) hP hD hS hA [7 + 0, 10 + 0] (tt_nd2 (by omega)) hCc (fun _ => rfl) (fun g H locs hg hP hD hS => ?_)
        obtain ⟨cx, hR, hP, hD⟩ := tt_aftO (L' := tt_Lm (s1, p1, o1) L (0 + 1)) (m := (L 0).length + 1) hR (by omega) (by rw [tt_Lm_new]; exact tt_RO_ins hf hg) (by rw [tt_Lm_new, tt_ins_len]) (fun k _ h => tt_Lm_ne _ _ _ h) hP hD
        refine lv_iinc (v := 1) (lv' := [(4, .int 1), (0, .ref (ad 0)), (1, .int s1), (2, .int p1), (3, .int o1)]) hx hb dX3_add_58 hl (k := 0) rfl (rfl) (by decide) rfl (fun ls hl => ?_)
        refine lv_goto (tgt := 35) hx hb dX3_add_61 (by decide) ?_
        refine lv_iload hx hb dX3_add_35 (lv_at hl 0 rfl) ?_
        refine lv_aload_n hx hb dX3_add_37 rfl (lv_at hl 1 rfl) ?_
        refine va_get (D := D) (ci := 3) (v := .ref (ad 1)) (C := RX3) (T := TX3) (N := 4) hx hb hts hinX3 hown hK hP 0 (tt_bg (by omega) hR.1) rfl 0 (by decide) hf11 (fun _ h9 => h9) rfl dX3_add_38 ?_
        refine va_alen (v := 3) hx hb hK hP 1 2 (tt_bg (by omega) hR.2.1) rfl rfl dX3_add_41 ?_
        refine lv_icmp_ge (tgt := 64) hx hb dX3_add_42 (by decide) (fun hb42 => ?_) (fun hb42 => ?_)
        · exact absurd hb42 (by decide)
        · obtain ⟨f, ho, hp, hf⟩ := hR.2.2.2.2.1 1 (by omega)
          rw [tt_Lm_at] at ho hf
          refine lv_aload_n hx hb dX3_add_45 rfl (lv_at hl 1 rfl) ?_
          refine va_get (D := D) (ci := 3) (v := .ref (ad 1)) (C := RX3) (T := TX3) (N := 4) hx hb hts hinX3 hown hK hP 0 (tt_bg (by omega) hR.1) rfl 0 (by decide) hf11 (fun _ h9 => h9) rfl dX3_add_46 ?_
          refine lv_iload hx hb dX3_add_49 (lv_at hl 0 rfl) ?_
          refine va_aldq hx hb hK hP 1 2 (tt_bg (by omega) hR.2.1) rfl (vp_in_nI (n := 1) (by omega) (by omega)) dX3_add_51 ?_
          refine tt_rer (show va_rf (some (ad (7 + (nI 1).toNatClampNeg))) = .ref (ad (7 + 1)) from by rw [nI_clamp (by omega)]; rfl) ?_
          refine lv_iload_n hx hb dX3_add_52 rfl (lv_at hl 2 rfl) ?_
          refine lv_iload_n hx hb dX3_add_53 rfl (lv_at hl 3 rfl) ?_
          refine lv_iload_n hx hb dX3_add_54 rfl (lv_at hl 4 rfl) ?_
          have hlen : (L 1).length = (L 0).length := (hI 1 (by omega)).2.1.length_eq
          have hCc := tt_C2 (tt_bg (n := 21) (ad := ad) (k := 7 + 1) (by omega) ho) (tt_bg (n := 21) (ad := ad) (k := 10 + 1) (by omega) hp)
          have hPc := tt_pick hP hCc
          have hDc := hD.sub [7 + 1, 10 + 1] (tt_nd2 (by omega)) hCc
          refine tt_mcallv (va_runV (As := [.int s1, .int p1, .int o1]) (rest := []) hfix (c_X1_insert l D cI cZ cO cC (ad (7 + 1)) (ad (10 + 1)) 1 (L 1).length f s1 p1 o1 (tt_pos 1 (s1, p1, o1) (L 1)) (by omega) (by omega) (tt_bd_f hf (hI 1 (by omega)).1 3 _ _ _ 0 (Or.inl rfl)) _) (cwV 3 hts gX3_add_X1_insert rfl rfl rfl (by decide +kernel) ⟨Nat.le_of_ble_eq_true rfl, Nat.le_of_ble_eq_true rfl⟩) (tt_mpreV (q0 := 0) (ci := 1) hK hPc hDc tt_E.no rfl rfl) rfl rfl hl.1 rfl (lv_room (Nat.le_of_ble_eq_true rfl)) dX3_add_55 ⟨Nat.zero_le _, Nat.zero_le _⟩) hP hD hS hA [7 + 1, 10 + 1] (tt_nd2 (by omega)) hCc (fun _ => rfl) (fun g H locs hg hP hD hS => ?_)
          obtain ⟨cx, hR, hP, hD⟩ := tt_aftO (L' := tt_Lm (s1, p1, o1) L (1 + 1)) (m := (L 1).length + 1) hR (by omega) (by rw [tt_Lm_new]; exact tt_RO_ins hf hg) (by rw [tt_Lm_new, tt_ins_len]) (fun k _ h => tt_Lm_ne _ _ _ h) hP hD
          refine lv_iinc (v := 2) (lv' := [(4, .int 2), (0, .ref (ad 0)), (1, .int s1), (2, .int p1), (3, .int o1)]) hx hb dX3_add_58 hl (k := 0) rfl (rfl) (by decide) rfl (fun ls hl => ?_)
          refine lv_goto (tgt := 35) hx hb dX3_add_61 (by decide) ?_
          refine lv_iload hx hb dX3_add_35 (lv_at hl 0 rfl) ?_
          refine lv_aload_n hx hb dX3_add_37 rfl (lv_at hl 1 rfl) ?_
          refine va_get (D := D) (ci := 3) (v := .ref (ad 1)) (C := RX3) (T := TX3) (N := 4) hx hb hts hinX3 hown hK hP 0 (tt_bg (by omega) hR.1) rfl 0 (by decide) hf11 (fun _ h9 => h9) rfl dX3_add_38 ?_
          refine va_alen (v := 3) hx hb hK hP 1 2 (tt_bg (by omega) hR.2.1) rfl rfl dX3_add_41 ?_
          refine lv_icmp_ge (tgt := 64) hx hb dX3_add_42 (by decide) (fun hb42 => ?_) (fun hb42 => ?_)
          · exact absurd hb42 (by decide)
          · obtain ⟨f, ho, hp, hf⟩ := hR.2.2.2.2.1 2 (by omega)
            rw [tt_Lm_at] at ho hf
            refine lv_aload_n hx hb dX3_add_45 rfl (lv_at hl 1 rfl) ?_
            refine va_get (D := D) (ci := 3) (v := .ref (ad 1)) (C := RX3) (T := TX3) (N := 4) hx hb hts hinX3 hown hK hP 0 (tt_bg (by omega) hR.1) rfl 0 (by decide) hf11 (fun _ h9 => h9) rfl dX3_add_46 ?_
            refine lv_iload hx hb dX3_add_49 (lv_at hl 0 rfl) ?_
            refine va_aldq hx hb hK hP 1 2 (tt_bg (by omega) hR.2.1) rfl (vp_in_nI (n := 2) (by omega) (by omega)) dX3_add_51 ?_
            refine tt_rer (show va_rf (some (ad (7 + (nI 2).toNatClampNeg))) = .ref (ad (7 + 2)) from by rw [nI_clamp (by omega)]; rfl) ?_
            refine lv_iload_n hx hb dX3_add_52 rfl (lv_at hl 2 rfl) ?_
            refine lv_iload_n hx hb dX3_add_53 rfl (lv_at hl 3 rfl) ?_
            refine lv_iload_n hx hb dX3_add_54 rfl (lv_at hl 4 rfl) ?_
            have hlen : (L 2).length = (L 0).length := (hI 2 (by omega)).2.1.length_eq
            have hCc := tt_C2 (tt_bg (n := 21) (ad := ad) (k := 7 + 2) (by omega) ho) (tt_bg (n := 21) (ad := ad) (k := 10 + 2) (by omega) hp)
            have hPc := tt_pick hP hCc
            have hDc := hD.sub [7 + 2, 10 + 2] (tt_nd2 (by omega)) hCc
            refine tt_mcallv (va_runV (As := [.int s1, .int p1, .int o1]) (rest := []) hfix (c_X1_insert l D cI cZ cO cC (ad (7 + 2)) (ad (10 + 2)) 2 (L 2).length f s1 p1 o1 (tt_pos 2 (s1, p1, o1) (L 2)) (by omega) (by omega) (tt_bd_f hf (hI 2 (by omega)).1 3 _ _ _ 0 (Or.inl rfl)) _) (cwV 3 hts gX3_add_X1_insert rfl rfl rfl (by decide +kernel) ⟨Nat.le_of_ble_eq_true rfl, Nat.le_of_ble_eq_true rfl⟩) (tt_mpreV (q0 := 0) (ci := 1) hK hPc hDc tt_E.no rfl rfl) rfl rfl hl.1 rfl (lv_room (Nat.le_of_ble_eq_true rfl)) dX3_add_55 ⟨Nat.zero_le _, Nat.zero_le _⟩) hP hD hS hA [7 + 2, 10 + 2] (tt_nd2 (by omega)) hCc (fun _ => rfl) (fun g H locs hg hP hD hS => ?_)
            obtain ⟨cx, hR, hP, hD⟩ := tt_aftO (L' := tt_Lm (s1, p1, o1) L (2 + 1)) (m := (L 2).length + 1) hR (by omega) (by rw [tt_Lm_new]; exact tt_RO_ins hf hg) (by rw [tt_Lm_new, tt_ins_len]) (fun k _ h => tt_Lm_ne _ _ _ h) hP hD
            refine lv_iinc (v := 3) (lv' := [(4, .int 3), (0, .ref (ad 0)), (1, .int s1), (2, .int p1), (3, .int o1)]) hx hb dX3_add_58 hl (k := 0) rfl (rfl) (by decide) rfl (fun ls hl => ?_)
            refine lv_goto (tgt := 35) hx hb dX3_add_61 (by decide) ?_
            refine lv_iload hx hb dX3_add_35 (lv_at hl 0 rfl) ?_
            refine lv_aload_n hx hb dX3_add_37 rfl (lv_at hl 1 rfl) ?_
            refine va_get (D := D) (ci := 3) (v := .ref (ad 1)) (C := RX3) (T := TX3) (N := 4) hx hb hts hinX3 hown hK hP 0 (tt_bg (by omega) hR.1) rfl 0 (by decide) hf11 (fun _ h9 => h9) rfl dX3_add_38 ?_
            refine va_alen (v := 3) hx hb hK hP 1 2 (tt_bg (by omega) hR.2.1) rfl rfl dX3_add_41 ?_
            refine lv_icmp_ge (tgt := 64) hx hb dX3_add_42 (by decide) (fun hb42 => ?_) (fun hb42 => ?_)
            · refine lv_aload_n hx hb dX3_add_64 rfl (lv_at hl 1 rfl) ?_
              refine lv_dup hx hb dX3_add_65 rfl ?_
              refine va_get (D := D) (ci := 3) (v := .int (nI ch)) (C := RX3) (T := TX3) (N := 4) hx hb hts hinX3 hown hK hP 0 (tt_bg (by omega) hR.1) rfl 3 (by decide) hf44 (fun _ h9 => h9) rfl dX3_add_66 ?_
              refine lv_iconst (v := 1) hx hb dX3_add_69 (by decide) ?_
              refine lv_iadd hx hb dX3_add_70 ?_
              refine tt_rei (show ((nI ch) + 1) = nI (ch + 1) from nI_add ch 1) ?_
              refine va_put (D := D) (ci := 3) (v := .int (nI (ch + 1))) (ty := .int) (C := RX3) (T := TX3) (N := 4) hx hb hts hinX3 tyX3 tyX3_ok nmX3 hown hK hP hD hS 0 (tt_bg (by omega) hR.1) rfl 3 (by decide) hf44 (fun _ h9 => h9) rfl (by decide +kernel) rfl rfl (Nat.le_of_ble_eq_true rfl) dX3_add_71 (fun H locs hP hD hS => ?_)
              obtain ⟨cx, hR, hP, hD⟩ : ∃ g : Nat → va_E, tt_R cI cZ cO cC ad g (tt_Lm (s1, p1, o1) L (2 + 1)) (ch + 1) C ∧ va_P D vwCl (tt_blk 21 ad g) H ∧ va_D A (tt_blk 21 ad g) := ⟨_, hR.setH (ch + 1), by rw [← tt_bset]; exact hP, by rw [← tt_bset]; exact hD⟩
              refine lv_iconst (v := 1) hx hb dX3_add_74 (by decide) ?_
              exact kr _ _ _ _ _ cx (Or.inr ⟨by omega, rfl, hR.congr (fun k hk => (if_pos hk).symm)⟩) hP hS dX3_add_75
            · exact absurd (by decide) hb42
    · have hb26 : ¬ (L 0).length < 700 := fun hz9 => hb26 ((nI_ltI (a := (L 0).length) (b := 700) (by omega) (by omega)).mpr hz9)
      exact absurd hn hb26
  · have hb9 : ¬ tt_mn 7 s1 p1 o1 L ≤ 0 := fun hz9 => hb9 ((nI_leI (a := tt_mn 7 s1 p1 o1 L) (b := 0) (by omega) (by omega)).mpr hz9)
    refine lv_iconst (v := 0) hx hb dX3_add_12 (by decide) ?_
    exact kr _ _ _ _ _ cx (Or.inl ⟨by omega, rfl, hR⟩) hP hS dX3_add_13
set_option maxHeartbeats 4000000 in
set_option maxRecDepth 100000 in
theorem c_X3_removeOne (l : Launch) (D : va_G) (cI cZ cO cC : ClassId) (ad : Nat → Nat) (cx : Nat → va_E) (L : Nat → List tt_T3) (ch : Nat) (C : Nat → tt_CU) (hR : tt_R cI cZ cO cC ad cx L ch C) (s1 p1 o1 : Int32) (hI : tt_I L) (hmem : (s1, p1, o1) ∈ L 0) : tt_Mutv (S := (Nat → va_E)) l yX3_removeOne wsX3_removeOne ({ frames := 3, cells := 0, slots := 0, locals := 80 } : Room) D (tt_tys cI cZ cO cC) true (tt_blk 21 ad cx) [.ref (ad 0), .int s1, .int p1, .int o1] (fun u => tt_R cI cZ cO cC ad u (tt_Ld (s1, p1, o1) L) (ch + 1) C) (fun u => tt_blk 21 ad u) := by
  refine tt_mutv (cc := cX3_removeOne) (maxL := 5) (by decide) rfl (Nat.le_of_ble_eq_true rfl) ?_
  intro p e s m below meth c Q ls A hfix hK hP hD hA hE hl kr
  obtain ⟨hx, hb, hml, hown, hts⟩ := id hfix
  have hown : s.vm.findClass RX3 = some m.cls := hown
  have hfix : CallFix p m c cX3_removeOne 5 s ([.ref (ad 0), .int s1, .int p1, .int o1] : List Value).toArray wsX3_removeOne RX3 := hfix
  have hl : lv_has ls 5 [(0, .ref (ad 0)), (1, .int s1), (2, .int p1), (3, .int o1)] := hl
  have hf11 := hts (.fieldLink RX3 11 "TripleTrees" "orders" "[LTripleTrees$Order;") (by decide +kernel)
  have hf44 := hts (.fieldLink RX3 44 "TripleTrees" "changed" "I") (by decide +kernel)
  have hinX3 : ∀ w ∈ u_ws RX3 TX3 4, w ∈ wsX3_removeOne := by decide +kernel
  have hS : va_S A s.heap s.heap [] := va_S.rf
  have hR := hR.congr (L' := tt_Lz (s1, p1, o1) L 0) (fun k _ => if_neg (by omega))
  refine lv_iconst (v := 0) hx hb dX3_removeOne_0 (by decide) ?_
  refine lv_istore (lv' := [(4, .int 0), (0, .ref (ad 0)), (1, .int s1), (2, .int p1), (3, .int o1)]) hx hb dX3_removeOne_1 hl (by decide) rfl (fun ls hl => ?_)
  refine lv_iload hx hb dX3_removeOne_3 (lv_at hl 0 rfl) ?_
  refine lv_aload_n hx hb dX3_removeOne_5 rfl (lv_at hl 1 rfl) ?_
  refine va_get (D := D) (ci := 3) (v := .ref (ad 1)) (C := RX3) (T := TX3) (N := 4) hx hb hts hinX3 hown hK hP 0 (tt_bg (by omega) hR.1) rfl 0 (by decide) hf11 (fun _ h9 => h9) rfl dX3_removeOne_6 ?_
  refine va_alen (v := 3) hx hb hK hP 1 2 (tt_bg (by omega) hR.2.1) rfl rfl dX3_removeOne_9 ?_
  refine lv_icmp_ge (tgt := 44) hx hb dX3_removeOne_10 (by decide) (fun hb10 => ?_) (fun hb10 => ?_)
  · exact absurd hb10 (by decide)
  · obtain ⟨f, ho, hp, hf⟩ := hR.2.2.2.2.1 0 (by omega)
    rw [tt_Lz_at] at ho hf
    obtain ⟨hs, hpm, hn⟩ := hI 0 (by omega)
    obtain ⟨hj, hjt⟩ := tt_pos_mem hs (hpm.mem_iff.mpr hmem)
    refine lv_aload_n hx hb dX3_removeOne_13 rfl (lv_at hl 1 rfl) ?_
    refine va_get (D := D) (ci := 3) (v := .ref (ad 1)) (C := RX3) (T := TX3) (N := 4) hx hb hts hinX3 hown hK hP 0 (tt_bg (by omega) hR.1) rfl 0 (by decide) hf11 (fun _ h9 => h9) rfl dX3_removeOne_14 ?_
    refine lv_iload hx hb dX3_removeOne_17 (lv_at hl 0 rfl) ?_
    refine va_aldq hx hb hK hP 1 2 (tt_bg (by omega) hR.2.1) rfl (vp_in_nI (n := 0) (by omega) (by omega)) dX3_removeOne_19 ?_
    refine tt_rer (show va_rf (some (ad (7 + (nI 0).toNatClampNeg))) = .ref (ad (7 + 0)) from by rw [nI_clamp (by omega)]; rfl) ?_
    refine lv_aload_n hx hb dX3_removeOne_20 rfl (lv_at hl 1 rfl) ?_
    refine va_get (D := D) (ci := 3) (v := .ref (ad 1)) (C := RX3) (T := TX3) (N := 4) hx hb hts hinX3 hown hK hP 0 (tt_bg (by omega) hR.1) rfl 0 (by decide) hf11 (fun _ h9 => h9) rfl dX3_removeOne_21 ?_
    refine lv_iload hx hb dX3_removeOne_24 (lv_at hl 0 rfl) ?_
    refine va_aldq hx hb hK hP 1 2 (tt_bg (by omega) hR.2.1) rfl (vp_in_nI (n := 0) (by omega) (by omega)) dX3_removeOne_26 ?_
    refine tt_rer (show va_rf (some (ad (7 + (nI 0).toNatClampNeg))) = .ref (ad (7 + 0)) from by rw [nI_clamp (by omega)]; rfl) ?_
    refine lv_iconst (v := 3) hx hb dX3_removeOne_27 (by decide) ?_
    refine lv_iload_n hx hb dX3_removeOne_28 rfl (lv_at hl 2 rfl) ?_
    refine lv_iload_n hx hb dX3_removeOne_29 rfl (lv_at hl 3 rfl) ?_
    refine lv_iload_n hx hb dX3_removeOne_30 rfl (lv_at hl 4 rfl) ?_
    refine lv_iconst (v := 0) hx hb dX3_removeOne_31 (by decide) ?_
    have hPc := tt_pick2 hP (tt_bg (n := 21) (k := 7 + 0) (by omega) ho) (tt_bg (n := 21) (k := 10 + 0) (by omega) hp)
    refine tt_calli (va_runV (As := [.int 3, .int s1, .int p1, .int o1, .int 0]) (rest := [.ref (ad (7 + 0))]) hfix (c_X1_placeOf l D cI cZ cO cC (ad (7 + 0)) (ad (10 + 0)) 0 (L 0).length f 3 s1 p1 o1 0 (tt_pos 0 (s1, p1, o1) (L 0)) (by omega) hn (tt_bd_f hf hs 3 _ _ _ 0 (Or.inl rfl))) (cwV 5 hts gX3_removeOne_X1_placeOf rfl rfl rfl (by decide +kernel) ⟨Nat.le_of_ble_eq_true rfl, Nat.le_of_ble_eq_true rfl⟩) (tt_preV (q0 := 0) (ci := 1) hK hPc tt_E.no rfl rfl) rfl rfl hl.1 rfl (lv_room (Nat.le_of_ble_eq_true rfl)) dX3_removeOne_32 ⟨Nat.zero_le _, Nat.zero_le _⟩) hP hS (fun H locs hP hS => ?_)
    have hCc := tt_C2 (tt_bg (n := 21) (ad := ad) (k := 7 + 0) (by omega) ho) (tt_bg (n := 21) (ad := ad) (k := 10 + 0) (by omega) hp)
    have hPc := tt_pick hP hCc
    have hDc := hD.sub [7 + 0, 10 + 0] (tt_nd2 (by omega)) hCc
    refine tt_mcallv (va_runV (As := [.int (nI (tt_pos 0 (s1, p1, o1) (L 0)))]) (rest := []) hfix (c_X1_cut l D cI cZ cO cC (ad (7 + 0)) (ad (10 + 0)) 0 (L 0).length f (tt_pos 0 (s1, p1, o1) (L 0)) hj hn _) (cwV 1 hts gX3_removeOne_X1_cut rfl rfl rfl (by decide +kernel) ⟨Nat.le_of_ble_eq_true rfl, Nat.le_of_ble_eq_true rfl⟩) (tt_mpreV (q0 := 0) (ci := 1) hK hPc hDc tt_E.no rfl rfl) rfl rfl hl.1 rfl (lv_room (Nat.le_of_ble_eq_true rfl)) dX3_removeOne_35 ⟨Nat.zero_le _, Nat.zero_le _⟩) hP hD hS hA [7 + 0, 10 + 0] (tt_nd2 (by omega)) hCc (fun _ => rfl) (fun g H locs hg hP hD hS => ?_)
    have hro := tt_RO_del hf (tt_So_nd hs) hj hg
    have hdl := tt_del_len (tt_So_nd hs) hj
    rw [hjt] at hro hdl
    obtain ⟨cx, hR, hP, hD⟩ := tt_aftO (L' := tt_Lz (s1, p1, o1) L (0 + 1)) (m := (L 0).length - 1) hR (by omega) (by rw [tt_Lz_new]; exact hro) (by rw [tt_Lz_new]; exact hdl.symm) (fun k _ h => tt_Lz_ne _ _ _ h) hP hD
    refine lv_iinc (v := 1) (lv' := [(4, .int 1), (0, .ref (ad 0)), (1, .int s1), (2, .int p1), (3, .int o1)]) hx hb dX3_removeOne_38 hl (k := 0) rfl (rfl) (by decide) rfl (fun ls hl => ?_)
    refine lv_goto (tgt := 3) hx hb dX3_removeOne_41 (by decide) ?_
    refine lv_iload hx hb dX3_removeOne_3 (lv_at hl 0 rfl) ?_
    refine lv_aload_n hx hb dX3_removeOne_5 rfl (lv_at hl 1 rfl) ?_
    refine va_get (D := D) (ci := 3) (v := .ref (ad 1)) (C := RX3) (T := TX3) (N := 4) hx hb hts hinX3 hown hK hP 0 (tt_bg (by omega) hR.1) rfl 0 (by decide) hf11 (fun _ h9 => h9) rfl dX3_removeOne_6 ?_
    refine va_alen (v := 3) hx hb hK hP 1 2 (tt_bg (by omega) hR.2.1) rfl rfl dX3_removeOne_9 ?_
    refine lv_icmp_ge (tgt := 44) hx hb dX3_removeOne_10 (by decide) (fun hb10 => ?_) (fun hb10 => ?_)
    · exact absurd hb10 (by decide)
    · obtain ⟨f, ho, hp, hf⟩ := hR.2.2.2.2.1 1 (by omega)
      rw [tt_Lz_at] at ho hf
      obtain ⟨hs, hpm, hn⟩ := hI 1 (by omega)
      obtain ⟨hj, hjt⟩ := tt_pos_mem hs (hpm.mem_iff.mpr hmem)
      refine lv_aload_n hx hb dX3_removeOne_13 rfl (lv_at hl 1 rfl) ?_
      refine va_get (D := D) (ci := 3) (v := .ref (ad 1)) (C := RX3) (T := TX3) (N := 4) hx hb hts hinX3 hown hK hP 0 (tt_bg (by omega) hR.1) rfl 0 (by decide) hf11 (fun _ h9 => h9) rfl dX3_removeOne_14 ?_
      refine lv_iload hx hb dX3_removeOne_17 (lv_at hl 0 rfl) ?_
      refine va_aldq hx hb hK hP 1 2 (tt_bg (by omega) hR.2.1) rfl (vp_in_nI (n := 1) (by omega) (by omega)) dX3_removeOne_19 ?_
      refine tt_rer (show va_rf (some (ad (7 + (nI 1).toNatClampNeg))) = .ref (ad (7 + 1)) from by rw [nI_clamp (by omega)]; rfl) ?_
      refine lv_aload_n hx hb dX3_removeOne_20 rfl (lv_at hl 1 rfl) ?_
      refine va_get (D := D) (ci := 3) (v := .ref (ad 1)) (C := RX3) (T := TX3) (N := 4) hx hb hts hinX3 hown hK hP 0 (tt_bg (by omega) hR.1) rfl 0 (by decide) hf11 (fun _ h9 => h9) rfl dX3_removeOne_21 ?_
      refine lv_iload hx hb dX3_removeOne_24 (lv_at hl 0 rfl) ?_
      refine va_aldq hx hb hK hP 1 2 (tt_bg (by omega) hR.2.1) rfl (vp_in_nI (n := 1) (by omega) (by omega)) dX3_removeOne_26 ?_
      refine tt_rer (show va_rf (some (ad (7 + (nI 1).toNatClampNeg))) = .ref (ad (7 + 1)) from by rw [nI_clamp (by omega)]; rfl) ?_
      refine lv_iconst (v := 3) hx hb dX3_removeOne_27 (by decide) ?_
      refine lv_iload_n hx hb dX3_removeOne_28 rfl (lv_at hl 2 rfl) ?_
      refine lv_iload_n hx hb dX3_removeOne_29 rfl (lv_at hl 3 rfl) ?_
      refine lv_iload_n hx hb dX3_removeOne_30 rfl (lv_at hl 4 rfl) ?_
      refine lv_iconst (v := 0) hx hb dX3_removeOne_31 (by decide) ?_
      have hPc := tt_pick2 hP (tt_bg (n := 21) (k := 7 + 1) (by omega) ho) (tt_bg (n := 21) (k := 10 + 1) (by omega) hp)
      refine tt_calli (va_runV (As := [.int 3, .int s1, .int p1, .int o1, .int 0]) (rest := [.ref (ad (7 + 1))]) hfix (c_X1_placeOf l D cI cZ cO cC (ad (7 + 1)) (ad (10 + 1)) 1 (L 1).length f 3 s1 p1 o1 0 (tt_pos 1 (s1, p1, o1) (L 1)) (by omega) hn (tt_bd_f hf hs 3 _ _ _ 0 (Or.inl rfl))) (cwV 5 hts gX3_removeOne_X1_placeOf rfl rfl rfl (by decide +kernel) ⟨Nat.le_of_ble_eq_true rfl, Nat.le_of_ble_eq_true rfl⟩) (tt_preV (q0 := 0) (ci := 1) hK hPc tt_E.no rfl rfl) rfl rfl hl.1 rfl (lv_room (Nat.le_of_ble_eq_true rfl)) dX3_removeOne_32 ⟨Nat.zero_le _, Nat.zero_le _⟩) hP hS (fun H locs hP hS => ?_)
      have hCc := tt_C2 (tt_bg (n := 21) (ad := ad) (k := 7 + 1) (by omega) ho) (tt_bg (n := 21) (ad := ad) (k := 10 + 1) (by omega) hp)
      have hPc := tt_pick hP hCc
      have hDc := hD.sub [7 + 1, 10 + 1] (tt_nd2 (by omega)) hCc
      refine tt_mcallv (va_runV (As := [.int (nI (tt_pos 1 (s1, p1, o1) (L 1)))]) (rest := []) hfix (c_X1_cut l D cI cZ cO cC (ad (7 + 1)) (ad (10 + 1)) 1 (L 1).length f (tt_pos 1 (s1, p1, o1) (L 1)) hj hn _) (cwV 1 hts gX3_removeOne_X1_cut rfl rfl rfl (by decide +kernel) ⟨Nat.le_of_ble_eq_true rfl, Nat.le_of_ble_eq_true rfl⟩) (tt_mpreV (q0 := 0) (ci := 1) hK hPc hDc tt_E.no rfl rfl) rfl rfl hl.1 rfl (lv_room (Nat.le_of_ble_eq_true rfl)) dX3_removeOne_35 ⟨Nat.zero_le _, Nat.zero_le _⟩) hP hD hS hA [7 + 1, 10 + 1] (tt_nd2 (by omega)) hCc (fun _ => rfl) (fun g H locs hg hP hD hS => ?_)
      have hro := tt_RO_del hf (tt_So_nd hs) hj hg
      have hdl := tt_del_len (tt_So_nd hs) hj
      rw [hjt] at hro hdl
      obtain ⟨cx, hR, hP, hD⟩ := tt_aftO (L' := tt_Lz (s1, p1, o1) L (1 + 1)) (m := (L 1).length - 1) hR (by omega) (by rw [tt_Lz_new]; exact hro) (by rw [tt_Lz_new]; exact hdl.symm) (fun k _ h => tt_Lz_ne _ _ _ h) hP hD
      refine lv_iinc (v := 2) (lv' := [(4, .int 2), (0, .ref (ad 0)), (1, .int s1), (2, .int p1), (3, .int o1)]) hx hb dX3_removeOne_38 hl (k := 0) rfl (rfl) (by decide) rfl (fun ls hl => ?_)
      refine lv_goto (tgt := 3) hx hb dX3_removeOne_41 (by decide) ?_
      refine lv_iload hx hb dX3_removeOne_3 (lv_at hl 0 rfl) ?_
      refine lv_aload_n hx hb dX3_removeOne_5 rfl (lv_at hl 1 rfl) ?_
      refine va_get (D := D) (ci := 3) (v := .ref (ad 1)) (C := RX3) (T := TX3) (N := 4) hx hb hts hinX3 hown hK hP 0 (tt_bg (by omega) hR.1) rfl 0 (by decide) hf11 (fun _ h9 => h9) rfl dX3_removeOne_6 ?_
      refine va_alen (v := 3) hx hb hK hP 1 2 (tt_bg (by omega) hR.2.1) rfl rfl dX3_removeOne_9 ?_
      refine lv_icmp_ge (tgt := 44) hx hb dX3_removeOne_10 (by decide) (fun hb10 => ?_) (fun hb10 => ?_)
      · exact absurd hb10 (by decide)
      · obtain ⟨f, ho, hp, hf⟩ := hR.2.2.2.2.1 2 (by omega)
        rw [tt_Lz_at] at ho hf
        obtain ⟨hs, hpm, hn⟩ := hI 2 (by omega)
        obtain ⟨hj, hjt⟩ := tt_pos_mem hs (hpm.mem_iff.mpr hmem)
        refine lv_aload_n hx hb dX3_removeOne_13 rfl (lv_at hl 1 rfl) ?_
        refine va_get (D := D) (ci := 3) (v := .ref (ad 1)) (C := RX3) (T := TX3) (N := 4) hx hb hts hinX3 hown hK hP 0 (tt_bg (by omega) hR.1) rfl 0 (by decide) hf11 (fun _ h9 => h9) rfl dX3_removeOne_14 ?_
        refine lv_iload hx hb dX3_removeOne_17 (lv_at hl 0 rfl) ?_
        refine va_aldq hx hb hK hP 1 2 (tt_bg (by omega) hR.2.1) rfl (vp_in_nI (n := 2) (by omega) (by omega)) dX3_removeOne_19 ?_
        refine tt_rer (show va_rf (some (ad (7 + (nI 2).toNatClampNeg))) = .ref (ad (7 + 2)) from by rw [nI_clamp (by omega)]; rfl) ?_
        refine lv_aload_n hx hb dX3_removeOne_20 rfl (lv_at hl 1 rfl) ?_
        refine va_get (D := D) (ci := 3) (v := .ref (ad 1)) (C := RX3) (T := TX3) (N := 4) hx hb hts hinX3 hown hK hP 0 (tt_bg (by omega) hR.1) rfl 0 (by decide) hf11 (fun _ h9 => h9) rfl dX3_removeOne_21 ?_
        refine lv_iload hx hb dX3_removeOne_24 (lv_at hl 0 rfl) ?_
        refine va_aldq hx hb hK hP 1 2 (tt_bg (by omega) hR.2.1) rfl (vp_in_nI (n := 2) (by omega) (by omega)) dX3_removeOne_26 ?_
        refine tt_rer (show va_rf (some (ad (7 + (nI 2).toNatClampNeg))) = .ref (ad (7 + 2)) from by rw [nI_clamp (by omega)]; rfl) ?_
        refine lv_iconst (v := 3) hx hb dX3_removeOne_27 (by decide) ?_
        refine lv_iload_n hx hb dX3_removeOne_28 rfl (lv_at hl 2 rfl) ?_
        refine lv_iload_n hx hb dX3_removeOne_29 rfl (lv_at hl 3 rfl) ?_
        refine lv_iload_n hx hb dX3_removeOne_30 rfl (lv_at hl 4 rfl) ?_
        refine lv_iconst (v := 0) hx hb dX3_removeOne_31 (by decide) ?_
        have hPc := tt_pick2 hP (tt_bg (n := 21) (k := 7 + 2) (by omega) ho) (tt_bg (n := 21) (k := 10 + 2) (by omega) hp)
        refine tt_calli (va_runV (As := [.int 3, .int s1, .int p1, .int o1, .int 0]) (rest := [.ref (ad (7 + 2))]) hfix (c_X1_placeOf l D cI cZ cO cC (ad (7 + 2)) (ad (10 + 2)) 2 (L 2).length f 3 s1 p1 o1 0 (tt_pos 2 (s1, p1, o1) (L 2)) (by omega) hn (tt_bd_f hf hs 3 _ _ _ 0 (Or.inl rfl))) (cwV 5 hts gX3_removeOne_X1_placeOf rfl rfl rfl (by decide +kernel) ⟨Nat.le_of_ble_eq_true rfl, Nat.le_of_ble_eq_true rfl⟩) (tt_preV (q0 := 0) (ci := 1) hK hPc tt_E.no rfl rfl) rfl rfl hl.1 rfl (lv_room (Nat.le_of_ble_eq_true rfl)) dX3_removeOne_32 ⟨Nat.zero_le _, Nat.zero_le _⟩) hP hS (fun H locs hP hS => ?_)
        have hCc := tt_C2 (tt_bg (n := 21) (ad := ad) (k := 7 + 2) (by omega) ho) (tt_bg (n := 21) (ad := ad) (k := 10 + 2) (by omega) hp)
        have hPc := tt_pick hP hCc
        have hDc := hD.sub [7 + 2, 10 + 2] (tt_nd2 (by omega)) hCc
        refine tt_mcallv (va_runV (As := [.int (nI (tt_pos 2 (s1, p1, o1) (L 2)))]) (rest := []) hfix (c_X1_cut l D cI cZ cO cC (ad (7 + 2)) (ad (10 + 2)) 2 (L 2).length f (tt_pos 2 (s1, p1, o1) (L 2)) hj hn _) (cwV 1 hts gX3_removeOne_X1_cut rfl rfl rfl (by decide +kernel) ⟨Nat.le_of_ble_eq_true rfl, Nat.le_of_ble_eq_true rfl⟩) (tt_mpreV (q0 := 0) (ci := 1) hK hPc hDc tt_E.no rfl rfl) rfl rfl hl.1 rfl (lv_room (Nat.le_of_ble_eq_true rfl)) dX3_removeOne_35 ⟨Nat.zero_le _, Nat.zero_le _⟩) hP hD hS hA [7 + 2, 10 + 2] (tt_nd2 (by omega)) hCc (fun _ => rfl) (fun g H locs hg hP hD hS => ?_)
        have hro := tt_RO_del hf (tt_So_nd hs) hj hg
        have hdl := tt_del_len (tt_So_nd hs) hj
        rw [hjt] at hro hdl
        obtain ⟨cx, hR, hP, hD⟩ := tt_aftO (L' := tt_Lz (s1, p1, o1) L (2 + 1)) (m := (L 2).length - 1) hR (by omega) (by rw [tt_Lz_new]; exact hro) (by rw [tt_Lz_new]; exact hdl.symm) (fun k _ h => tt_Lz_ne _ _ _ h) hP hD
        refine lv_iinc (v := 3) (lv' := [(4, .int 3), (0, .ref (ad 0)), (1, .int s1), (2, .int p1), (3, .int o1)]) hx hb dX3_removeOne_38 hl (k := 0) rfl (rfl) (by decide) rfl (fun ls hl => ?_)
        refine lv_goto (tgt := 3) hx hb dX3_removeOne_41 (by decide) ?_
        refine lv_iload hx hb dX3_removeOne_3 (lv_at hl 0 rfl) ?_
        refine lv_aload_n hx hb dX3_removeOne_5 rfl (lv_at hl 1 rfl) ?_
        refine va_get (D := D) (ci := 3) (v := .ref (ad 1)) (C := RX3) (T := TX3) (N := 4) hx hb hts hinX3 hown hK hP 0 (tt_bg (by omega) hR.1) rfl 0 (by decide) hf11 (fun _ h9 => h9) rfl dX3_removeOne_6 ?_
        refine va_alen (v := 3) hx hb hK hP 1 2 (tt_bg (by omega) hR.2.1) rfl rfl dX3_removeOne_9 ?_
        refine lv_icmp_ge (tgt := 44) hx hb dX3_removeOne_10 (by decide) (fun hb10 => ?_) (fun hb10 => ?_)
        · refine lv_aload_n hx hb dX3_removeOne_44 rfl (lv_at hl 1 rfl) ?_
          refine lv_dup hx hb dX3_removeOne_45 rfl ?_
          refine va_get (D := D) (ci := 3) (v := .int (nI ch)) (C := RX3) (T := TX3) (N := 4) hx hb hts hinX3 hown hK hP 0 (tt_bg (by omega) hR.1) rfl 3 (by decide) hf44 (fun _ h9 => h9) rfl dX3_removeOne_46 ?_
          refine lv_iconst (v := 1) hx hb dX3_removeOne_49 (by decide) ?_
          refine lv_iadd hx hb dX3_removeOne_50 ?_
          refine tt_rei (show ((nI ch) + 1) = nI (ch + 1) from nI_add ch 1) ?_
          refine va_put (D := D) (ci := 3) (v := .int (nI (ch + 1))) (ty := .int) (C := RX3) (T := TX3) (N := 4) hx hb hts hinX3 tyX3 tyX3_ok nmX3 hown hK hP hD hS 0 (tt_bg (by omega) hR.1) rfl 3 (by decide) hf44 (fun _ h9 => h9) rfl (by decide +kernel) rfl rfl (Nat.le_of_ble_eq_true rfl) dX3_removeOne_51 (fun H locs hP hD hS => ?_)
          obtain ⟨cx, hR, hP, hD⟩ : ∃ g : Nat → va_E, tt_R cI cZ cO cC ad g (tt_Lz (s1, p1, o1) L (2 + 1)) (ch + 1) C ∧ va_P D vwCl (tt_blk 21 ad g) H ∧ va_D A (tt_blk 21 ad g) := ⟨_, hR.setH (ch + 1), by rw [← tt_bset]; exact hP, by rw [← tt_bset]; exact hD⟩
          exact kr _ _ _ _ cx (hR.congr (fun k hk => (if_pos hk).symm)) hP hS dX3_removeOne_54
        · exact absurd (by decide) hb10
set_option maxHeartbeats 4000000 in
set_option maxRecDepth 100000 in
theorem c_X3_removeMatching (l : Launch) (D : va_G) (cI cZ cO cC : ClassId) (ad : Nat → Nat) (cx : Nat → va_E) (L : Nat → List tt_T3) (ch : Nat) (C : Nat → tt_CU) (hR : tt_R cI cZ cO cC ad cx L ch C) (mk : Nat) (s1 p1 o1 : Int32) (hm : mk < 8) (hI : tt_I L) : tt_Muti (S := (Nat → va_E)) l yX3_removeMatching wsX3_removeMatching ({ frames := 4, cells := 0, slots := 0, locals := 104 } : Room) D (tt_tys cI cZ cO cC) true (tt_blk 21 ad cx) [.ref (ad 0), .int (nI mk), .int s1, .int p1, .int o1] (fun r u => r = nI (tt_mn mk s1 p1 o1 L) ∧ tt_R cI cZ cO cC ad u (tt_Lr mk s1 p1 o1 L) (ch + tt_mn mk s1 p1 o1 L) C) (fun u => tt_blk 21 ad u) := by
  refine tt_muti (cc := cX3_removeMatching) (maxL := 9) (rt := .int) (by decide) rfl (fun _ _ _ => rfl) (Nat.le_of_ble_eq_true rfl) ?_
  intro p e s m below meth c Q ls A hfix hK hP hD hA hE hl kr
  obtain ⟨hx, hb, hml, hown, hts⟩ := id hfix
  have hown : s.vm.findClass RX3 = some m.cls := hown
  have hfix : CallFix p m c cX3_removeMatching 9 s ([.ref (ad 0), .int (nI mk), .int s1, .int p1, .int o1] : List Value).toArray wsX3_removeMatching RX3 := hfix
  have hl : lv_has ls 9 [(0, .ref (ad 0)), (1, .int (nI mk)), (2, .int s1), (3, .int p1), (4, .int o1)] := hl
  have hf11 := hts (.fieldLink RX3 11 "TripleTrees" "orders" "[LTripleTrees$Order;") (by decide +kernel)
  have hf64 := hts (.fieldLink RX3 64 "TripleTrees" "ORDER_OF_MASK" "[I") (by decide +kernel)
  have hinX3 : ∀ w ∈ u_ws RX3 TX3 4, w ∈ wsX3_removeMatching := by decide +kernel
  have hS : va_S A s.heap s.heap [] := va_S.rf
  obtain ⟨⟨tb, hZ, hTb⟩, hNN⟩ := id (hE rfl)
  have hk := tt_o_lt mk
  have hse := tt_st_en mk s1 p1 o1 L
  have hel := tt_en_le mk s1 p1 o1 hI
  have loop : ∀ (d : Nat) (cx : Nat → va_E) (Lc : Nat → List tt_T3), (tt_st mk s1 p1 o1 L + d ≤ tt_en mk s1 p1 o1 L) → (tt_RM mk s1 p1 o1 L d Lc) → (tt_R cI cZ cO cC ad cx Lc (ch + (tt_en mk s1 p1 o1 L - tt_st mk s1 p1 o1 L - d)) C) → ∀ (H : Heap) (locs : List Loc) (ls : Array Slot), va_P D vwCl (tt_blk 21 ad cx) H → va_D A (tt_blk 21 ad cx) → va_S A s.heap H locs → lv_has ls 9 [(8, .int (nI (tt_st mk s1 p1 o1 L + d) - 1)), (7, .int (nI (tt_en mk s1 p1 o1 L))), (6, .int (nI (tt_st mk s1 p1 o1 L))), (5, .ref (ad (7 + (tt_o mk)))), (0, .ref (ad 0)), (1, .int (nI mk)), (2, .int s1), (3, .int p1), (4, .int o1)] → W p l e ({ frames := 4, cells := 0, slots := 0, locals := 104 } : Room) s m ([.ref (ad 0), .int (nI mk), .int s1, .int p1, .int o1] : List Value).toArray below meth c H locs 0 0 Q (F0 m 40 ls []) := by
    intro d
    induction d with
    | zero =>
      intro cx Lc hd hM hR H locs ls hP hD hS hl
      refine lv_iload hx hb dX3_removeMatching_40 (lv_at hl 0 rfl) ?_
      refine lv_iload hx hb dX3_removeMatching_42 (lv_at hl 2 rfl) ?_
      refine lv_icmp_lt (tgt := 81) hx hb dX3_removeMatching_44 (by decide) (fun hb44 => ?_) (fun hb44 => ?_)
      · refine lv_iload hx hb dX3_removeMatching_81 (lv_at hl 1 rfl) ?_
        refine lv_iload hx hb dX3_removeMatching_83 (lv_at hl 2 rfl) ?_
        refine lv_isub hx hb dX3_removeMatching_85 ?_
        refine tt_rei (show ((nI (tt_en mk s1 p1 o1 L)) - (nI (tt_st mk s1 p1 o1 L))) = nI (tt_en mk s1 p1 o1 L - (tt_st mk s1 p1 o1 L)) from pk_sub (a := tt_en mk s1 p1 o1 L) (b := tt_st mk s1 p1 o1 L) (by omega)) ?_
        have hrm := tt_RM_e hm s1 p1 o1 hI hM
        have hR := hR.congr (L' := tt_Lr mk s1 p1 o1 L) (fun k hk => (hrm k hk).symm)
        rw [show tt_en mk s1 p1 o1 L - tt_st mk s1 p1 o1 L - 0 = tt_mn mk s1 p1 o1 L from rfl] at hR
        exact kr _ _ _ _ _ cx ⟨rfl, hR⟩ hP hS dX3_removeMatching_86
      · exact absurd (tt_pred_lt (by omega)) hb44
    | succ d ih =>
      intro cx Lc hd hM hR H locs ls hP hD hS hl
      rw [show nI (tt_st mk s1 p1 o1 L + (d + 1)) - 1 = nI (tt_st mk s1 p1 o1 L + d) from nI_pred _] at hl
      obtain ⟨hgt, hlt, hmem, hM1, hIc⟩ := tt_RM_s hM
      obtain ⟨f, ho, hp, hf⟩ := hR.2.2.2.2.1 _ hk
      have hlc := (hIc _ hk).2.2
      refine lv_iload hx hb dX3_removeMatching_40 (lv_at hl 0 rfl) ?_
      refine lv_iload hx hb dX3_removeMatching_42 (lv_at hl 2 rfl) ?_
      refine lv_icmp_lt (tgt := 81) hx hb dX3_removeMatching_44 (by decide) (fun hb44 => ?_) (fun hb44 => ?_)
      · have hb44 : tt_st mk s1 p1 o1 L + d < tt_st mk s1 p1 o1 L := (nI_ltI (a := tt_st mk s1 p1 o1 L + d) (b := tt_st mk s1 p1 o1 L) (by omega) (by omega)).mp hb44
        exact absurd hb44 (by omega)
      · have hb44 : ¬ tt_st mk s1 p1 o1 L + d < tt_st mk s1 p1 o1 L := fun hz9 => hb44 ((nI_ltI (a := tt_st mk s1 p1 o1 L + d) (b := tt_st mk s1 p1 o1 L) (by omega) (by omega)).mpr hz9)
        refine lv_aload_n hx hb dX3_removeMatching_47 rfl (lv_at hl 4 rfl) ?_
        refine lv_aload hx hb dX3_removeMatching_48 (lv_at hl 3 rfl) ?_
        refine lv_iload hx hb dX3_removeMatching_50 (lv_at hl 0 rfl) ?_
        refine lv_iconst (v := 0) hx hb dX3_removeMatching_52 (by decide) ?_
        have hPc := tt_pick2 hP (tt_bg (n := 21) (k := 7 + (tt_o mk)) (by omega) ho) (tt_bg (n := 21) (k := 10 + (tt_o mk)) (by omega) hp)
        refine tt_calli (va_runV (As := [.int (nI (tt_st mk s1 p1 o1 L + d)), .int 0]) (rest := [.ref (ad 0)]) hfix (c_X1_partAt l D cI cZ cO cC (ad (7 + (tt_o mk))) (ad (10 + (tt_o mk))) (tt_o mk) (Lc (tt_o mk)).length f (nI (tt_st mk s1 p1 o1 L + d)) 0 hk hlc) (cwV 2 hts gX3_removeMatching_X1_partAt rfl rfl rfl (by decide +kernel) ⟨Nat.le_of_ble_eq_true rfl, Nat.le_of_ble_eq_true rfl⟩) (tt_preV (q0 := 0) (ci := 1) hK hPc tt_E.no rfl rfl) rfl rfl hl.1 rfl (lv_room (Nat.le_of_ble_eq_true rfl)) dX3_removeMatching_53 ⟨Nat.zero_le _, Nat.zero_le _⟩) hP hS (fun H locs hP hS => ?_)
        refine tt_rei (show (tt_pa (Lc (tt_o mk)).length (tt_o mk) f (nI (tt_st mk s1 p1 o1 L + d)) 0) = tt_pp 0 (tt_gt (L (tt_o mk)) (tt_st mk s1 p1 o1 L + d)) from (tt_pa_pp (t := 0) hf hk hlc hlt (by omega)).trans (congrArg (tt_pp 0) hgt)) ?_
        refine lv_aload hx hb dX3_removeMatching_56 (lv_at hl 3 rfl) ?_
        refine lv_iload hx hb dX3_removeMatching_58 (lv_at hl 0 rfl) ?_
        refine lv_iconst (v := 1) hx hb dX3_removeMatching_60 (by decide) ?_
        have hPc := tt_pick2 hP (tt_bg (n := 21) (k := 7 + (tt_o mk)) (by omega) ho) (tt_bg (n := 21) (k := 10 + (tt_o mk)) (by omega) hp)
        refine tt_calli (va_runV (As := [.int (nI (tt_st mk s1 p1 o1 L + d)), .int 1]) (rest := [.int (tt_pp 0 (tt_gt (L (tt_o mk)) (tt_st mk s1 p1 o1 L + d))), .ref (ad 0)]) hfix (c_X1_partAt l D cI cZ cO cC (ad (7 + (tt_o mk))) (ad (10 + (tt_o mk))) (tt_o mk) (Lc (tt_o mk)).length f (nI (tt_st mk s1 p1 o1 L + d)) 1 hk hlc) (cwV 2 hts gX3_removeMatching_X1_partAt rfl rfl rfl (by decide +kernel) ⟨Nat.le_of_ble_eq_true rfl, Nat.le_of_ble_eq_true rfl⟩) (tt_preV (q0 := 0) (ci := 1) hK hPc tt_E.no rfl rfl) rfl rfl hl.1 rfl (lv_room (Nat.le_of_ble_eq_true rfl)) dX3_removeMatching_61 ⟨Nat.zero_le _, Nat.zero_le _⟩) hP hS (fun H locs hP hS => ?_)
        refine tt_rei (show (tt_pa (Lc (tt_o mk)).length (tt_o mk) f (nI (tt_st mk s1 p1 o1 L + d)) 1) = tt_pp 1 (tt_gt (L (tt_o mk)) (tt_st mk s1 p1 o1 L + d)) from (tt_pa_pp (t := 1) hf hk hlc hlt (by omega)).trans (congrArg (tt_pp 1) hgt)) ?_
        refine lv_aload hx hb dX3_removeMatching_64 (lv_at hl 3 rfl) ?_
        refine lv_iload hx hb dX3_removeMatching_66 (lv_at hl 0 rfl) ?_
        refine lv_iconst (v := 2) hx hb dX3_removeMatching_68 (by decide) ?_
        have hPc := tt_pick2 hP (tt_bg (n := 21) (k := 7 + (tt_o mk)) (by omega) ho) (tt_bg (n := 21) (k := 10 + (tt_o mk)) (by omega) hp)
        refine tt_calli (va_runV (As := [.int (nI (tt_st mk s1 p1 o1 L + d)), .int 2]) (rest := [.int (tt_pp 1 (tt_gt (L (tt_o mk)) (tt_st mk s1 p1 o1 L + d))), .int (tt_pp 0 (tt_gt (L (tt_o mk)) (tt_st mk s1 p1 o1 L + d))), .ref (ad 0)]) hfix (c_X1_partAt l D cI cZ cO cC (ad (7 + (tt_o mk))) (ad (10 + (tt_o mk))) (tt_o mk) (Lc (tt_o mk)).length f (nI (tt_st mk s1 p1 o1 L + d)) 2 hk hlc) (cwV 2 hts gX3_removeMatching_X1_partAt rfl rfl rfl (by decide +kernel) ⟨Nat.le_of_ble_eq_true rfl, Nat.le_of_ble_eq_true rfl⟩) (tt_preV (q0 := 0) (ci := 1) hK hPc tt_E.no rfl rfl) rfl rfl hl.1 rfl (lv_room (Nat.le_of_ble_eq_true rfl)) dX3_removeMatching_69 ⟨Nat.zero_le _, Nat.zero_le _⟩) hP hS (fun H locs hP hS => ?_)
        refine tt_rei (show (tt_pa (Lc (tt_o mk)).length (tt_o mk) f (nI (tt_st mk s1 p1 o1 L + d)) 2) = tt_pp 2 (tt_gt (L (tt_o mk)) (tt_st mk s1 p1 o1 L + d)) from (tt_pa_pp (t := 2) hf hk hlc hlt (by omega)).trans (congrArg (tt_pp 2) hgt)) ?_
        refine tt_fullv (va_runV (As := [.int (tt_pp 0 (tt_gt (L (tt_o mk)) (tt_st mk s1 p1 o1 L + d))), .int (tt_pp 1 (tt_gt (L (tt_o mk)) (tt_st mk s1 p1 o1 L + d))), .int (tt_pp 2 (tt_gt (L (tt_o mk)) (tt_st mk s1 p1 o1 L + d)))]) (rest := []) hfix (c_X3_removeOne l D cI cZ cO cC ad cx Lc (ch + (tt_en mk s1 p1 o1 L - tt_st mk s1 p1 o1 L - (d + 1))) C hR (tt_pp 0 (tt_gt (L (tt_o mk)) (tt_st mk s1 p1 o1 L + d))) (tt_pp 1 (tt_gt (L (tt_o mk)) (tt_st mk s1 p1 o1 L + d))) (tt_pp 2 (tt_gt (L (tt_o mk)) (tt_st mk s1 p1 o1 L + d))) hIc hmem _) (cwV 3 hts gX3_removeMatching_X3_removeOne rfl rfl rfl (by decide +kernel) ⟨Nat.le_of_ble_eq_true rfl, Nat.le_of_ble_eq_true rfl⟩) (tt_mpreV (q0 := 0) (ci := 3) hK hP hD ((hE.at hS).narrow (tt_freeF hD hS hA)) (tt_bg (by omega) hR.1) rfl) rfl rfl hl.1 rfl (lv_room (Nat.le_of_ble_eq_true rfl)) dX3_removeMatching_72 ⟨Nat.zero_le _, Nat.zero_le _⟩) hD hS hA (fun cx H locs hR hP hD hS => ?_)
        refine lv_iinc (v := nI (tt_st mk s1 p1 o1 L + d) - 1) (lv' := [(8, .int (nI (tt_st mk s1 p1 o1 L + d) - 1)), (7, .int (nI (tt_en mk s1 p1 o1 L))), (6, .int (nI (tt_st mk s1 p1 o1 L))), (5, .ref (ad (7 + (tt_o mk)))), (0, .ref (ad 0)), (1, .int (nI mk)), (2, .int s1), (3, .int p1), (4, .int o1)]) hx hb dX3_removeMatching_75 hl (k := 0) rfl (tt_dec _) (by decide) rfl (fun ls hl => ?_)
        refine lv_goto (tgt := 40) hx hb dX3_removeMatching_78 (by decide) ?_
        rw [show ch + (tt_en mk s1 p1 o1 L - tt_st mk s1 p1 o1 L - (d + 1)) + 1 = ch + (tt_en mk s1 p1 o1 L - tt_st mk s1 p1 o1 L - d) by omega] at hR
        exact ih cx _ (by omega) (hM1 (by omega)) hR H locs ls hP hD hS (lv_sub hl [0, 1, 2, 3, 4, 5, 6, 7, 8] rfl)
  refine lv_aload_n hx hb dX3_removeMatching_0 rfl (lv_at hl 0 rfl) ?_
  refine va_get (D := D) (ci := 3) (v := .ref (ad 1)) (C := RX3) (T := TX3) (N := 4) hx hb hts hinX3 hown hK hP 0 (tt_bg (by omega) hR.1) rfl 0 (by decide) hf11 (fun _ h9 => h9) rfl dX3_removeMatching_1 ?_
  refine va_gets hx hb hZ hS hown hf64 (fun _ h9 => h9) dX3_removeMatching_4 ?_
  refine lv_iload_n hx hb dX3_removeMatching_7 rfl (lv_at hl 1 rfl) ?_
  refine va_ti (v := .int (nI (tt_o mk))) hx hb hTb hS (vp_in_nI (n := mk) (by omega) (by omega)) (tt_om_at (by omega)) dX3_removeMatching_8 ?_
  refine va_aldq hx hb hK hP 1 2 (tt_bg (by omega) hR.2.1) rfl (vp_in_nI (n := tt_o mk) (by omega) (by omega)) dX3_removeMatching_9 ?_
  refine tt_rer (show va_rf (some (ad (7 + (nI (tt_o mk)).toNatClampNeg))) = .ref (ad (7 + (tt_o mk))) from by rw [nI_clamp (by omega)]; rfl) ?_
  refine lv_astore (lv' := [(5, .ref (ad (7 + (tt_o mk)))), (0, .ref (ad 0)), (1, .int (nI mk)), (2, .int s1), (3, .int p1), (4, .int o1)]) hx hb dX3_removeMatching_10 hl (by decide) rfl (fun ls hl => ?_)
  refine lv_aload_n hx hb dX3_removeMatching_12 rfl (lv_at hl 1 rfl) ?_
  refine lv_iload_n hx hb dX3_removeMatching_13 rfl (lv_at hl 2 rfl) ?_
  refine lv_iload_n hx hb dX3_removeMatching_14 rfl (lv_at hl 3 rfl) ?_
  refine lv_iload_n hx hb dX3_removeMatching_15 rfl (lv_at hl 4 rfl) ?_
  refine lv_iload hx hb dX3_removeMatching_16 (lv_at hl 5 rfl) ?_
  have hPc := hP
  refine tt_calli (va_runV (As := [.int (nI mk), .int s1, .int p1, .int o1]) (rest := []) hfix (c_X3_startOf l D cI cZ cO cC ad cx L ch C hR mk s1 p1 o1 hm hI) (cwV 4 hts gX3_removeMatching_X3_startOf rfl rfl rfl (by decide +kernel) ⟨Nat.le_of_ble_eq_true rfl, Nat.le_of_ble_eq_true rfl⟩) (tt_preV (q0 := 0) (ci := 3) hK hPc ((hE.at hS).narrow (fun _ h => h.elim)) (tt_bg (by omega) hR.1) rfl) rfl rfl hl.1 rfl (lv_room (Nat.le_of_ble_eq_true rfl)) dX3_removeMatching_18 ⟨Nat.zero_le _, Nat.zero_le _⟩) hP hS (fun H locs hP hS => ?_)
  refine lv_istore (lv' := [(6, .int (nI (tt_st mk s1 p1 o1 L))), (5, .ref (ad (7 + (tt_o mk)))), (0, .ref (ad 0)), (1, .int (nI mk)), (2, .int s1), (3, .int p1), (4, .int o1)]) hx hb dX3_removeMatching_21 hl (by decide) rfl (fun ls hl => ?_)
  refine lv_aload_n hx hb dX3_removeMatching_23 rfl (lv_at hl 2 rfl) ?_
  refine lv_iload_n hx hb dX3_removeMatching_24 rfl (lv_at hl 3 rfl) ?_
  refine lv_iload_n hx hb dX3_removeMatching_25 rfl (lv_at hl 4 rfl) ?_
  refine lv_iload_n hx hb dX3_removeMatching_26 rfl (lv_at hl 5 rfl) ?_
  refine lv_iload hx hb dX3_removeMatching_27 (lv_at hl 6 rfl) ?_
  have hPc := hP
  refine tt_calli (va_runV (As := [.int (nI mk), .int s1, .int p1, .int o1]) (rest := []) hfix (c_X3_endOf l D cI cZ cO cC ad cx L ch C hR mk s1 p1 o1 hm hI) (cwV 4 hts gX3_removeMatching_X3_endOf rfl rfl rfl (by decide +kernel) ⟨Nat.le_of_ble_eq_true rfl, Nat.le_of_ble_eq_true rfl⟩) (tt_preV (q0 := 0) (ci := 3) hK hPc ((hE.at hS).narrow (fun _ h => h.elim)) (tt_bg (by omega) hR.1) rfl) rfl rfl hl.1 rfl (lv_room (Nat.le_of_ble_eq_true rfl)) dX3_removeMatching_29 ⟨Nat.zero_le _, Nat.zero_le _⟩) hP hS (fun H locs hP hS => ?_)
  refine lv_istore (lv' := [(7, .int (nI (tt_en mk s1 p1 o1 L))), (6, .int (nI (tt_st mk s1 p1 o1 L))), (5, .ref (ad (7 + (tt_o mk)))), (0, .ref (ad 0)), (1, .int (nI mk)), (2, .int s1), (3, .int p1), (4, .int o1)]) hx hb dX3_removeMatching_32 hl (by decide) rfl (fun ls hl => ?_)
  refine lv_iload hx hb dX3_removeMatching_34 (lv_at hl 0 rfl) ?_
  refine lv_iconst (v := 1) hx hb dX3_removeMatching_36 (by decide) ?_
  refine lv_isub hx hb dX3_removeMatching_37 ?_
  refine lv_istore (lv' := [(8, .int ((nI (tt_en mk s1 p1 o1 L)) - 1)), (7, .int (nI (tt_en mk s1 p1 o1 L))), (6, .int (nI (tt_st mk s1 p1 o1 L))), (5, .ref (ad (7 + (tt_o mk)))), (0, .ref (ad 0)), (1, .int (nI mk)), (2, .int s1), (3, .int p1), (4, .int o1)]) hx hb dX3_removeMatching_38 hl (by decide) rfl (fun ls hl => ?_)
  have hl := lv_sub hl (l' := [(8, .int (nI (tt_en mk s1 p1 o1 L) - 1)), (7, .int (nI (tt_en mk s1 p1 o1 L))), (6, .int (nI (tt_st mk s1 p1 o1 L))), (5, .ref (ad (7 + (tt_o mk)))), (0, .ref (ad 0)), (1, .int (nI mk)), (2, .int s1), (3, .int p1), (4, .int o1)]) [0, 1, 2, 3, 4, 5, 6, 7, 8] rfl
  rw [show nI (tt_en mk s1 p1 o1 L) - 1 = nI (tt_st mk s1 p1 o1 L + (tt_en mk s1 p1 o1 L - tt_st mk s1 p1 o1 L)) - 1 by rw [Nat.add_sub_cancel' hse]] at hl
  exact loop (tt_en mk s1 p1 o1 L - tt_st mk s1 p1 o1 L) cx L (by omega) (tt_RM_0 mk s1 p1 o1 hI) (by rw [Nat.sub_self]; exact hR) _ _ ls hP hD hS hl

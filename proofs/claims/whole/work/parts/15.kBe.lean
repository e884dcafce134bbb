set_option maxHeartbeats 4000000 in
set_option maxRecDepth 100000 in
theorem k_done (l : Launch) (hl9 : l.stackTraces = false) (D : va_G) (ad : Nat → Nat) (kk : Nat → ClassId) (sz : Nat) (σ : St) (p1 : Int32) (p2 : Int32) (p3 : Int32) (p4 : Int32) (p5 : Int32) (hI : IB σ) : vx_Met l yX4_done wsX4_done { frames := 8, cells := 6, slots := 36, locals := 132 } (va_Pc [.ref (ad 0), .int p1, .int p2, .int p3, .int p4, .int p5] (PB D ad kk sz σ)) (va_Qi (fun r u => .ok (r, u) = M_done σ p1 p2 p3 p4 p5) (QB D ad kk sz) (aL 96 ad sz)) (XB (M_done σ p1 p2 p3 p4 p5) D ad kk sz σ) 6 36 (aL 96 ad sz) := by
  refine vx_ofW (cc := cX4_done) (maxL := 9) (ret := (some .int)) (by decide) rfl ?_
  intro p e s m args below meth c s₁ B hml hEx hv
  obtain ⟨rfl, hsz, hP, hK, hD0, hE⟩ := hv
  have hx := B.exec
  have hb := B.bytes
  have hr := B.returns
  have hts := atoms_spec (ws := wsX4_done) B.pre
  have hown : s.vm.findClass RX4 = some m.cls := findClass_of_methodNamed B.named
  have hlocks := B.notSynchronized
  subst hsz
  have hD : va_D (aL 96 ad s.heap.size) (wB ad kk σ) := aL_D hD0
  have hS : va_S (aL 96 ad s.heap.size) s.heap s.heap [] := va_S.rf
  have hl := lv_entry ([.ref (ad 0), .int p1, .int p2, .int p3, .int p4, .int p5]) (n := 9) (Nat.le_of_ble_eq_true rfl)
  rw [lg_entry_eq]
  generalize (lg_sl ([.ref (ad 0), .int p1, .int p2, .int p3, .int p4, .int p5]) ++ List.replicate (9 - (lg_sl ([.ref (ad 0), .int p1, .int p2, .int p3, .int p4, .int p5])).length) Slot.unset).toArray = ls at hl ⊢
  have hl : lv_has ls 9 [(0, .ref (ad 0)), (1, .int p1), (2, .int p2), (3, .int p3), (4, .int p4), (5, .int p5)] := hl
  have CF : CallFix p m c cX4_done 9 s ([.ref (ad 0), .int p1, .int p2, .int p3, .int p4, .int p5] : List Value).toArray wsX4_done RX4 := ⟨hx, hb, hml, hown, hts⟩
  have ht : ∀ w ∈ T0, w.before ([.ref (ad 0), .int p1, .int p2, .int p3, .int p4, .int p5] : List Value).toArray s = true := fun w h => hts w (List.mem_cons_of_mem _ h)
  generalize hT : M_done σ p1 p2 p3 p4 p5 = T
  rw [M_done] at hT
  refine lv_aload_n hx hb dX4_done_0 rfl (lv_at hl 0 rfl) ?_
  refine lv_iload_n hx hb dX4_done_1 rfl (lv_at hl 1 rfl) ?_
  refine kX_q (vx_runV (As := [.int p1]) (rest := []) CF (k_pieceAt l hl9 D ad kk _ σ p1 hI) ⟨callB_of 1 hts (gT mw_386) rfl rfl rfl (ht _ mw_1) (ht _ mw_383) (by decide +kernel) ⟨Nat.le_of_ble_eq_true rfl, Nat.le_of_ble_eq_true rfl⟩, (ht _ mw_385), (ht _ ms_10)⟩ (preV_B hK hP hD hE hS (ci := 4) rfl rfl g_MB) rfl rfl hl.1 rfl (lv_room (Nat.le_of_ble_eq_true rfl)) dX4_done_2 ⟨Nat.le_of_ble_eq_true rfl, Nat.le_of_ble_eq_true rfl⟩) hS hEx hlocks (by decide) (by decide) (fun E h => by rw [← h, xb_er] at hT; exact hT) (fun r1 u9 H locs hw hP hD hS => ?_)
  obtain ⟨r1, rfl, h_r1, e9⟩ := hw
  rw [e9] at hP hD
  have hi_r1 : r1 < 10 := (pAt_lt hI h_r1)
  refine W.eq (g2 := F0 m 5 ls (.ref (ad (pPi r1)) :: [])) rfl ?_
  rw [← h_r1, xb_ok] at hT
  refine lv_astore (lv' := [(6, .ref (ad (pPi r1))), (0, .ref (ad 0)), (1, .int p1), (2, .int p2), (3, .int p3), (4, .int p4), (5, .int p5)]) hx hb dX4_done_5 hl (by decide) rfl (fun ls hl => ?_)
  refine lv_aload_n hx hb dX4_done_7 rfl (lv_at hl 1 rfl) ?_
  refine lv_iload_n hx hb dX4_done_8 rfl (lv_at hl 3 rfl) ?_
  refine kX_q (vx_runV (As := [.int p2]) (rest := []) CF (k_methodAt l hl9 D ad kk _ σ p2 hI) ⟨callB_of 1 hts (gT mw_348) rfl rfl rfl (ht _ mw_1) (ht _ mw_345) (by decide +kernel) ⟨Nat.le_of_ble_eq_true rfl, Nat.le_of_ble_eq_true rfl⟩, (ht _ mw_347), (ht _ ms_9)⟩ (preV_B hK hP hD hE hS (ci := 4) rfl rfl g_MB) rfl rfl hl.1 rfl (lv_room (Nat.le_of_ble_eq_true rfl)) dX4_done_9 ⟨Nat.le_of_ble_eq_true rfl, Nat.le_of_ble_eq_true rfl⟩) hS hEx hlocks (by decide) (by decide) (fun E h => by rw [← h, xb_er] at hT; exact hT) (fun r2 u9 H locs hw hP hD hS => ?_)
  obtain ⟨r2, rfl, h_r2, e9⟩ := hw
  rw [e9] at hP hD
  have hi_r2 : r2 < 12 := (mAt_lt hI h_r2)
  refine W.eq (g2 := F0 m 12 ls (.ref (ad (pMe r2)) :: [])) rfl ?_
  rw [← h_r2, xb_ok] at hT
  have hmA := h_r2
  refine lv_astore (lv' := [(7, .ref (ad (pMe r2))), (6, .ref (ad (pPi r1))), (0, .ref (ad 0)), (1, .int p1), (2, .int p2), (3, .int p3), (4, .int p4), (5, .int p5)]) hx hb dX4_done_12 hl (by decide) rfl (fun ls hl => ?_)
  refine lv_iload_n hx hb dX4_done_14 rfl (lv_at hl 5 rfl) ?_
  refine lv_bipush (v := 8) hx hb dX4_done_15 (by decide) ?_
  refine kX_v (vx_runS (As := [.int p3, .int 8]) (rest := []) CF (k_checkPlace l hl9 D ad kk _ σ p3 8) ⟨callB_of 2 hts (gT mw_351) rfl rfl rfl (ht _ mw_1) (ht _ mw_349) (by decide +kernel) ⟨Nat.le_of_ble_eq_true rfl, Nat.le_of_ble_eq_true rfl⟩, (ht _ mw_350)⟩ (preS_B hK hP hD hE hS) rfl rfl hl.1 rfl (lv_room (Nat.le_of_ble_eq_true rfl)) dX4_done_17 ⟨Nat.le_of_ble_eq_true rfl, Nat.le_of_ble_eq_true rfl⟩) hS hEx hlocks (by decide) (by decide) (fun E h => by rw [← h, xb_er] at hT; exact hT) (fun u9 H locs hw hP hD hS => ?_)
  obtain ⟨h_r3, e9⟩ := hw
  rw [e9] at hP hD
  rw [← h_r3, xb_ok] at hT
  refine lv_iload hx hb dX4_done_20 (lv_at hl 6 rfl) ?_
  refine lv_bipush (v := 8) hx hb dX4_done_22 (by decide) ?_
  refine kX_v (vx_runS (As := [.int p4, .int 8]) (rest := []) CF (k_checkPlace l hl9 D ad kk _ σ p4 8) ⟨callB_of 2 hts (gT mw_351) rfl rfl rfl (ht _ mw_1) (ht _ mw_349) (by decide +kernel) ⟨Nat.le_of_ble_eq_true rfl, Nat.le_of_ble_eq_true rfl⟩, (ht _ mw_350)⟩ (preS_B hK hP hD hE hS) rfl rfl hl.1 rfl (lv_room (Nat.le_of_ble_eq_true rfl)) dX4_done_24 ⟨Nat.le_of_ble_eq_true rfl, Nat.le_of_ble_eq_true rfl⟩) hS hEx hlocks (by decide) (by decide) (fun E h => by rw [← h, xb_er] at hT; exact hT) (fun u9 H locs hw hP hD hS => ?_)
  obtain ⟨h_r4, e9⟩ := hw
  rw [e9] at hP hD
  rw [← h_r4, xb_ok] at hT
  refine lv_aload hx hb dX4_done_27 (lv_at hl 1 rfl) ?_
  refine va_get (D := D) (ci := 3) (v := .int (gF σ (pPi r1) 4)) (C := RX3) (T := TX3) (N := 8) hx hb ht inX3 hown hK hP (pPi r1) (g_Pi hi_r1) rfl 4 (by decide) (ht _ mw_108) (fun _ h9 => h9) rfl dX4_done_29 ?_
  refine lv_bipush (v := 30) hx hb dX4_done_32 (by decide) ?_
  refine lv_icmp_lt (tgt := 47) hx hb dX4_done_34 (by decide) (fun c5 => ?_) (fun c5 => ?_)
  · rw [if_pos c5] at hT
    have hlt := c5
    refine lv_iload hx hb dX4_done_47 (lv_at hl 7 rfl) ?_
    refine lv_aload hx hb dX4_done_49 (lv_at hl 1 rfl) ?_
    refine va_get (D := D) (ci := 3) (v := .int (gF σ (pPi r1) 7)) (C := RX3) (T := TX3) (N := 8) hx hb ht inX3 hown hK hP (pPi r1) (g_Pi hi_r1) rfl 7 (by decide) (ht _ mw_114) (fun _ h9 => h9) rfl dX4_done_51 ?_
    refine kX_v (vx_runS (As := [.int p5, .int (gF σ (pPi r1) 7)]) (rest := []) CF (k_checkHour l hl9 D ad kk _ σ p5 (gF σ (pPi r1) 7)) ⟨callB_of 2 hts (gT mw_420) rfl rfl rfl (ht _ mw_1) (ht _ mw_418) (by decide +kernel) ⟨Nat.le_of_ble_eq_true rfl, Nat.le_of_ble_eq_true rfl⟩, (ht _ mw_419)⟩ (preS_B hK hP hD hE hS) rfl rfl hl.1 rfl (lv_room (Nat.le_of_ble_eq_true rfl)) dX4_done_54 ⟨Nat.le_of_ble_eq_true rfl, Nat.le_of_ble_eq_true rfl⟩) hS hEx hlocks (by decide) (by decide) (fun E h => by rw [← h, xb_er] at hT; exact hT) (fun u9 H locs hw hP hD hS => ?_)
    obtain ⟨h_r6, e9⟩ := hw
    rw [e9] at hP hD
    rw [← h_r6, xb_ok] at hT
    refine lv_aload_n hx hb dX4_done_57 rfl (lv_at hl 2 rfl) ?_
    refine lv_aload hx hb dX4_done_58 (lv_at hl 1 rfl) ?_
    refine lv_aload hx hb dX4_done_60 (lv_at hl 0 rfl) ?_
    refine lv_iload_n hx hb dX4_done_62 rfl (lv_at hl 5 rfl) ?_
    refine lv_iload hx hb dX4_done_63 (lv_at hl 7 rfl) ?_
    refine kB_i (va_runV (As := [.ref (ad (pPi r1)), .ref (ad (pMe r2)), .int p3, .int p5]) (rest := []) CF (k_reasonAgainst l D ad kk _ σ r1 r2 p3 p5 hi_r1 hi_r2 (hI.ptc hi_r1)) ⟨callB_of 4 hts (gT mw_426) rfl rfl rfl (ht _ mw_1) (ht _ mw_423) (by decide +kernel) ⟨Nat.le_of_ble_eq_true rfl, Nat.le_of_ble_eq_true rfl⟩, (ht _ mw_425), (ht _ ms_11)⟩ (preV_B hK hP hD hE hS (ci := 4) rfl rfl g_MB) rfl rfl hl.1 rfl (lv_room (Nat.le_of_ble_eq_true rfl)) dX4_done_65 ⟨Nat.le_of_ble_eq_true rfl, Nat.le_of_ble_eq_true rfl⟩) hS (fun r7 u9 H locs hw hP hD hS => ?_)
    obtain ⟨rfl, e9⟩ := hw
    rw [e9] at hP hD
    refine lv_istore (lv' := [(8, .int (M_reasonAgainst σ r1 r2 p3 p5)), (7, .ref (ad (pMe r2))), (6, .ref (ad (pPi r1))), (0, .ref (ad 0)), (1, .int p1), (2, .int p2), (3, .int p3), (4, .int p4), (5, .int p5)]) hx hb dX4_done_68 hl (by decide) rfl (fun ls hl => ?_)
    refine lv_iload hx hb dX4_done_70 (lv_at hl 0 rfl) ?_
    refine lv_if_eq (tgt := 78) hx hb dX4_done_72 (by decide) (fun c8 => ?_) (fun c8 => ?_)
    · rw [if_pos c8] at hT
      refine lv_aload hx hb dX4_done_78 (lv_at hl 1 rfl) ?_
      refine va_get (D := D) (ci := 1) (v := .int (gF σ (pMe r2) 6)) (C := RX1) (T := TX1) (N := 9) hx hb ht inX1 hown hK hP (pMe r2) (g_Me hi_r2) rfl 6 (by decide) (ht _ mw_71) (fun _ h9 => h9) rfl dX4_done_80 ?_
      refine lv_if_eq (tgt := 109) hx hb dX4_done_83 (by decide) (fun c9 => ?_) (fun c9 => ?_)
      · rw [if_pos c9] at hT
        refine lv_aload_n hx hb dX4_done_109 rfl (lv_at hl 3 rfl) ?_
        refine lv_aload hx hb dX4_done_110 (lv_at hl 1 rfl) ?_
        refine kB_v (va_runV (As := [.ref (ad (pMe r2))]) (rest := []) CF (k_takeWhatGoes l D ad kk _ σ r2 hi_r2) ⟨callB_of 1 hts (gT mw_453) rfl rfl rfl (ht _ mw_1) (ht _ mw_450) (by decide +kernel) ⟨Nat.le_of_ble_eq_true rfl, Nat.le_of_ble_eq_true rfl⟩, (ht _ mw_452), (ht _ ms_13)⟩ (preV_B hK hP hD hE hS (ci := 4) rfl rfl g_MB) rfl rfl hl.1 rfl (lv_room (Nat.le_of_ble_eq_true rfl)) dX4_done_112 ⟨Nat.le_of_ble_eq_true rfl, Nat.le_of_ble_eq_true rfl⟩) hS (fun σ11 H locs hw hP hD hS => ?_)
        rw [← hw, vb_eq] at hT
        have h_r10 := hw
        have hTk := h_r10
        refine lv_aload hx hb dX4_done_115 (lv_at hl 2 rfl) ?_
        refine lv_iload_n hx hb dX4_done_117 rfl (lv_at hl 5 rfl) ?_
        refine lv_iload hx hb dX4_done_118 (lv_at hl 8 rfl) ?_
        refine lv_iload_n hx hb dX4_done_120 rfl (lv_at hl 6 rfl) ?_
        refine lv_aload hx hb dX4_done_121 (lv_at hl 1 rfl) ?_
        refine va_get (D := D) (ci := 1) (v := .int (gF σ11 (pMe r2) 6)) (C := RX1) (T := TX1) (N := 9) hx hb ht inX1 hown hK hP (pMe r2) (g_Me hi_r2) rfl 6 (by decide) (ht _ mw_71) (fun _ h9 => h9) rfl dX4_done_123 ?_
        refine lv_if_eq (tgt := 134) hx hb dX4_done_126 (by decide) (fun c12 => ?_) (fun c12 => ?_)
        · rw [if_pos c12] at hT
          refine lv_iconst (v := (-1)) hx hb dX4_done_134 (by decide) ?_
          refine kB_v (va_runV (As := [.int p2, .int p5, .int p3, .int (-1)]) (rest := []) CF (k_addRow l D ad kk _ σ11 r1 p2 p5 p3 (-1) hi_r1 (IB.row_in hI hTk hi_r1 hlt) (vin_of_mAt hI hmA)) ⟨callB_of 4 hts (gT mw_461) rfl rfl rfl (ht _ mw_4) (ht _ mw_458) (by decide +kernel) ⟨Nat.le_of_ble_eq_true rfl, Nat.le_of_ble_eq_true rfl⟩, (ht _ mw_459), (ht _ mw_460)⟩ (preV_B hK hP hD hE hS (ci := 3) rfl rfl (g_Pi hi_r1)) rfl rfl hl.1 rfl (lv_room (Nat.le_of_ble_eq_true rfl)) dX4_done_135 ⟨Nat.le_of_ble_eq_true rfl, Nat.le_of_ble_eq_true rfl⟩) hS (fun σ14 H locs hw hP hD hS => ?_)
          rw [← hw, vb_eq] at hT
          have h_r13 := hw
          refine lv_iconst (v := 0) hx hb dX4_done_138 (by decide) ?_
          refine W.widen (k := 6) (n := 36) (by decide) (by decide) ?_
          exact vx_ret (W.iret (v := 0) hx hb hr (fun t ht hW => ⟨⟨0, σ14, rfl, hT, by rw [ht]; exact hP, va_K.moved hW.alike hK, hD⟩, hS.F ht⟩) hS.2.2 dX4_done_139)
        · rw [if_neg c12] at hT
          refine lv_iload hx hb dX4_done_129 (lv_at hl 7 rfl) ?_
          refine lv_goto (tgt := 135) hx hb dX4_done_131 (by decide) ?_
          refine kB_v (va_runV (As := [.int p2, .int p5, .int p3, .int p4]) (rest := []) CF (k_addRow l D ad kk _ σ11 r1 p2 p5 p3 p4 hi_r1 (IB.row_in hI hTk hi_r1 hlt) (vin_of_mAt hI hmA)) ⟨callB_of 4 hts (gT mw_461) rfl rfl rfl (ht _ mw_4) (ht _ mw_458) (by decide +kernel) ⟨Nat.le_of_ble_eq_true rfl, Nat.le_of_ble_eq_true rfl⟩, (ht _ mw_459), (ht _ mw_460)⟩ (preV_B hK hP hD hE hS (ci := 3) rfl rfl (g_Pi hi_r1)) rfl rfl hl.1 rfl (lv_room (Nat.le_of_ble_eq_true rfl)) dX4_done_135 ⟨Nat.le_of_ble_eq_true rfl, Nat.le_of_ble_eq_true rfl⟩) hS (fun σ16 H locs hw hP hD hS => ?_)
          rw [← hw, vb_eq] at hT
          have h_r15 := hw
          refine lv_iconst (v := 0) hx hb dX4_done_138 (by decide) ?_
          refine W.widen (k := 6) (n := 36) (by decide) (by decide) ?_
          exact vx_ret (W.iret (v := 0) hx hb hr (fun t ht hW => ⟨⟨0, σ16, rfl, hT, by rw [ht]; exact hP, va_K.moved hW.alike hK, hD⟩, hS.F ht⟩) hS.2.2 dX4_done_139)
      · rw [if_neg c9] at hT
        refine lv_iload hx hb dX4_done_86 (lv_at hl 7 rfl) ?_
        refine lv_iload_n hx hb dX4_done_88 rfl (lv_at hl 6 rfl) ?_
        refine lv_icmp_eq (tgt := 105) hx hb dX4_done_89 (by decide) (fun c17 => ?_) (fun c17 => ?_)
        · rw [if_pos c17] at hT
          refine lv_sipush (v := 700) hx hb dX4_done_105 (by decide) ?_
          refine W.widen (k := 6) (n := 36) (by decide) (by decide) ?_
          exact vx_ret (W.iret (v := 700) hx hb hr (fun t ht hW => ⟨⟨700, σ, rfl, hT, by rw [ht]; exact hP, va_K.moved hW.alike hK, hD⟩, hS.F ht⟩) hS.2.2 dX4_done_108)
        · rw [if_neg c17] at hT
          refine lv_aload hx hb dX4_done_92 (lv_at hl 1 rfl) ?_
          refine va_get (D := D) (ci := 1) (v := .int (gF σ (pMe r2) 7)) (C := RX1) (T := TX1) (N := 9) hx hb ht inX1 hown hK hP (pMe r2) (g_Me hi_r2) rfl 7 (by decide) (ht _ mw_72) (fun _ h9 => h9) rfl dX4_done_94 ?_
          refine lv_iload hx hb dX4_done_97 (lv_at hl 7 rfl) ?_
          refine vp_callSi (W.runS (As := [.int (gF σ (pMe r2) 7), .int p4]) (rest := []) CF (k_has l (gF σ (pMe r2) 7) p4) ⟨callB_of 2 hts (gT mw_402) rfl rfl rfl (ht _ mw_1) (ht _ mw_400) (by decide +kernel) ⟨Nat.le_of_ble_eq_true rfl, Nat.le_of_ble_eq_true rfl⟩, (ht _ mw_401)⟩ preEq rfl rfl hl.1 rfl (lv_room (Nat.le_of_ble_eq_true rfl)) dX4_done_99 ⟨Nat.le_of_ble_eq_true rfl, Nat.le_of_ble_eq_true rfl⟩) (fun r18 h_r18 => ?_)
          obtain rfl := h_r18
          refine lv_if_ne (tgt := 109) hx hb dX4_done_102 (by decide) (fun c19 => ?_) (fun c19 => ?_)
          · rw [if_neg c19] at hT
            refine lv_aload_n hx hb dX4_done_109 rfl (lv_at hl 3 rfl) ?_
            refine lv_aload hx hb dX4_done_110 (lv_at hl 1 rfl) ?_
            refine kB_v (va_runV (As := [.ref (ad (pMe r2))]) (rest := []) CF (k_takeWhatGoes l D ad kk _ σ r2 hi_r2) ⟨callB_of 1 hts (gT mw_453) rfl rfl rfl (ht _ mw_1) (ht _ mw_450) (by decide +kernel) ⟨Nat.le_of_ble_eq_true rfl, Nat.le_of_ble_eq_true rfl⟩, (ht _ mw_452), (ht _ ms_13)⟩ (preV_B hK hP hD hE hS (ci := 4) rfl rfl g_MB) rfl rfl hl.1 rfl (lv_room (Nat.le_of_ble_eq_true rfl)) dX4_done_112 ⟨Nat.le_of_ble_eq_true rfl, Nat.le_of_ble_eq_true rfl⟩) hS (fun σ21 H locs hw hP hD hS => ?_)
            rw [← hw, vb_eq] at hT
            have h_r20 := hw
            have hTk := h_r20
            refine lv_aload hx hb dX4_done_115 (lv_at hl 2 rfl) ?_
            refine lv_iload_n hx hb dX4_done_117 rfl (lv_at hl 5 rfl) ?_
            refine lv_iload hx hb dX4_done_118 (lv_at hl 8 rfl) ?_
            refine lv_iload_n hx hb dX4_done_120 rfl (lv_at hl 6 rfl) ?_
            refine lv_aload hx hb dX4_done_121 (lv_at hl 1 rfl) ?_
            refine va_get (D := D) (ci := 1) (v := .int (gF σ21 (pMe r2) 6)) (C := RX1) (T := TX1) (N := 9) hx hb ht inX1 hown hK hP (pMe r2) (g_Me hi_r2) rfl 6 (by decide) (ht _ mw_71) (fun _ h9 => h9) rfl dX4_done_123 ?_
            refine lv_if_eq (tgt := 134) hx hb dX4_done_126 (by decide) (fun c22 => ?_) (fun c22 => ?_)
            · rw [if_pos c22] at hT
              refine lv_iconst (v := (-1)) hx hb dX4_done_134 (by decide) ?_
              refine kB_v (va_runV (As := [.int p2, .int p5, .int p3, .int (-1)]) (rest := []) CF (k_addRow l D ad kk _ σ21 r1 p2 p5 p3 (-1) hi_r1 (IB.row_in hI hTk hi_r1 hlt) (vin_of_mAt hI hmA)) ⟨callB_of 4 hts (gT mw_461) rfl rfl rfl (ht _ mw_4) (ht _ mw_458) (by decide +kernel) ⟨Nat.le_of_ble_eq_true rfl, Nat.le_of_ble_eq_true rfl⟩, (ht _ mw_459), (ht _ mw_460)⟩ (preV_B hK hP hD hE hS (ci := 3) rfl rfl (g_Pi hi_r1)) rfl rfl hl.1 rfl (lv_room (Nat.le_of_ble_eq_true rfl)) dX4_done_135 ⟨Nat.le_of_ble_eq_true rfl, Nat.le_of_ble_eq_true rfl⟩) hS (fun σ24 H locs hw hP hD hS => ?_)
              rw [← hw, vb_eq] at hT
              have h_r23 := hw
              refine lv_iconst (v := 0) hx hb dX4_done_138 (by decide) ?_
              refine W.widen (k := 6) (n := 36) (by decide) (by decide) ?_
              exact vx_ret (W.iret (v := 0) hx hb hr (fun t ht hW => ⟨⟨0, σ24, rfl, hT, by rw [ht]; exact hP, va_K.moved hW.alike hK, hD⟩, hS.F ht⟩) hS.2.2 dX4_done_139)
            · rw [if_neg c22] at hT
              refine lv_iload hx hb dX4_done_129 (lv_at hl 7 rfl) ?_
              refine lv_goto (tgt := 135) hx hb dX4_done_131 (by decide) ?_
              refine kB_v (va_runV (As := [.int p2, .int p5, .int p3, .int p4]) (rest := []) CF (k_addRow l D ad kk _ σ21 r1 p2 p5 p3 p4 hi_r1 (IB.row_in hI hTk hi_r1 hlt) (vin_of_mAt hI hmA)) ⟨callB_of 4 hts (gT mw_461) rfl rfl rfl (ht _ mw_4) (ht _ mw_458) (by decide +kernel) ⟨Nat.le_of_ble_eq_true rfl, Nat.le_of_ble_eq_true rfl⟩, (ht _ mw_459), (ht _ mw_460)⟩ (preV_B hK hP hD hE hS (ci := 3) rfl rfl (g_Pi hi_r1)) rfl rfl hl.1 rfl (lv_room (Nat.le_of_ble_eq_true rfl)) dX4_done_135 ⟨Nat.le_of_ble_eq_true rfl, Nat.le_of_ble_eq_true rfl⟩) hS (fun σ26 H locs hw hP hD hS => ?_)
              rw [← hw, vb_eq] at hT
              have h_r25 := hw
              refine lv_iconst (v := 0) hx hb dX4_done_138 (by decide) ?_
              refine W.widen (k := 6) (n := 36) (by decide) (by decide) ?_
              exact vx_ret (W.iret (v := 0) hx hb hr (fun t ht hW => ⟨⟨0, σ26, rfl, hT, by rw [ht]; exact hP, va_K.moved hW.alike hK, hD⟩, hS.F ht⟩) hS.2.2 dX4_done_139)
          · rw [if_pos c19] at hT
            refine lv_sipush (v := 700) hx hb dX4_done_105 (by decide) ?_
            refine W.widen (k := 6) (n := 36) (by decide) (by decide) ?_
            exact vx_ret (W.iret (v := 700) hx hb hr (fun t ht hW => ⟨⟨700, σ, rfl, hT, by rw [ht]; exact hP, va_K.moved hW.alike hK, hD⟩, hS.F ht⟩) hS.2.2 dX4_done_108)
    · rw [if_neg c8] at hT
      refine lv_iload hx hb dX4_done_75 (lv_at hl 0 rfl) ?_
      refine W.widen (k := 6) (n := 36) (by decide) (by decide) ?_
      exact vx_ret (W.iret (v := M_reasonAgainst σ r1 r2 p3 p5) hx hb hr (fun t ht hW => ⟨⟨M_reasonAgainst σ r1 r2 p3 p5, σ, rfl, hT, by rw [ht]; exact hP, va_K.moved hW.alike hK, hD⟩, hS.F ht⟩) hS.2.2 dX4_done_77)
  · rw [if_neg c5] at hT
    exact vx_throwS (own := RX4) (cls := "java/lang/IllegalStateException") (names := th_n) hx hb hl9 hown thf_IllegalStateException thf_n (ht _ mw_196) (ht _ mw_10) (hE.str (own := RX4) (k := 131) (tx := "the object has 30 rows") (by decide +kernel)).choose_spec (vx_hat (B := th_B "java/lang/IllegalStateException") (fun w hw => ht w (thw_IllegalStateException w hw)) thb_IllegalStateException (hE.th (by decide +kernel))) (thg_IllegalStateException _) hE.1 hE.2.1 hS (hl.1.trans hml.symm) dX4_done_37 dX4_done_40 dX4_done_41 dX4_done_43 dX4_done_46 (fun x hx => (hEx x hx).elim) (Nat.le_of_ble_eq_true rfl) (Nat.le_of_ble_eq_true rfl) (Nat.le_of_ble_eq_true rfl) (Nat.le_of_ble_eq_true rfl) hlocks (fun t ha hsz hk => xB_end hT hK hP hD hS ha hsz hk) hS.2.2 (by decide) (by decide)
set_option maxHeartbeats 4000000 in
set_option maxRecDepth 100000 in
theorem k_row (l : Launch) (hl9 : l.stackTraces = false) (D : va_G) (ad : Nat → Nat) (kk : Nat → ClassId) (sz : Nat) (σ : St) (p1 : Int32) (p2 : Int32) (p3 : Int32) (hI : IB σ) : vx_Met l yX4_row wsX4_row { frames := 8, cells := 3, slots := 18, locals := 132 } (va_Pc [.ref (ad 0), .int p1, .int p2, .int p3] (PB D ad kk sz σ)) (va_Qi (fun r u => .ok r = M_row σ p1 p2 p3 ∧ u = σ) (QB D ad kk sz) (aL 96 ad sz)) (XB (M_row σ p1 p2 p3) D ad kk sz σ) 3 18 (aL 96 ad sz) := by
  refine vx_ofW (cc := cX4_row) (maxL := 5) (ret := (some .int)) (by decide) rfl ?_
  intro p e s m args below meth c s₁ B hml hEx hv
  obtain ⟨rfl, hsz, hP, hK, hD0, hE⟩ := hv
  have hx := B.exec
  have hb := B.bytes
  have hr := B.returns
  have hts := atoms_spec (ws := wsX4_row) B.pre
  have hown : s.vm.findClass RX4 = some m.cls := findClass_of_methodNamed B.named
  have hlocks := B.notSynchronized
  subst hsz
  have hD : va_D (aL 96 ad s.heap.size) (wB ad kk σ) := aL_D hD0
  have hS : va_S (aL 96 ad s.heap.size) s.heap s.heap [] := va_S.rf
  have hl := lv_entry ([.ref (ad 0), .int p1, .int p2, .int p3]) (n := 5) (Nat.le_of_ble_eq_true rfl)
  rw [lg_entry_eq]
  generalize (lg_sl ([.ref (ad 0), .int p1, .int p2, .int p3]) ++ List.replicate (5 - (lg_sl ([.ref (ad 0), .int p1, .int p2, .int p3])).length) Slot.unset).toArray = ls at hl ⊢
  have hl : lv_has ls 5 [(0, .ref (ad 0)), (1, .int p1), (2, .int p2), (3, .int p3)] := hl
  have CF : CallFix p m c cX4_row 5 s ([.ref (ad 0), .int p1, .int p2, .int p3] : List Value).toArray wsX4_row RX4 := ⟨hx, hb, hml, hown, hts⟩
  have ht : ∀ w ∈ T0, w.before ([.ref (ad 0), .int p1, .int p2, .int p3] : List Value).toArray s = true := fun w h => hts w (List.mem_cons_of_mem _ h)
  generalize hT : M_row σ p1 p2 p3 = T
  rw [M_row] at hT
  refine lv_aload_n hx hb dX4_row_0 rfl (lv_at hl 0 rfl) ?_
  refine lv_iload_n hx hb dX4_row_1 rfl (lv_at hl 1 rfl) ?_
  refine kX_q (vx_runV (As := [.int p1]) (rest := []) CF (k_pieceAt l hl9 D ad kk _ σ p1 hI) ⟨callB_of 1 hts (gT mw_386) rfl rfl rfl (ht _ mw_1) (ht _ mw_383) (by decide +kernel) ⟨Nat.le_of_ble_eq_true rfl, Nat.le_of_ble_eq_true rfl⟩, (ht _ mw_385), (ht _ ms_10)⟩ (preV_B hK hP hD hE hS (ci := 4) rfl rfl g_MB) rfl rfl hl.1 rfl (lv_room (Nat.le_of_ble_eq_true rfl)) dX4_row_2 ⟨Nat.le_of_ble_eq_true rfl, Nat.le_of_ble_eq_true rfl⟩) hS hEx hlocks (by decide) (by decide) (fun E h => by rw [← h, xb_er] at hT; exact hT) (fun r1 u9 H locs hw hP hD hS => ?_)
  obtain ⟨r1, rfl, h_r1, e9⟩ := hw
  rw [e9] at hP hD
  have hi_r1 : r1 < 10 := (pAt_lt hI h_r1)
  refine W.eq (g2 := F0 m 5 ls (.ref (ad (pPi r1)) :: [])) rfl ?_
  rw [← h_r1, xb_ok] at hT
  refine lv_astore (lv' := [(4, .ref (ad (pPi r1))), (0, .ref (ad 0)), (1, .int p1), (2, .int p2), (3, .int p3)]) hx hb dX4_row_5 hl (by decide) rfl (fun ls hl => ?_)
  refine lv_iload_n hx hb dX4_row_7 rfl (lv_at hl 4 rfl) ?_
  refine lv_iconst (v := 4) hx hb dX4_row_8 (by decide) ?_
  refine kX_v (vx_runS (As := [.int p3, .int 4]) (rest := []) CF (k_checkPlace l hl9 D ad kk _ σ p3 4) ⟨callB_of 2 hts (gT mw_351) rfl rfl rfl (ht _ mw_1) (ht _ mw_349) (by decide +kernel) ⟨Nat.le_of_ble_eq_true rfl, Nat.le_of_ble_eq_true rfl⟩, (ht _ mw_350)⟩ (preS_B hK hP hD hE hS) rfl rfl hl.1 rfl (lv_room (Nat.le_of_ble_eq_true rfl)) dX4_row_9 ⟨Nat.le_of_ble_eq_true rfl, Nat.le_of_ble_eq_true rfl⟩) hS hEx hlocks (by decide) (by decide) (fun E h => by rw [← h, xb_er] at hT; exact hT) (fun u9 H locs hw hP hD hS => ?_)
  obtain ⟨h_r2, e9⟩ := hw
  rw [e9] at hP hD
  rw [← h_r2, xb_ok] at hT
  have hk1 := h_r2
  refine lv_iload_n hx hb dX4_row_12 rfl (lv_at hl 3 rfl) ?_
  refine lv_iconst (v := (-1)) hx hb dX4_row_13 (by decide) ?_
  refine lv_icmp_ne (tgt := 23) hx hb dX4_row_14 (by decide) (fun c3 => ?_) (fun c3 => ?_)
  · rw [if_neg c3] at hT
    refine lv_iload_n hx hb dX4_row_23 rfl (lv_at hl 3 rfl) ?_
    refine lv_aload hx hb dX4_row_24 (lv_at hl 0 rfl) ?_
    refine va_get (D := D) (ci := 3) (v := .int (gF σ (pPi r1) 4)) (C := RX3) (T := TX3) (N := 8) hx hb ht inX3 hown hK hP (pPi r1) (g_Pi hi_r1) rfl 4 (by decide) (ht _ mw_108) (fun _ h9 => h9) rfl dX4_row_26 ?_
    refine kX_v (vx_runS (As := [.int p2, .int (gF σ (pPi r1) 4)]) (rest := []) CF (k_checkPlace l hl9 D ad kk _ σ p2 (gF σ (pPi r1) 4)) ⟨callB_of 2 hts (gT mw_351) rfl rfl rfl (ht _ mw_1) (ht _ mw_349) (by decide +kernel) ⟨Nat.le_of_ble_eq_true rfl, Nat.le_of_ble_eq_true rfl⟩, (ht _ mw_350)⟩ (preS_B hK hP hD hE hS) rfl rfl hl.1 rfl (lv_room (Nat.le_of_ble_eq_true rfl)) dX4_row_29 ⟨Nat.le_of_ble_eq_true rfl, Nat.le_of_ble_eq_true rfl⟩) hS hEx hlocks (by decide) (by decide) (fun E h => by rw [← h, xb_er] at hT; exact hT) (fun u9 H locs hw hP hD hS => ?_)
    obtain ⟨h_r4, e9⟩ := hw
    rw [e9] at hP hD
    rw [← h_r4, xb_ok] at hT
    have hk2 := h_r4
    refine lv_aload hx hb dX4_row_32 (lv_at hl 0 rfl) ?_
    refine va_get (D := D) (ci := 3) (v := .ref (ad (pPi r1 + 2))) (C := RX3) (T := TX3) (N := 8) hx hb ht inX3 hown hK hP (pPi r1) (g_Pi hi_r1) rfl 1 (by decide) (ht _ mw_102) (fun _ h9 => h9) rfl dX4_row_34 ?_
    refine lv_iload_n hx hb dX4_row_37 rfl (lv_at hl 3 rfl) ?_
    refine lv_iconst (v := 4) hx hb dX4_row_38 (by decide) ?_
    refine lv_imul hx hb dX4_row_39 ?_
    refine lv_iload_n hx hb dX4_row_40 rfl (lv_at hl 4 rfl) ?_
    refine lv_iadd hx hb dX4_row_41 ?_
    refine va_iald (i := (p2 * 4) + p3) hx hb hK hP (pPi r1 + 2) 0 (g_Pr hi_r1) rfl (row_at hk1 hk2 (hI.rc hi_r1)) dX4_row_42 ?_
    exact vx_ret (W.iret (v := gA σ (pPi r1 + 2) ((p2 * 4) + p3).toNatClampNeg) hx hb hr (fun t ht hW => ⟨⟨gA σ (pPi r1 + 2) ((p2 * 4) + p3).toNatClampNeg, σ, rfl, ⟨hT, rfl⟩, by rw [ht]; exact hP, va_K.moved hW.alike hK, hD⟩, hS.F ht⟩) hS.2.2 dX4_row_43)
  · rw [if_pos c3] at hT
    refine lv_aload hx hb dX4_row_17 (lv_at hl 0 rfl) ?_
    refine va_get (D := D) (ci := 3) (v := .int (gF σ (pPi r1) 4)) (C := RX3) (T := TX3) (N := 8) hx hb ht inX3 hown hK hP (pPi r1) (g_Pi hi_r1) rfl 4 (by decide) (ht _ mw_108) (fun _ h9 => h9) rfl dX4_row_19 ?_
    refine W.widen (k := 3) (n := 18) (by decide) (by decide) ?_
    exact vx_ret (W.iret (v := gF σ (pPi r1) 4) hx hb hr (fun t ht hW => ⟨⟨gF σ (pPi r1) 4, σ, rfl, ⟨hT, rfl⟩, by rw [ht]; exact hP, va_K.moved hW.alike hK, hD⟩, hS.F ht⟩) hS.2.2 dX4_row_22)
set_option maxHeartbeats 4000000 in
set_option maxRecDepth 100000 in
theorem k_stock (l : Launch) (hl9 : l.stackTraces = false) (D : va_G) (ad : Nat → Nat) (kk : Nat → ClassId) (sz : Nat) (σ : St) (p1 : Int32) (p2 : Int32) : vx_Met l yX4_stock wsX4_stock { frames := 8, cells := 2, slots := 12, locals := 132 } (va_Pc [.ref (ad 0), .int p1, .int p2] (PB D ad kk sz σ)) (va_Qi (fun r u => .ok (r, u) = M_stock σ p1 p2) (QB D ad kk sz) (aL 96 ad sz)) (XB (M_stock σ p1 p2) D ad kk sz σ) 2 12 (aL 96 ad sz) := by
  refine vx_ofW (cc := cX4_stock) (maxL := 5) (ret := (some .int)) (by decide) rfl ?_
  intro p e s m args below meth c s₁ B hml hEx hv
  obtain ⟨rfl, hsz, hP, hK, hD0, hE⟩ := hv
  have hx := B.exec
  have hb := B.bytes
  have hr := B.returns
  have hts := atoms_spec (ws := wsX4_stock) B.pre
  have hown : s.vm.findClass RX4 = some m.cls := findClass_of_methodNamed B.named
  have hlocks := B.notSynchronized
  subst hsz
  have hD : va_D (aL 96 ad s.heap.size) (wB ad kk σ) := aL_D hD0
  have hS : va_S (aL 96 ad s.heap.size) s.heap s.heap [] := va_S.rf
  have hl := lv_entry ([.ref (ad 0), .int p1, .int p2]) (n := 5) (Nat.le_of_ble_eq_true rfl)
  rw [lg_entry_eq]
  generalize (lg_sl ([.ref (ad 0), .int p1, .int p2]) ++ List.replicate (5 - (lg_sl ([.ref (ad 0), .int p1, .int p2])).length) Slot.unset).toArray = ls at hl ⊢
  have hl : lv_has ls 5 [(0, .ref (ad 0)), (1, .int p1), (2, .int p2)] := hl
  have CF : CallFix p m c cX4_stock 5 s ([.ref (ad 0), .int p1, .int p2] : List Value).toArray wsX4_stock RX4 := ⟨hx, hb, hml, hown, hts⟩
  have ht : ∀ w ∈ T0, w.before ([.ref (ad 0), .int p1, .int p2] : List Value).toArray s = true := fun w h => hts w (List.mem_cons_of_mem _ h)
  generalize hT : M_stock σ p1 p2 = T
  rw [M_stock] at hT
  refine lv_aload_n hx hb dX4_stock_0 rfl (lv_at hl 0 rfl) ?_
  refine lv_iload_n hx hb dX4_stock_1 rfl (lv_at hl 1 rfl) ?_
  refine kX_q (vx_runV (As := [.int p1]) (rest := []) CF (k_goodAt l hl9 D ad kk _ σ p1) ⟨callB_of 1 hts (gT mw_479) rfl rfl rfl (ht _ mw_1) (ht _ mw_476) (by decide +kernel) ⟨Nat.le_of_ble_eq_true rfl, Nat.le_of_ble_eq_true rfl⟩, (ht _ mw_478), (ht _ ms_14)⟩ (preV_B hK hP hD hE hS (ci := 4) rfl rfl g_MB) rfl rfl hl.1 rfl (lv_room (Nat.le_of_ble_eq_true rfl)) dX4_stock_2 ⟨Nat.le_of_ble_eq_true rfl, Nat.le_of_ble_eq_true rfl⟩) hS hEx hlocks (by decide) (by decide) (fun E h => by rw [← h, xb_er] at hT; exact hT) (fun r1 u9 H locs hw hP hD hS => ?_)
  obtain ⟨r1, rfl, h_r1, e9⟩ := hw
  rw [e9] at hP hD
  have hi_r1 : r1 < 12 := (gAt_lt h_r1)
  refine W.eq (g2 := F0 m 5 ls (.ref (ad (pGo r1)) :: [])) rfl ?_
  rw [← h_r1, xb_ok] at hT
  refine lv_astore_n (lv' := [(3, .ref (ad (pGo r1))), (0, .ref (ad 0)), (1, .int p1), (2, .int p2)]) hx hb dX4_stock_5 rfl hl (by decide) rfl (fun ls hl => ?_)
  refine lv_iload_n hx hb dX4_stock_6 rfl (lv_at hl 3 rfl) ?_
  refine lv_ldc (v := (-1000000)) hx hb hown (ht _ mw_480) dX4_stock_7 ?_
  refine lv_icmp_lt (tgt := 18) hx hb dX4_stock_9 (by decide) (fun c2 => ?_) (fun c2 => ?_)
  · rw [if_pos c2] at hT
    exact vx_throwS (own := RX4) (cls := "java/lang/IllegalArgumentException") (names := th_n) hx hb hl9 hown thf_IllegalArgumentException thf_n (ht _ mw_264) (ht _ mw_11) (hE.str (own := RX4) (k := 157) (tx := "change") (by decide +kernel)).choose_spec (vx_hat (B := th_B "java/lang/IllegalArgumentException") (fun w hw => ht w (thw_IllegalArgumentException w hw)) thb_IllegalArgumentException (hE.th (by decide +kernel))) (thg_IllegalArgumentException _) hE.1 hE.2.1 hS (hl.1.trans hml.symm) dX4_stock_18 dX4_stock_21 dX4_stock_22 dX4_stock_24 dX4_stock_27 (fun x hx => (hEx x hx).elim) (Nat.le_of_ble_eq_true rfl) (Nat.le_of_ble_eq_true rfl) (Nat.le_of_ble_eq_true rfl) (Nat.le_of_ble_eq_true rfl) hlocks (fun t ha hsz hk => xB_end hT hK hP hD hS ha hsz hk) hS.2.2 (by decide) (by decide)
  · rw [if_neg c2] at hT
    refine lv_iload_n hx hb dX4_stock_12 rfl (lv_at hl 3 rfl) ?_
    refine lv_ldc (v := 1000000) hx hb hown (ht _ mw_421) dX4_stock_13 ?_
    refine lv_icmp_le (tgt := 28) hx hb dX4_stock_15 (by decide) (fun c3 => ?_) (fun c3 => ?_)
    · rw [if_pos c3] at hT
      refine lv_aload_n hx hb dX4_stock_28 rfl (lv_at hl 0 rfl) ?_
      refine va_get (D := D) (ci := 0) (v := .int (gF σ (pGo r1) 0)) (C := RX0) (T := TX0) (N := 5) hx hb ht inX0 hown hK hP (pGo r1) (g_Go hi_r1) rfl 0 (by decide) (ht _ mw_140) (fun _ h9 => h9) rfl dX4_stock_29 ?_
      refine lv_iload_n hx hb dX4_stock_32 rfl (lv_at hl 3 rfl) ?_
      refine lv_iadd hx hb dX4_stock_33 ?_
      refine lv_istore (lv' := [(4, .int ((gF σ (pGo r1) 0) + p2)), (3, .ref (ad (pGo r1))), (0, .ref (ad 0)), (1, .int p1), (2, .int p2)]) hx hb dX4_stock_34 hl (by decide) rfl (fun ls hl => ?_)
      refine lv_iload hx hb dX4_stock_36 (lv_at hl 0 rfl) ?_
      refine lv_if_lt (tgt := 48) hx hb dX4_stock_38 (by decide) (fun c4 => ?_) (fun c4 => ?_)
      · rw [if_pos c4] at hT
        refine lv_iconst (v := (-1)) hx hb dX4_stock_48 (by decide) ?_
        refine W.widen (k := 2) (n := 12) (by decide) (by decide) ?_
        exact vx_ret (W.iret (v := (-1)) hx hb hr (fun t ht hW => ⟨⟨(-1), σ, rfl, hT, by rw [ht]; exact hP, va_K.moved hW.alike hK, hD⟩, hS.F ht⟩) hS.2.2 dX4_stock_49)
      · rw [if_neg c4] at hT
        refine lv_iload hx hb dX4_stock_41 (lv_at hl 0 rfl) ?_
        refine lv_ldc (v := 1000000) hx hb hown (ht _ mw_421) dX4_stock_43 ?_
        refine lv_icmp_le (tgt := 50) hx hb dX4_stock_45 (by decide) (fun c5 => ?_) (fun c5 => ?_)
        · rw [if_pos c5] at hT
          refine lv_aload_n hx hb dX4_stock_50 rfl (lv_at hl 1 rfl) ?_
          refine lv_iload_n hx hb dX4_stock_51 rfl (lv_at hl 4 rfl) ?_
          refine kB_v (va_runV (As := [.int p2]) (rest := []) CF (k_changeBy l D ad kk _ σ r1 p2 hi_r1) ⟨callB_of 1 hts (gT mw_457) rfl rfl rfl (ht _ mw_5) (ht _ mw_454) (by decide +kernel) ⟨Nat.le_of_ble_eq_true rfl, Nat.le_of_ble_eq_true rfl⟩, (ht _ mw_455), (ht _ mw_456)⟩ (preV_B hK hP hD hE hS (ci := 0) rfl rfl (g_Go hi_r1)) rfl rfl hl.1 rfl (lv_room (Nat.le_of_ble_eq_true rfl)) dX4_stock_52 ⟨Nat.le_of_ble_eq_true rfl, Nat.le_of_ble_eq_true rfl⟩) hS (fun σ7 H locs hw hP hD hS => ?_)
          rw [← hw, vb_eq] at hT
          have h_r6 := hw
          refine lv_iload hx hb dX4_stock_55 (lv_at hl 0 rfl) ?_
          refine W.widen (k := 2) (n := 12) (by decide) (by decide) ?_
          exact vx_ret (W.iret (v := (gF σ (pGo r1) 0) + p2) hx hb hr (fun t ht hW => ⟨⟨(gF σ (pGo r1) 0) + p2, σ7, rfl, hT, by rw [ht]; exact hP, va_K.moved hW.alike hK, hD⟩, hS.F ht⟩) hS.2.2 dX4_stock_57)
        · rw [if_neg c5] at hT
          refine lv_iconst (v := (-1)) hx hb dX4_stock_48 (by decide) ?_
          refine W.widen (k := 2) (n := 12) (by decide) (by decide) ?_
          exact vx_ret (W.iret (v := (-1)) hx hb hr (fun t ht hW => ⟨⟨(-1), σ, rfl, hT, by rw [ht]; exact hP, va_K.moved hW.alike hK, hD⟩, hS.F ht⟩) hS.2.2 dX4_stock_49)
    · rw [if_neg c3] at hT
      exact vx_throwS (own := RX4) (cls := "java/lang/IllegalArgumentException") (names := th_n) hx hb hl9 hown thf_IllegalArgumentException thf_n (ht _ mw_264) (ht _ mw_11) (hE.str (own := RX4) (k := 157) (tx := "change") (by decide +kernel)).choose_spec (vx_hat (B := th_B "java/lang/IllegalArgumentException") (fun w hw => ht w (thw_IllegalArgumentException w hw)) thb_IllegalArgumentException (hE.th (by decide +kernel))) (thg_IllegalArgumentException _) hE.1 hE.2.1 hS (hl.1.trans hml.symm) dX4_stock_18 dX4_stock_21 dX4_stock_22 dX4_stock_24 dX4_stock_27 (fun x hx => (hEx x hx).elim) (Nat.le_of_ble_eq_true rfl) (Nat.le_of_ble_eq_true rfl) (Nat.le_of_ble_eq_true rfl) (Nat.le_of_ble_eq_true rfl) hlocks (fun t ha hsz hk => xB_end hT hK hP hD hS ha hsz hk) hS.2.2 (by decide) (by decide)
set_option maxHeartbeats 4000000 in
set_option maxRecDepth 100000 in
theorem k_about (l : Launch) (hl9 : l.stackTraces = false) (D : va_G) (ad : Nat → Nat) (kk : Nat → ClassId) (sz : Nat) (σ : St) (p1 : Int32) (p2 : Int32) : vx_Met l yX4_about wsX4_about { frames := 8, cells := 2, slots := 12, locals := 132 } (va_Pc [.ref (ad 0), .int p1, .int p2] (PB D ad kk sz σ)) (va_Ql (fun r u => .ok r = M_about σ p1 p2 ∧ u = σ) (QB D ad kk sz) (aL 96 ad sz)) (XB (M_about σ p1 p2) D ad kk sz σ) 2 12 (aL 96 ad sz) := by
  refine vx_ofW (cc := cX4_about) (maxL := 4) (ret := (some .long)) (by decide) rfl ?_
  intro p e s m args below meth c s₁ B hml hEx hv
  obtain ⟨rfl, hsz, hP, hK, hD0, hE⟩ := hv
  have hx := B.exec
  have hb := B.bytes
  have hr := B.returns
  have hts := atoms_spec (ws := wsX4_about) B.pre
  have hown : s.vm.findClass RX4 = some m.cls := findClass_of_methodNamed B.named
  have hlocks := B.notSynchronized
  subst hsz
  have hD : va_D (aL 96 ad s.heap.size) (wB ad kk σ) := aL_D hD0
  have hS : va_S (aL 96 ad s.heap.size) s.heap s.heap [] := va_S.rf
  have hl := lv_entry ([.ref (ad 0), .int p1, .int p2]) (n := 4) (Nat.le_of_ble_eq_true rfl)
  rw [lg_entry_eq]
  generalize (lg_sl ([.ref (ad 0), .int p1, .int p2]) ++ List.replicate (4 - (lg_sl ([.ref (ad 0), .int p1, .int p2])).length) Slot.unset).toArray = ls at hl ⊢
  have hl : lv_has ls 4 [(0, .ref (ad 0)), (1, .int p1), (2, .int p2)] := hl
  have CF : CallFix p m c cX4_about 4 s ([.ref (ad 0), .int p1, .int p2] : List Value).toArray wsX4_about RX4 := ⟨hx, hb, hml, hown, hts⟩
  have ht : ∀ w ∈ T0, w.before ([.ref (ad 0), .int p1, .int p2] : List Value).toArray s = true := fun w h => hts w (List.mem_cons_of_mem _ h)
  generalize hT : M_about σ p1 p2 = T
  rw [M_about] at hT
  refine lv_aload_n hx hb dX4_about_0 rfl (lv_at hl 0 rfl) ?_
  refine lv_iload_n hx hb dX4_about_1 rfl (lv_at hl 1 rfl) ?_
  refine kX_q (vx_runV (As := [.int p1]) (rest := []) CF (k_goodAt l hl9 D ad kk _ σ p1) ⟨callB_of 1 hts (gT mw_479) rfl rfl rfl (ht _ mw_1) (ht _ mw_476) (by decide +kernel) ⟨Nat.le_of_ble_eq_true rfl, Nat.le_of_ble_eq_true rfl⟩, (ht _ mw_478), (ht _ ms_14)⟩ (preV_B hK hP hD hE hS (ci := 4) rfl rfl g_MB) rfl rfl hl.1 rfl (lv_room (Nat.le_of_ble_eq_true rfl)) dX4_about_2 ⟨Nat.le_of_ble_eq_true rfl, Nat.le_of_ble_eq_true rfl⟩) hS hEx hlocks (by decide) (by decide) (fun E h => by rw [← h, xb_er] at hT; exact hT) (fun r1 u9 H locs hw hP hD hS => ?_)
  obtain ⟨r1, rfl, h_r1, e9⟩ := hw
  rw [e9] at hP hD
  have hi_r1 : r1 < 12 := (gAt_lt h_r1)
  refine W.eq (g2 := F0 m 5 ls (.ref (ad (pGo r1)) :: [])) rfl ?_
  rw [← h_r1, xb_ok] at hT
  refine lv_astore_n (lv' := [(3, .ref (ad (pGo r1))), (0, .ref (ad 0)), (1, .int p1), (2, .int p2)]) hx hb dX4_about_5 rfl hl (by decide) rfl (fun ls hl => ?_)
  refine lv_iload_n hx hb dX4_about_6 rfl (lv_at hl 3 rfl) ?_
  by_cases c2_0 : p2 = 0
  · rw [if_pos c2_0] at hT
    refine lv_tableIn (tgt := 36) hx hb dX4_about_7 (by rw [c2_0]; decide) (by rw [c2_0]; decide) (by rw [c2_0]; rfl) (by decide) ?_
    refine lv_aload_n hx hb dX4_about_36 rfl (lv_at hl 0 rfl) ?_
    refine va_get (D := D) (ci := 0) (v := .int (gF σ (pGo r1) 0)) (C := RX0) (T := TX0) (N := 5) hx hb ht inX0 hown hK hP (pGo r1) (g_Go hi_r1) rfl 0 (by decide) (ht _ mw_140) (fun _ h9 => h9) rfl dX4_about_37 ?_
    refine lv_i2l hx hb dX4_about_40 rfl ?_
    refine W.widen (k := 2) (n := 12) (by decide) (by decide) ?_
    exact vx_ret (W.lret (v := (gF σ (pGo r1) 0).toInt64) hx hb hr (fun t ht hW => ⟨⟨(gF σ (pGo r1) 0).toInt64, σ, rfl, ⟨hT, rfl⟩, by rw [ht]; exact hP, va_K.moved hW.alike hK, hD⟩, hS.F ht⟩) hS.2.2 dX4_about_41)
  · rw [if_neg c2_0] at hT
    by_cases c2_1 : p2 = 1
    · rw [if_pos c2_1] at hT
      refine lv_tableIn (tgt := 42) hx hb dX4_about_7 (by rw [c2_1]; decide) (by rw [c2_1]; decide) (by rw [c2_1]; rfl) (by decide) ?_
      refine lv_aload_n hx hb dX4_about_42 rfl (lv_at hl 0 rfl) ?_
      refine va_get (D := D) (ci := 0) (v := .long (gL σ (pGo r1) 1)) (C := RX0) (T := TX0) (N := 5) hx hb ht inX0 hown hK hP (pGo r1) (g_Go hi_r1) rfl 1 (by decide) (ht _ mw_142) (fun _ h9 => h9) rfl dX4_about_43 ?_
      refine W.widen (k := 2) (n := 12) (by decide) (by decide) ?_
      exact vx_ret (W.lret (v := gL σ (pGo r1) 1) hx hb hr (fun t ht hW => ⟨⟨gL σ (pGo r1) 1, σ, rfl, ⟨hT, rfl⟩, by rw [ht]; exact hP, va_K.moved hW.alike hK, hD⟩, hS.F ht⟩) hS.2.2 dX4_about_46)
    · rw [if_neg c2_1] at hT
      by_cases c2_2 : p2 = 2
      · rw [if_pos c2_2] at hT
        refine lv_tableIn (tgt := 47) hx hb dX4_about_7 (by rw [c2_2]; decide) (by rw [c2_2]; decide) (by rw [c2_2]; rfl) (by decide) ?_
        refine lv_aload_n hx hb dX4_about_47 rfl (lv_at hl 0 rfl) ?_
        refine va_get (D := D) (ci := 0) (v := .long (gL σ (pGo r1) 2)) (C := RX0) (T := TX0) (N := 5) hx hb ht inX0 hown hK hP (pGo r1) (g_Go hi_r1) rfl 2 (by decide) (ht _ mw_144) (fun _ h9 => h9) rfl dX4_about_48 ?_
        refine W.widen (k := 2) (n := 12) (by decide) (by decide) ?_
        exact vx_ret (W.lret (v := gL σ (pGo r1) 2) hx hb hr (fun t ht hW => ⟨⟨gL σ (pGo r1) 2, σ, rfl, ⟨hT, rfl⟩, by rw [ht]; exact hP, va_K.moved hW.alike hK, hD⟩, hS.F ht⟩) hS.2.2 dX4_about_51)
      · rw [if_neg c2_2] at hT
        by_cases c2_3 : p2 = 3
        · rw [if_pos c2_3] at hT
          refine lv_tableIn (tgt := 52) hx hb dX4_about_7 (by rw [c2_3]; decide) (by rw [c2_3]; decide) (by rw [c2_3]; rfl) (by decide) ?_
          refine lv_aload_n hx hb dX4_about_52 rfl (lv_at hl 0 rfl) ?_
          refine va_get (D := D) (ci := 0) (v := .int (gF σ (pGo r1) 3)) (C := RX0) (T := TX0) (N := 5) hx hb ht inX0 hown hK hP (pGo r1) (g_Go hi_r1) rfl 3 (by decide) (ht _ mw_146) (fun _ h9 => h9) rfl dX4_about_53 ?_
          refine lv_i2l hx hb dX4_about_56 rfl ?_
          refine W.widen (k := 2) (n := 12) (by decide) (by decide) ?_
          exact vx_ret (W.lret (v := (gF σ (pGo r1) 3).toInt64) hx hb hr (fun t ht hW => ⟨⟨(gF σ (pGo r1) 3).toInt64, σ, rfl, ⟨hT, rfl⟩, by rw [ht]; exact hP, va_K.moved hW.alike hK, hD⟩, hS.F ht⟩) hS.2.2 dX4_about_57)
        · rw [if_neg c2_3] at hT
          refine lv_tableOut (tgt := 58) hx hb dX4_about_7 (sw_out4 c2_0 c2_1 c2_2 c2_3) (by decide) ?_
          exact vx_throwS (own := RX4) (cls := "java/lang/IndexOutOfBoundsException") (names := th_n) hx hb hl9 hown thf_IndexOutOfBoundsException thf_n (ht _ mw_352) (ht _ mw_13) (hE.str (own := RX4) (k := 178) (tx := "what") (by decide +kernel)).choose_spec (vx_hat (B := th_B "java/lang/IndexOutOfBoundsException") (fun w hw => ht w (thw_IndexOutOfBoundsException w hw)) thb_IndexOutOfBoundsException (hE.th (by decide +kernel))) (thg_IndexOutOfBoundsException _) hE.1 hE.2.1 hS (hl.1.trans hml.symm) dX4_about_58 dX4_about_61 dX4_about_62 dX4_about_64 dX4_about_67 (fun x hx => (hEx x hx).elim) (Nat.le_of_ble_eq_true rfl) (Nat.le_of_ble_eq_true rfl) (Nat.le_of_ble_eq_true rfl) (Nat.le_of_ble_eq_true rfl) hlocks (fun t ha hsz hk => xB_end hT hK hP hD hS ha hsz hk) hS.2.2 (by decide) (by decide)
set_option maxHeartbeats 4000000 in
set_option maxRecDepth 100000 in
theorem k_apart (l : Launch) (hl9 : l.stackTraces = false) (D : va_G) (ad : Nat → Nat) (kk : Nat → ClassId) (sz : Nat) (σ : St) (p1 : Int32) (p2 : Int32) : vx_Met l yX4_apart wsX4_apart { frames := 8, cells := 2, slots := 12, locals := 132 } (va_Pc [.ref (ad 0), .int p1, .int p2] (PB D ad kk sz σ)) (va_Qi (fun r u => .ok (r, u) = M_apart σ p1 p2) (QB D ad kk sz) (aL 96 ad sz)) (XB (M_apart σ p1 p2) D ad kk sz σ) 2 12 (aL 96 ad sz) := by
  refine vx_ofW (cc := cX4_apart) (maxL := 5) (ret := (some .boolean)) (by decide) rfl ?_
  intro p e s m args below meth c s₁ B hml hEx hv
  obtain ⟨rfl, hsz, hP, hK, hD0, hE⟩ := hv
  have hx := B.exec
  have hb := B.bytes
  have hr := B.returns
  have hts := atoms_spec (ws := wsX4_apart) B.pre
  have hown : s.vm.findClass RX4 = some m.cls := findClass_of_methodNamed B.named
  have hlocks := B.notSynchronized
  subst hsz
  have hD : va_D (aL 96 ad s.heap.size) (wB ad kk σ) := aL_D hD0
  have hS : va_S (aL 96 ad s.heap.size) s.heap s.heap [] := va_S.rf
  have hl := lv_entry ([.ref (ad 0), .int p1, .int p2]) (n := 5) (Nat.le_of_ble_eq_true rfl)
  rw [lg_entry_eq]
  generalize (lg_sl ([.ref (ad 0), .int p1, .int p2]) ++ List.replicate (5 - (lg_sl ([.ref (ad 0), .int p1, .int p2])).length) Slot.unset).toArray = ls at hl ⊢
  have hl : lv_has ls 5 [(0, .ref (ad 0)), (1, .int p1), (2, .int p2)] := hl
  have CF : CallFix p m c cX4_apart 5 s ([.ref (ad 0), .int p1, .int p2] : List Value).toArray wsX4_apart RX4 := ⟨hx, hb, hml, hown, hts⟩
  have ht : ∀ w ∈ T0, w.before ([.ref (ad 0), .int p1, .int p2] : List Value).toArray s = true := fun w h => hts w (List.mem_cons_of_mem _ h)
  generalize hT : M_apart σ p1 p2 = T
  rw [M_apart] at hT
  refine lv_aload_n hx hb dX4_apart_0 rfl (lv_at hl 0 rfl) ?_
  refine lv_iload_n hx hb dX4_apart_1 rfl (lv_at hl 1 rfl) ?_
  refine kX_q (vx_runV (As := [.int p1]) (rest := []) CF (k_goodAt l hl9 D ad kk _ σ p1) ⟨callB_of 1 hts (gT mw_479) rfl rfl rfl (ht _ mw_1) (ht _ mw_476) (by decide +kernel) ⟨Nat.le_of_ble_eq_true rfl, Nat.le_of_ble_eq_true rfl⟩, (ht _ mw_478), (ht _ ms_14)⟩ (preV_B hK hP hD hE hS (ci := 4) rfl rfl g_MB) rfl rfl hl.1 rfl (lv_room (Nat.le_of_ble_eq_true rfl)) dX4_apart_2 ⟨Nat.le_of_ble_eq_true rfl, Nat.le_of_ble_eq_true rfl⟩) hS hEx hlocks (by decide) (by decide) (fun E h => by rw [← h, xb_er] at hT; exact hT) (fun r1 u9 H locs hw hP hD hS => ?_)
  obtain ⟨r1, rfl, h_r1, e9⟩ := hw
  rw [e9] at hP hD
  have hi_r1 : r1 < 12 := (gAt_lt h_r1)
  refine W.eq (g2 := F0 m 5 ls (.ref (ad (pGo r1)) :: [])) rfl ?_
  rw [← h_r1, xb_ok] at hT
  refine lv_astore_n (lv' := [(3, .ref (ad (pGo r1))), (0, .ref (ad 0)), (1, .int p1), (2, .int p2)]) hx hb dX4_apart_5 rfl hl (by decide) rfl (fun ls hl => ?_)
  refine lv_aload_n hx hb dX4_apart_6 rfl (lv_at hl 1 rfl) ?_
  refine lv_iload_n hx hb dX4_apart_7 rfl (lv_at hl 3 rfl) ?_
  refine kX_q (vx_runV (As := [.int p2]) (rest := []) CF (k_goodAt l hl9 D ad kk _ σ p2) ⟨callB_of 1 hts (gT mw_479) rfl rfl rfl (ht _ mw_1) (ht _ mw_476) (by decide +kernel) ⟨Nat.le_of_ble_eq_true rfl, Nat.le_of_ble_eq_true rfl⟩, (ht _ mw_478), (ht _ ms_14)⟩ (preV_B hK hP hD hE hS (ci := 4) rfl rfl g_MB) rfl rfl hl.1 rfl (lv_room (Nat.le_of_ble_eq_true rfl)) dX4_apart_8 ⟨Nat.le_of_ble_eq_true rfl, Nat.le_of_ble_eq_true rfl⟩) hS hEx hlocks (by decide) (by decide) (fun E h => by rw [← h, xb_er] at hT; exact hT) (fun r2 u9 H locs hw hP hD hS => ?_)
  obtain ⟨r2, rfl, h_r2, e9⟩ := hw
  rw [e9] at hP hD
  have hi_r2 : r2 < 12 := (gAt_lt h_r2)
  refine W.eq (g2 := F0 m 11 ls (.ref (ad (pGo r2)) :: [])) rfl ?_
  rw [← h_r2, xb_ok] at hT
  refine lv_astore (lv' := [(4, .ref (ad (pGo r2))), (3, .ref (ad (pGo r1))), (0, .ref (ad 0)), (1, .int p1), (2, .int p2)]) hx hb dX4_apart_11 hl (by decide) rfl (fun ls hl => ?_)
  refine lv_iload_n hx hb dX4_apart_13 rfl (lv_at hl 3 rfl) ?_
  refine lv_iload_n hx hb dX4_apart_14 rfl (lv_at hl 4 rfl) ?_
  refine lv_icmp_eq (tgt := 38) hx hb dX4_apart_15 (by decide) (fun c3 => ?_) (fun c3 => ?_)
  · rw [if_pos c3] at hT
    refine lv_iconst (v := 0) hx hb dX4_apart_38 (by decide) ?_
    exact vx_ret (W.zret (v := 0) hx hb hr rfl (fun t ht hW => ⟨⟨0, σ, rfl, hT, by rw [ht]; exact hP, va_K.moved hW.alike hK, hD⟩, hS.F ht⟩) hS.2.2 dX4_apart_39)
  · rw [if_neg c3] at hT
    refine lv_aload_n hx hb dX4_apart_18 rfl (lv_at hl 1 rfl) ?_
    refine va_get (D := D) (ci := 0) (v := .int (gF σ (pGo r1) 3)) (C := RX0) (T := TX0) (N := 5) hx hb ht inX0 hown hK hP (pGo r1) (g_Go hi_r1) rfl 3 (by decide) (ht _ mw_146) (fun _ h9 => h9) rfl dX4_apart_19 ?_
    refine lv_iconst (v := (-1)) hx hb dX4_apart_22 (by decide) ?_
    refine lv_icmp_eq (tgt := 40) hx hb dX4_apart_23 (by decide) (fun c4 => ?_) (fun c4 => ?_)
    · rw [if_pos c4] at hT
      refine lv_aload_n hx hb dX4_apart_40 rfl (lv_at hl 1 rfl) ?_
      refine lv_aload_n hx hb dX4_apart_41 rfl (lv_at hl 1 rfl) ?_
      refine va_get (D := D) (ci := 0) (v := .int (gF σ (pGo r1) 4)) (C := RX0) (T := TX0) (N := 5) hx hb ht inX0 hown hK hP (pGo r1) (g_Go hi_r1) rfl 4 (by decide) (ht _ mw_147) (fun _ h9 => h9) rfl dX4_apart_42 ?_
      refine lv_iload_n hx hb dX4_apart_45 rfl (lv_at hl 4 rfl) ?_
      refine lv_iconst (v := 1) hx hb dX4_apart_46 (by decide) ?_
      refine vp_callSi (W.runS (As := [.int (gF σ (pGo r1) 4), .int p2, .int 1]) (rest := [.ref (ad (pGo r1))]) CF (k_with l (gF σ (pGo r1) 4) p2 1) ⟨callB_of 3 hts (gT mw_325) rfl rfl rfl (ht _ mw_1) (ht _ mw_403) (by decide +kernel) ⟨Nat.le_of_ble_eq_true rfl, Nat.le_of_ble_eq_true rfl⟩, (ht _ mw_324)⟩ preEq rfl rfl hl.1 rfl (lv_room (Nat.le_of_ble_eq_true rfl)) dX4_apart_47 ⟨Nat.le_of_ble_eq_true rfl, Nat.le_of_ble_eq_true rfl⟩) (fun r5 h_r5 => ?_)
      obtain rfl := h_r5
      refine va_put (D := D) (ci := 0) (v := .int (M_with (gF σ (pGo r1) 4) p2 1)) (ty := .int) (C := RX0) (T := TX0) (N := 5) hx hb ht inX0 tyX0 tyX0_ok nmX0 hown hK hP hD hS (pGo r1) (g_Go hi_r1) rfl 4 (by decide) (ht _ mw_147) (fun _ h9 => h9) rfl (by decide +kernel) rfl rfl (Nat.le_of_ble_eq_true rfl) dX4_apart_50 (fun H locs hP hD hS => ?_)
      rw [s_Go_4 hi_r1] at hP hD
      refine lv_aload hx hb dX4_apart_53 (lv_at hl 0 rfl) ?_
      refine lv_aload hx hb dX4_apart_55 (lv_at hl 0 rfl) ?_
      refine va_get (D := D) (ci := 0) (v := .int (gF (sF σ (pGo r1) 4 (M_with (gF σ (pGo r1) 4) p2 1)) (pGo r2) 4)) (C := RX0) (T := TX0) (N := 5) hx hb ht inX0 hown hK hP (pGo r2) (g_Go hi_r2) rfl 4 (by decide) (ht _ mw_147) (fun _ h9 => h9) rfl dX4_apart_57 ?_
      refine lv_iload_n hx hb dX4_apart_60 rfl (lv_at hl 3 rfl) ?_
      refine lv_iconst (v := 1) hx hb dX4_apart_61 (by decide) ?_
      refine vp_callSi (W.runS (As := [.int (gF (sF σ (pGo r1) 4 (M_with (gF σ (pGo r1) 4) p2 1)) (pGo r2) 4), .int p1, .int 1]) (rest := [.ref (ad (pGo r2))]) CF (k_with l (gF (sF σ (pGo r1) 4 (M_with (gF σ (pGo r1) 4) p2 1)) (pGo r2) 4) p1 1) ⟨callB_of 3 hts (gT mw_325) rfl rfl rfl (ht _ mw_1) (ht _ mw_403) (by decide +kernel) ⟨Nat.le_of_ble_eq_true rfl, Nat.le_of_ble_eq_true rfl⟩, (ht _ mw_324)⟩ preEq rfl rfl hl.1 rfl (lv_room (Nat.le_of_ble_eq_true rfl)) dX4_apart_62 ⟨Nat.le_of_ble_eq_true rfl, Nat.le_of_ble_eq_true rfl⟩) (fun r6 h_r6 => ?_)
      obtain rfl := h_r6
      refine va_put (D := D) (ci := 0) (v := .int (M_with (gF (sF σ (pGo r1) 4 (M_with (gF σ (pGo r1) 4) p2 1)) (pGo r2) 4) p1 1)) (ty := .int) (C := RX0) (T := TX0) (N := 5) hx hb ht inX0 tyX0 tyX0_ok nmX0 hown hK hP hD hS (pGo r2) (g_Go hi_r2) rfl 4 (by decide) (ht _ mw_147) (fun _ h9 => h9) rfl (by decide +kernel) rfl rfl (Nat.le_of_ble_eq_true rfl) dX4_apart_65 (fun H locs hP hD hS => ?_)
      rw [s_Go_4 hi_r2] at hP hD
      refine lv_iconst (v := 1) hx hb dX4_apart_68 (by decide) ?_
      exact vx_ret (W.zret (v := 1) hx hb hr rfl (fun t ht hW => ⟨⟨1, (sF (sF σ (pGo r1) 4 (M_with (gF σ (pGo r1) 4) p2 1)) (pGo r2) 4 (M_with (gF (sF σ (pGo r1) 4 (M_with (gF σ (pGo r1) 4) p2 1)) (pGo r2) 4) p1 1)), rfl, hT, by rw [ht]; exact hP, va_K.moved hW.alike hK, hD⟩, hS.F ht⟩) hS.2.2 dX4_apart_69)
    · rw [if_neg c4] at hT
      refine lv_aload_n hx hb dX4_apart_26 rfl (lv_at hl 1 rfl) ?_
      refine va_get (D := D) (ci := 0) (v := .int (gF σ (pGo r1) 3)) (C := RX0) (T := TX0) (N := 5) hx hb ht inX0 hown hK hP (pGo r1) (g_Go hi_r1) rfl 3 (by decide) (ht _ mw_146) (fun _ h9 => h9) rfl dX4_apart_27 ?_
      refine lv_aload hx hb dX4_apart_30 (lv_at hl 0 rfl) ?_
      refine va_get (D := D) (ci := 0) (v := .int (gF σ (pGo r2) 3)) (C := RX0) (T := TX0) (N := 5) hx hb ht inX0 hown hK hP (pGo r2) (g_Go hi_r2) rfl 3 (by decide) (ht _ mw_146) (fun _ h9 => h9) rfl dX4_apart_32 ?_
      refine lv_icmp_ne (tgt := 40) hx hb dX4_apart_35 (by decide) (fun c7 => ?_) (fun c7 => ?_)
      · rw [if_neg c7] at hT
        refine lv_aload_n hx hb dX4_apart_40 rfl (lv_at hl 1 rfl) ?_
        refine lv_aload_n hx hb dX4_apart_41 rfl (lv_at hl 1 rfl) ?_
        refine va_get (D := D) (ci := 0) (v := .int (gF σ (pGo r1) 4)) (C := RX0) (T := TX0) (N := 5) hx hb ht inX0 hown hK hP (pGo r1) (g_Go hi_r1) rfl 4 (by decide) (ht _ mw_147) (fun _ h9 => h9) rfl dX4_apart_42 ?_
        refine lv_iload_n hx hb dX4_apart_45 rfl (lv_at hl 4 rfl) ?_
        refine lv_iconst (v := 1) hx hb dX4_apart_46 (by decide) ?_
        refine vp_callSi (W.runS (As := [.int (gF σ (pGo r1) 4), .int p2, .int 1]) (rest := [.ref (ad (pGo r1))]) CF (k_with l (gF σ (pGo r1) 4) p2 1) ⟨callB_of 3 hts (gT mw_325) rfl rfl rfl (ht _ mw_1) (ht _ mw_403) (by decide +kernel) ⟨Nat.le_of_ble_eq_true rfl, Nat.le_of_ble_eq_true rfl⟩, (ht _ mw_324)⟩ preEq rfl rfl hl.1 rfl (lv_room (Nat.le_of_ble_eq_true rfl)) dX4_apart_47 ⟨Nat.le_of_ble_eq_true rfl, Nat.le_of_ble_eq_true rfl⟩) (fun r8 h_r8 => ?_)
        obtain rfl := h_r8
        refine va_put (D := D) (ci := 0) (v := .int (M_with (gF σ (pGo r1) 4) p2 1)) (ty := .int) (C := RX0) (T := TX0) (N := 5) hx hb ht inX0 tyX0 tyX0_ok nmX0 hown hK hP hD hS (pGo r1) (g_Go hi_r1) rfl 4 (by decide) (ht _ mw_147) (fun _ h9 => h9) rfl (by decide +kernel) rfl rfl (Nat.le_of_ble_eq_true rfl) dX4_apart_50 (fun H locs hP hD hS => ?_)
        rw [s_Go_4 hi_r1] at hP hD
        refine lv_aload hx hb dX4_apart_53 (lv_at hl 0 rfl) ?_
        refine lv_aload hx hb dX4_apart_55 (lv_at hl 0 rfl) ?_
        refine va_get (D := D) (ci := 0) (v := .int (gF (sF σ (pGo r1) 4 (M_with (gF σ (pGo r1) 4) p2 1)) (pGo r2) 4)) (C := RX0) (T := TX0) (N := 5) hx hb ht inX0 hown hK hP (pGo r2) (g_Go hi_r2) rfl 4 (by decide) (ht _ mw_147) (fun _ h9 => h9) rfl dX4_apart_57 ?_
        refine lv_iload_n hx hb dX4_apart_60 rfl (lv_at hl 3 rfl) ?_
        refine lv_iconst (v := 1) hx hb dX4_apart_61 (by decide) ?_
        refine vp_callSi (W.runS (As := [.int (gF (sF σ (pGo r1) 4 (M_with (gF σ (pGo r1) 4) p2 1)) (pGo r2) 4), .int p1, .int 1]) (rest := [.ref (ad (pGo r2))]) CF (k_with l (gF (sF σ (pGo r1) 4 (M_with (gF σ (pGo r1) 4) p2 1)) (pGo r2) 4) p1 1) ⟨callB_of 3 hts (gT mw_325) rfl rfl rfl (ht _ mw_1) (ht _ mw_403) (by decide +kernel) ⟨Nat.le_of_ble_eq_true rfl, Nat.le_of_ble_eq_true rfl⟩, (ht _ mw_324)⟩ preEq rfl rfl hl.1 rfl (lv_room (Nat.le_of_ble_eq_true rfl)) dX4_apart_62 ⟨Nat.le_of_ble_eq_true rfl, Nat.le_of_ble_eq_true rfl⟩) (fun r9 h_r9 => ?_)
        obtain rfl := h_r9
        refine va_put (D := D) (ci := 0) (v := .int (M_with (gF (sF σ (pGo r1) 4 (M_with (gF σ (pGo r1) 4) p2 1)) (pGo r2) 4) p1 1)) (ty := .int) (C := RX0) (T := TX0) (N := 5) hx hb ht inX0 tyX0 tyX0_ok nmX0 hown hK hP hD hS (pGo r2) (g_Go hi_r2) rfl 4 (by decide) (ht _ mw_147) (fun _ h9 => h9) rfl (by decide +kernel) rfl rfl (Nat.le_of_ble_eq_true rfl) dX4_apart_65 (fun H locs hP hD hS => ?_)
        rw [s_Go_4 hi_r2] at hP hD
        refine lv_iconst (v := 1) hx hb dX4_apart_68 (by decide) ?_
        exact vx_ret (W.zret (v := 1) hx hb hr rfl (fun t ht hW => ⟨⟨1, (sF (sF σ (pGo r1) 4 (M_with (gF σ (pGo r1) 4) p2 1)) (pGo r2) 4 (M_with (gF (sF σ (pGo r1) 4 (M_with (gF σ (pGo r1) 4) p2 1)) (pGo r2) 4) p1 1)), rfl, hT, by rw [ht]; exact hP, va_K.moved hW.alike hK, hD⟩, hS.F ht⟩) hS.2.2 dX4_apart_69)
      · rw [if_pos c7] at hT
        refine lv_iconst (v := 0) hx hb dX4_apart_38 (by decide) ?_
        exact vx_ret (W.zret (v := 0) hx hb hr rfl (fun t ht hW => ⟨⟨0, σ, rfl, hT, by rw [ht]; exact hP, va_K.moved hW.alike hK, hD⟩, hS.F ht⟩) hS.2.2 dX4_apart_39)
set_option maxHeartbeats 4000000 in
set_option maxRecDepth 100000 in
theorem k_put (l : Launch) (hl9 : l.stackTraces = false) (D : va_G) (ad : Nat → Nat) (kk : Nat → ClassId) (sz : Nat) (σ : St) (p1 : Int32) (p2 : Int32) : vx_Met l yX4_put wsX4_put { frames := 8, cells := 2, slots := 12, locals := 132 } (va_Pc [.ref (ad 0), .int p1, .int p2] (PB D ad kk sz σ)) (va_Qi (fun r u => .ok (r, u) = M_put σ p1 p2) (QB D ad kk sz) (aL 96 ad sz)) (XB (M_put σ p1 p2) D ad kk sz σ) 2 12 (aL 96 ad sz) := by
  refine vx_ofW (cc := cX4_put) (maxL := 5) (ret := (some .int)) (by decide) rfl ?_
  intro p e s m args below meth c s₁ B hml hEx hv
  obtain ⟨rfl, hsz, hP, hK, hD0, hE⟩ := hv
  have hx := B.exec
  have hb := B.bytes
  have hr := B.returns
  have hts := atoms_spec (ws := wsX4_put) B.pre
  have hown : s.vm.findClass RX4 = some m.cls := findClass_of_methodNamed B.named
  have hlocks := B.notSynchronized
  subst hsz
  have hD : va_D (aL 96 ad s.heap.size) (wB ad kk σ) := aL_D hD0
  have hS : va_S (aL 96 ad s.heap.size) s.heap s.heap [] := va_S.rf
  have hl := lv_entry ([.ref (ad 0), .int p1, .int p2]) (n := 5) (Nat.le_of_ble_eq_true rfl)
  rw [lg_entry_eq]
  generalize (lg_sl ([.ref (ad 0), .int p1, .int p2]) ++ List.replicate (5 - (lg_sl ([.ref (ad 0), .int p1, .int p2])).length) Slot.unset).toArray = ls at hl ⊢
  have hl : lv_has ls 5 [(0, .ref (ad 0)), (1, .int p1), (2, .int p2)] := hl
  have CF : CallFix p m c cX4_put 5 s ([.ref (ad 0), .int p1, .int p2] : List Value).toArray wsX4_put RX4 := ⟨hx, hb, hml, hown, hts⟩
  have ht : ∀ w ∈ T0, w.before ([.ref (ad 0), .int p1, .int p2] : List Value).toArray s = true := fun w h => hts w (List.mem_cons_of_mem _ h)
  generalize hT : M_put σ p1 p2 = T
  rw [M_put] at hT
  refine lv_aload_n hx hb dX4_put_0 rfl (lv_at hl 0 rfl) ?_
  refine lv_iload_n hx hb dX4_put_1 rfl (lv_at hl 1 rfl) ?_
  refine kX_q (vx_runV (As := [.int p1]) (rest := []) CF (k_goodAt l hl9 D ad kk _ σ p1) ⟨callB_of 1 hts (gT mw_479) rfl rfl rfl (ht _ mw_1) (ht _ mw_476) (by decide +kernel) ⟨Nat.le_of_ble_eq_true rfl, Nat.le_of_ble_eq_true rfl⟩, (ht _ mw_478), (ht _ ms_14)⟩ (preV_B hK hP hD hE hS (ci := 4) rfl rfl g_MB) rfl rfl hl.1 rfl (lv_room (Nat.le_of_ble_eq_true rfl)) dX4_put_2 ⟨Nat.le_of_ble_eq_true rfl, Nat.le_of_ble_eq_true rfl⟩) hS hEx hlocks (by decide) (by decide) (fun E h => by rw [← h, xb_er] at hT; exact hT) (fun r1 u9 H locs hw hP hD hS => ?_)
  obtain ⟨r1, rfl, h_r1, e9⟩ := hw
  rw [e9] at hP hD
  have hi_r1 : r1 < 12 := (gAt_lt h_r1)
  refine W.eq (g2 := F0 m 5 ls (.ref (ad (pGo r1)) :: [])) rfl ?_
  rw [← h_r1, xb_ok] at hT
  refine lv_astore_n (lv' := [(3, .ref (ad (pGo r1))), (0, .ref (ad 0)), (1, .int p1), (2, .int p2)]) hx hb dX4_put_5 rfl hl (by decide) rfl (fun ls hl => ?_)
  refine lv_iload_n hx hb dX4_put_6 rfl (lv_at hl 3 rfl) ?_
  refine lv_iconst (v := (-1)) hx hb dX4_put_7 (by decide) ?_
  refine lv_icmp_eq (tgt := 43) hx hb dX4_put_8 (by decide) (fun c2 => ?_) (fun c2 => ?_)
  · rw [if_pos c2] at hT
    refine lv_aload_n hx hb dX4_put_43 rfl (lv_at hl 0 rfl) ?_
    refine lv_iload_n hx hb dX4_put_44 rfl (lv_at hl 3 rfl) ?_
    refine va_put (D := D) (ci := 0) (v := .int p2) (ty := .int) (C := RX0) (T := TX0) (N := 5) hx hb ht inX0 tyX0 tyX0_ok nmX0 hown hK hP hD hS (pGo r1) (g_Go hi_r1) rfl 3 (by decide) (ht _ mw_146) (fun _ h9 => h9) rfl (by decide +kernel) rfl rfl (Nat.le_of_ble_eq_true rfl) dX4_put_45 (fun H locs hP hD hS => ?_)
    rw [s_Go_3 hi_r1] at hP hD
    refine lv_iconst (v := 0) hx hb dX4_put_48 (by decide) ?_
    refine W.widen (k := 2) (n := 12) (by decide) (by decide) ?_
    exact vx_ret (W.iret (v := 0) hx hb hr (fun t ht hW => ⟨⟨0, (sF σ (pGo r1) 3 p2), rfl, hT, by rw [ht]; exact hP, va_K.moved hW.alike hK, hD⟩, hS.F ht⟩) hS.2.2 dX4_put_49)
  · rw [if_neg c2] at hT
    refine lv_iload_n hx hb dX4_put_11 rfl (lv_at hl 3 rfl) ?_
    refine lv_bipush (v := 6) hx hb dX4_put_12 (by decide) ?_
    refine kX_v (vx_runS (As := [.int p2, .int 6]) (rest := []) CF (k_checkPlace l hl9 D ad kk _ σ p2 6) ⟨callB_of 2 hts (gT mw_351) rfl rfl rfl (ht _ mw_1) (ht _ mw_349) (by decide +kernel) ⟨Nat.le_of_ble_eq_true rfl, Nat.le_of_ble_eq_true rfl⟩, (ht _ mw_350)⟩ (preS_B hK hP hD hE hS) rfl rfl hl.1 rfl (lv_room (Nat.le_of_ble_eq_true rfl)) dX4_put_14 ⟨Nat.le_of_ble_eq_true rfl, Nat.le_of_ble_eq_true rfl⟩) hS hEx hlocks (by decide) (by decide) (fun E h => by rw [← h, xb_er] at hT; exact hT) (fun u9 H locs hw hP hD hS => ?_)
    obtain ⟨h_r3, e9⟩ := hw
    rw [e9] at hP hD
    rw [← h_r3, xb_ok] at hT
    refine lv_aload_n hx hb dX4_put_17 rfl (lv_at hl 0 rfl) ?_
    refine va_get (D := D) (ci := 0) (v := .int (gF σ (pGo r1) 4)) (C := RX0) (T := TX0) (N := 5) hx hb ht inX0 hown hK hP (pGo r1) (g_Go hi_r1) rfl 4 (by decide) (ht _ mw_147) (fun _ h9 => h9) rfl dX4_put_18 ?_
    refine lv_aload_n hx hb dX4_put_21 rfl (lv_at hl 1 rfl) ?_
    refine lv_iload_n hx hb dX4_put_22 rfl (lv_at hl 3 rfl) ?_
    refine kB_i (va_runV (As := [.int p2]) (rest := [.int (gF σ (pGo r1) 4)]) CF (k_goodsOn l D ad kk _ σ p2) ⟨callB_of 1 hts (gT mw_507) rfl rfl rfl (ht _ mw_1) (ht _ mw_504) (by decide +kernel) ⟨Nat.le_of_ble_eq_true rfl, Nat.le_of_ble_eq_true rfl⟩, (ht _ mw_506), (ht _ ms_15)⟩ (preV_B hK hP hD hE hS (ci := 4) rfl rfl g_MB) rfl rfl hl.1 rfl (lv_room (Nat.le_of_ble_eq_true rfl)) dX4_put_23 ⟨Nat.le_of_ble_eq_true rfl, Nat.le_of_ble_eq_true rfl⟩) hS (fun r4 u9 H locs hw hP hD hS => ?_)
    obtain ⟨rfl, e9⟩ := hw
    rw [e9] at hP hD
    refine lv_iand hx hb dX4_put_26 ?_
    refine vp_callSi (W.runS (As := [.int ((gF σ (pGo r1) 4) &&& (M_goodsOn σ p2))]) (rest := []) CF (k_lowest l ((gF σ (pGo r1) 4) &&& (M_goodsOn σ p2))) ⟨callB_of 1 hts (gT mw_434) rfl rfl rfl (ht _ mw_1) (ht _ mw_432) (by decide +kernel) ⟨Nat.le_of_ble_eq_true rfl, Nat.le_of_ble_eq_true rfl⟩, (ht _ mw_433)⟩ preEq rfl rfl hl.1 rfl (lv_room (Nat.le_of_ble_eq_true rfl)) dX4_put_27 ⟨Nat.le_of_ble_eq_true rfl, Nat.le_of_ble_eq_true rfl⟩) (fun r5 h_r5 => ?_)
    obtain rfl := h_r5
    refine lv_istore (lv' := [(4, .int (M_lowest ((gF σ (pGo r1) 4) &&& (M_goodsOn σ p2)))), (3, .ref (ad (pGo r1))), (0, .ref (ad 0)), (1, .int p1), (2, .int p2)]) hx hb dX4_put_30 hl (by decide) rfl (fun ls hl => ?_)
    refine lv_iload hx hb dX4_put_32 (lv_at hl 0 rfl) ?_
    refine lv_iconst (v := (-1)) hx hb dX4_put_34 (by decide) ?_
    refine lv_icmp_eq (tgt := 43) hx hb dX4_put_35 (by decide) (fun c6 => ?_) (fun c6 => ?_)
    · rw [if_pos c6] at hT
      refine lv_aload_n hx hb dX4_put_43 rfl (lv_at hl 1 rfl) ?_
      refine lv_iload_n hx hb dX4_put_44 rfl (lv_at hl 4 rfl) ?_
      refine va_put (D := D) (ci := 0) (v := .int p2) (ty := .int) (C := RX0) (T := TX0) (N := 5) hx hb ht inX0 tyX0 tyX0_ok nmX0 hown hK hP hD hS (pGo r1) (g_Go hi_r1) rfl 3 (by decide) (ht _ mw_146) (fun _ h9 => h9) rfl (by decide +kernel) rfl rfl (Nat.le_of_ble_eq_true rfl) dX4_put_45 (fun H locs hP hD hS => ?_)
      rw [s_Go_3 hi_r1] at hP hD
      refine lv_iconst (v := 0) hx hb dX4_put_48 (by decide) ?_
      exact vx_ret (W.iret (v := 0) hx hb hr (fun t ht hW => ⟨⟨0, (sF σ (pGo r1) 3 p2), rfl, hT, by rw [ht]; exact hP, va_K.moved hW.alike hK, hD⟩, hS.F ht⟩) hS.2.2 dX4_put_49)
    · rw [if_neg c6] at hT
      refine lv_iconst (v := 1) hx hb dX4_put_38 (by decide) ?_
      refine lv_iload hx hb dX4_put_39 (lv_at hl 0 rfl) ?_
      refine lv_iadd hx hb dX4_put_41 ?_
      exact vx_ret (W.iret (v := 1 + (M_lowest ((gF σ (pGo r1) 4) &&& (M_goodsOn σ p2)))) hx hb hr (fun t ht hW => ⟨⟨1 + (M_lowest ((gF σ (pGo r1) 4) &&& (M_goodsOn σ p2))), σ, rfl, hT, by rw [ht]; exact hP, va_K.moved hW.alike hK, hD⟩, hS.F ht⟩) hS.2.2 dX4_put_42)
set_option maxHeartbeats 4000000 in
set_option maxRecDepth 100000 in
theorem k_step (l : Launch) (hl9 : l.stackTraces = false) (D : va_G) (ad : Nat → Nat) (kk : Nat → ClassId) (sz : Nat) (σ : St) (p1 : Int32) (hI : IB σ) : vx_Met l yX4_step wsX4_step { frames := 7, cells := 1, slots := 6, locals := 111 } (va_Pc [.ref (ad 0), .int p1] (PB D ad kk sz σ)) (va_Qi (fun r u => .ok r = M_step σ p1 ∧ u = σ) (QB D ad kk sz) (aL 96 ad sz)) (XB (M_step σ p1) D ad kk sz σ) 1 6 (aL 96 ad sz) := by
  refine vx_ofW (cc := cX4_step) (maxL := 2) (ret := (some .int)) (by decide) rfl ?_
  intro p e s m args below meth c s₁ B hml hEx hv
  obtain ⟨rfl, hsz, hP, hK, hD0, hE⟩ := hv
  have hx := B.exec
  have hb := B.bytes
  have hr := B.returns
  have hts := atoms_spec (ws := wsX4_step) B.pre
  have hown : s.vm.findClass RX4 = some m.cls := findClass_of_methodNamed B.named
  have hlocks := B.notSynchronized
  subst hsz
  have hD : va_D (aL 96 ad s.heap.size) (wB ad kk σ) := aL_D hD0
  have hS : va_S (aL 96 ad s.heap.size) s.heap s.heap [] := va_S.rf
  have hl := lv_entry ([.ref (ad 0), .int p1]) (n := 2) (Nat.le_of_ble_eq_true rfl)
  rw [lg_entry_eq]
  generalize (lg_sl ([.ref (ad 0), .int p1]) ++ List.replicate (2 - (lg_sl ([.ref (ad 0), .int p1])).length) Slot.unset).toArray = ls at hl ⊢
  have hl : lv_has ls 2 [(0, .ref (ad 0)), (1, .int p1)] := hl
  have CF : CallFix p m c cX4_step 2 s ([.ref (ad 0), .int p1] : List Value).toArray wsX4_step RX4 := ⟨hx, hb, hml, hown, hts⟩
  have ht : ∀ w ∈ T0, w.before ([.ref (ad 0), .int p1] : List Value).toArray s = true := fun w h => hts w (List.mem_cons_of_mem _ h)
  generalize hT : M_step σ p1 = T
  rw [M_step] at hT
  refine lv_iload_n hx hb dX4_step_0 rfl (lv_at hl 1 rfl) ?_
  refine lv_aload_n hx hb dX4_step_1 rfl (lv_at hl 0 rfl) ?_
  refine va_get (D := D) (ci := 4) (v := .int (gF σ 0 8)) (C := RX4) (T := TX4) (N := 9) hx hb ht inX4 hown hK hP 0 g_MB rfl 8 (by decide) (ht _ mw_167) (fun _ h9 => h9) rfl dX4_step_2 ?_
  refine kX_v (vx_runS (As := [.int p1, .int (gF σ 0 8)]) (rest := []) CF (k_checkPlace l hl9 D ad kk _ σ p1 (gF σ 0 8)) ⟨callB_of 2 hts (gT mw_351) rfl rfl rfl (ht _ mw_1) (ht _ mw_349) (by decide +kernel) ⟨Nat.le_of_ble_eq_true rfl, Nat.le_of_ble_eq_true rfl⟩, (ht _ mw_350)⟩ (preS_B hK hP hD hE hS) rfl rfl hl.1 rfl (lv_room (Nat.le_of_ble_eq_true rfl)) dX4_step_5 ⟨Nat.le_of_ble_eq_true rfl, Nat.le_of_ble_eq_true rfl⟩) hS hEx hlocks (by decide) (by decide) (fun E h => by rw [← h, xb_er] at hT; exact hT) (fun u9 H locs hw hP hD hS => ?_)
  obtain ⟨h_r1, e9⟩ := hw
  rw [e9] at hP hD
  rw [← h_r1, xb_ok] at hT
  have hk := h_r1
  refine lv_aload_n hx hb dX4_step_8 rfl (lv_at hl 0 rfl) ?_
  refine va_get (D := D) (ci := 4) (v := .ref (ad 94)) (C := RX4) (T := TX4) (N := 9) hx hb ht inX4 hown hK hP 0 g_MB rfl 4 (by decide) (ht _ mw_163) (fun _ h9 => h9) rfl dX4_step_9 ?_
  refine lv_iload_n hx hb dX4_step_12 rfl (lv_at hl 1 rfl) ?_
  refine va_iald (i := p1) hx hb hK hP 94 0 g_planned rfl (vin_chk hk hI.pl) dX4_step_13 ?_
  exact vx_ret (W.iret (v := gA σ 94 p1.toNatClampNeg) hx hb hr (fun t ht hW => ⟨⟨gA σ 94 p1.toNatClampNeg, σ, rfl, ⟨hT, rfl⟩, by rw [ht]; exact hP, va_K.moved hW.alike hK, hD⟩, hS.F ht⟩) hS.2.2 dX4_step_14)
set_option maxHeartbeats 4000000 in
set_option maxRecDepth 100000 in
theorem k_count (l : Launch) (hl9 : l.stackTraces = false) (D : va_G) (ad : Nat → Nat) (kk : Nat → ClassId) (sz : Nat) (σ : St) (p1 : Int32) (hI : IB σ) : vx_Met l yX4_count wsX4_count { frames := 6, cells := 1, slots := 6, locals := 90 } (va_Pc [.ref (ad 0), .int p1] (PB D ad kk sz σ)) (va_Qi (fun r u => .ok r = M_count σ p1 ∧ u = σ) (QB D ad kk sz) (aL 96 ad sz)) (XB (M_count σ p1) D ad kk sz σ) 1 6 (aL 96 ad sz) := by
  refine vx_ofW (cc := cX4_count) (maxL := 2) (ret := (some .int)) (by decide) rfl ?_
  intro p e s m args below meth c s₁ B hml hEx hv
  obtain ⟨rfl, hsz, hP, hK, hD0, hE⟩ := hv
  have hx := B.exec
  have hb := B.bytes
  have hr := B.returns
  have hts := atoms_spec (ws := wsX4_count) B.pre
  have hown : s.vm.findClass RX4 = some m.cls := findClass_of_methodNamed B.named
  have hlocks := B.notSynchronized
  subst hsz
  have hD : va_D (aL 96 ad s.heap.size) (wB ad kk σ) := aL_D hD0
  have hS : va_S (aL 96 ad s.heap.size) s.heap s.heap [] := va_S.rf
  have hl := lv_entry ([.ref (ad 0), .int p1]) (n := 2) (Nat.le_of_ble_eq_true rfl)
  rw [lg_entry_eq]
  generalize (lg_sl ([.ref (ad 0), .int p1]) ++ List.replicate (2 - (lg_sl ([.ref (ad 0), .int p1])).length) Slot.unset).toArray = ls at hl ⊢
  have hl : lv_has ls 2 [(0, .ref (ad 0)), (1, .int p1)] := hl
  have CF : CallFix p m c cX4_count 2 s ([.ref (ad 0), .int p1] : List Value).toArray wsX4_count RX4 := ⟨hx, hb, hml, hown, hts⟩
  have ht : ∀ w ∈ T0, w.before ([.ref (ad 0), .int p1] : List Value).toArray s = true := fun w h => hts w (List.mem_cons_of_mem _ h)
  generalize hT : M_count σ p1 = T
  rw [M_count] at hT
  refine lv_iload_n hx hb dX4_count_0 rfl (lv_at hl 1 rfl) ?_
  by_cases c1_0 : p1 = 0
  · rw [if_pos c1_0] at hT
    refine lv_tableIn (tgt := 36) hx hb dX4_count_1 (by rw [c1_0]; decide) (by rw [c1_0]; decide) (by rw [c1_0]; rfl) (by decide) ?_
    refine lv_aload_n hx hb dX4_count_36 rfl (lv_at hl 0 rfl) ?_
    refine va_get (D := D) (ci := 4) (v := .ref (ad 1)) (C := RX4) (T := TX4) (N := 9) hx hb ht inX4 hown hK hP 0 g_MB rfl 0 (by decide) (ht _ mw_159) (fun _ h9 => h9) rfl dX4_count_37 ?_
    refine va_get (D := D) (ci := 2) (v := .int (gF σ 1 1)) (C := RX2) (T := TX2) (N := 3) hx hb ht inX2 hown hK hP 1 g_Pad rfl 1 (by decide) (ht _ mw_32) (fun _ h9 => h9) rfl dX4_count_40 ?_
    refine W.widen (k := 1) (n := 6) (by decide) (by decide) ?_
    exact vx_ret (W.iret (v := gF σ 1 1) hx hb hr (fun t ht hW => ⟨⟨gF σ 1 1, σ, rfl, ⟨hT, rfl⟩, by rw [ht]; exact hP, va_K.moved hW.alike hK, hD⟩, hS.F ht⟩) hS.2.2 dX4_count_43)
  · rw [if_neg c1_0] at hT
    by_cases c1_1 : p1 = 1
    · rw [if_pos c1_1] at hT
      refine lv_tableIn (tgt := 44) hx hb dX4_count_1 (by rw [c1_1]; decide) (by rw [c1_1]; decide) (by rw [c1_1]; rfl) (by decide) ?_
      refine lv_aload_n hx hb dX4_count_44 rfl (lv_at hl 0 rfl) ?_
      refine va_get (D := D) (ci := 4) (v := .int (gF σ 0 6)) (C := RX4) (T := TX4) (N := 9) hx hb ht inX4 hown hK hP 0 g_MB rfl 6 (by decide) (ht _ mw_165) (fun _ h9 => h9) rfl dX4_count_45 ?_
      refine W.widen (k := 1) (n := 6) (by decide) (by decide) ?_
      exact vx_ret (W.iret (v := gF σ 0 6) hx hb hr (fun t ht hW => ⟨⟨gF σ 0 6, σ, rfl, ⟨hT, rfl⟩, by rw [ht]; exact hP, va_K.moved hW.alike hK, hD⟩, hS.F ht⟩) hS.2.2 dX4_count_48)
    · rw [if_neg c1_1] at hT
      by_cases c1_2 : p1 = 2
      · rw [if_pos c1_2] at hT
        refine lv_tableIn (tgt := 49) hx hb dX4_count_1 (by rw [c1_2]; decide) (by rw [c1_2]; decide) (by rw [c1_2]; rfl) (by decide) ?_
        refine lv_aload_n hx hb dX4_count_49 rfl (lv_at hl 0 rfl) ?_
        refine va_get (D := D) (ci := 4) (v := .int (gF σ 0 7)) (C := RX4) (T := TX4) (N := 9) hx hb ht inX4 hown hK hP 0 g_MB rfl 7 (by decide) (ht _ mw_166) (fun _ h9 => h9) rfl dX4_count_50 ?_
        refine W.widen (k := 1) (n := 6) (by decide) (by decide) ?_
        exact vx_ret (W.iret (v := gF σ 0 7) hx hb hr (fun t ht hW => ⟨⟨gF σ 0 7, σ, rfl, ⟨hT, rfl⟩, by rw [ht]; exact hP, va_K.moved hW.alike hK, hD⟩, hS.F ht⟩) hS.2.2 dX4_count_53)
      · rw [if_neg c1_2] at hT
        by_cases c1_3 : p1 = 3
        · rw [if_pos c1_3] at hT
          refine lv_tableIn (tgt := 54) hx hb dX4_count_1 (by rw [c1_3]; decide) (by rw [c1_3]; decide) (by rw [c1_3]; rfl) (by decide) ?_
          refine lv_aload_n hx hb dX4_count_54 rfl (lv_at hl 0 rfl) ?_
          refine kB_i (va_runV (As := []) (rest := []) CF (k_rowsOfAll l D ad kk _ σ hI) ⟨callB_of 0 hts (gT mw_566) rfl rfl rfl (ht _ mw_1) (ht _ mw_563) (by decide +kernel) ⟨Nat.le_of_ble_eq_true rfl, Nat.le_of_ble_eq_true rfl⟩, (ht _ mw_565), (ht _ ms_22)⟩ (preV_B hK hP hD hE hS (ci := 4) rfl rfl g_MB) rfl rfl hl.1 rfl (lv_room (Nat.le_of_ble_eq_true rfl)) dX4_count_55 ⟨Nat.le_of_ble_eq_true rfl, Nat.le_of_ble_eq_true rfl⟩) hS (fun r2 u9 H locs hw hP hD hS => ?_)
          obtain ⟨rfl, e9⟩ := hw
          rw [e9] at hP hD
          refine W.widen (k := 1) (n := 6) (by decide) (by decide) ?_
          exact vx_ret (W.iret (v := M_rowsOfAll σ) hx hb hr (fun t ht hW => ⟨⟨M_rowsOfAll σ, σ, rfl, ⟨hT, rfl⟩, by rw [ht]; exact hP, va_K.moved hW.alike hK, hD⟩, hS.F ht⟩) hS.2.2 dX4_count_58)
        · rw [if_neg c1_3] at hT
          by_cases c1_4 : p1 = 4
          · rw [if_pos c1_4] at hT
            refine lv_tableIn (tgt := 59) hx hb dX4_count_1 (by rw [c1_4]; decide) (by rw [c1_4]; decide) (by rw [c1_4]; rfl) (by decide) ?_
            refine lv_aload_n hx hb dX4_count_59 rfl (lv_at hl 0 rfl) ?_
            refine va_get (D := D) (ci := 4) (v := .int (gF σ 0 8)) (C := RX4) (T := TX4) (N := 9) hx hb ht inX4 hown hK hP 0 g_MB rfl 8 (by decide) (ht _ mw_167) (fun _ h9 => h9) rfl dX4_count_60 ?_
            refine W.widen (k := 1) (n := 6) (by decide) (by decide) ?_
            exact vx_ret (W.iret (v := gF σ 0 8) hx hb hr (fun t ht hW => ⟨⟨gF σ 0 8, σ, rfl, ⟨hT, rfl⟩, by rw [ht]; exact hP, va_K.moved hW.alike hK, hD⟩, hS.F ht⟩) hS.2.2 dX4_count_63)
          · rw [if_neg c1_4] at hT
            refine lv_tableOut (tgt := 64) hx hb dX4_count_1 (sw_out5 c1_0 c1_1 c1_2 c1_3 c1_4) (by decide) ?_
            exact vx_throwS (own := RX4) (cls := "java/lang/IndexOutOfBoundsException") (names := th_n) hx hb hl9 hown thf_IndexOutOfBoundsException thf_n (ht _ mw_352) (ht _ mw_13) (hE.str (own := RX4) (k := 178) (tx := "what") (by decide +kernel)).choose_spec (vx_hat (B := th_B "java/lang/IndexOutOfBoundsException") (fun w hw => ht w (thw_IndexOutOfBoundsException w hw)) thb_IndexOutOfBoundsException (hE.th (by decide +kernel))) (thg_IndexOutOfBoundsException _) hE.1 hE.2.1 hS (hl.1.trans hml.symm) dX4_count_64 dX4_count_67 dX4_count_68 dX4_count_70 dX4_count_73 (fun x hx => (hEx x hx).elim) (Nat.le_of_ble_eq_true rfl) (Nat.le_of_ble_eq_true rfl) (Nat.le_of_ble_eq_true rfl) (Nat.le_of_ble_eq_true rfl) hlocks (fun t ha hsz hk => xB_end hT hK hP hD hS ha hsz hk) hS.2.2 (by decide) (by decide)
set_option maxHeartbeats 4000000 in
set_option maxRecDepth 100000 in
theorem k_plan (l : Launch) (hl9 : l.stackTraces = false) (D : va_G) (ad : Nat → Nat) (kk : Nat → ClassId) (sz : Nat) (σ : St) (p1 : Int32) (p2 : Int32) (hI : IB σ) : vx_Met l yX4_plan wsX4_plan { frames := 8, cells := 2, slots := 12, locals := 132 } (va_Pc [.ref (ad 0), .int p1, .int p2] (PB D ad kk sz σ)) (va_Qi (fun r u => .ok (r, u) = M_plan σ p1 p2) (QB D ad kk sz) (aL 96 ad sz)) (XB (M_plan σ p1 p2) D ad kk sz σ) 2 12 (aL 96 ad sz) := by
  refine vx_ofW (cc := cX4_plan) (maxL := 6) (ret := (some .int)) (by decide) rfl ?_
  intro p e s m args below meth c s₁ B hml hEx hv
  obtain ⟨rfl, hsz, hP, hK, hD0, hE⟩ := hv
  have hx := B.exec
  have hb := B.bytes
  have hr := B.returns
  have hts := atoms_spec (ws := wsX4_plan) B.pre
  have hown : s.vm.findClass RX4 = some m.cls := findClass_of_methodNamed B.named
  have hlocks := B.notSynchronized
  subst hsz
  have hD : va_D (aL 96 ad s.heap.size) (wB ad kk σ) := aL_D hD0
  have hS : va_S (aL 96 ad s.heap.size) s.heap s.heap [] := va_S.rf
  have hl := lv_entry ([.ref (ad 0), .int p1, .int p2]) (n := 6) (Nat.le_of_ble_eq_true rfl)
  rw [lg_entry_eq]
  generalize (lg_sl ([.ref (ad 0), .int p1, .int p2]) ++ List.replicate (6 - (lg_sl ([.ref (ad 0), .int p1, .int p2])).length) Slot.unset).toArray = ls at hl ⊢
  have hl : lv_has ls 6 [(0, .ref (ad 0)), (1, .int p1), (2, .int p2)] := hl
  have CF : CallFix p m c cX4_plan 6 s ([.ref (ad 0), .int p1, .int p2] : List Value).toArray wsX4_plan RX4 := ⟨hx, hb, hml, hown, hts⟩
  have ht : ∀ w ∈ T0, w.before ([.ref (ad 0), .int p1, .int p2] : List Value).toArray s = true := fun w h => hts w (List.mem_cons_of_mem _ h)
  generalize hT : M_plan σ p1 p2 = T
  rw [M_plan] at hT
  refine lv_aload_n hx hb dX4_plan_0 rfl (lv_at hl 0 rfl) ?_
  refine lv_iload_n hx hb dX4_plan_1 rfl (lv_at hl 1 rfl) ?_
  refine kX_q (vx_runV (As := [.int p1]) (rest := []) CF (k_pieceAt l hl9 D ad kk _ σ p1 hI) ⟨callB_of 1 hts (gT mw_386) rfl rfl rfl (ht _ mw_1) (ht _ mw_383) (by decide +kernel) ⟨Nat.le_of_ble_eq_true rfl, Nat.le_of_ble_eq_true rfl⟩, (ht _ mw_385), (ht _ ms_10)⟩ (preV_B hK hP hD hE hS (ci := 4) rfl rfl g_MB) rfl rfl hl.1 rfl (lv_room (Nat.le_of_ble_eq_true rfl)) dX4_plan_2 ⟨Nat.le_of_ble_eq_true rfl, Nat.le_of_ble_eq_true rfl⟩) hS hEx hlocks (by decide) (by decide) (fun E h => by rw [← h, xb_er] at hT; exact hT) (fun r1 u9 H locs hw hP hD hS => ?_)
  obtain ⟨r1, rfl, h_r1, e9⟩ := hw
  rw [e9] at hP hD
  have hi_r1 : r1 < 10 := (pAt_lt hI h_r1)
  refine W.eq (g2 := F0 m 5 ls (.ref (ad (pPi r1)) :: [])) rfl ?_
  rw [← h_r1, xb_ok] at hT
  refine lv_astore_n (lv' := [(3, .ref (ad (pPi r1))), (0, .ref (ad 0)), (1, .int p1), (2, .int p2)]) hx hb dX4_plan_5 rfl hl (by decide) rfl (fun ls hl => ?_)
  refine lv_iload_n hx hb dX4_plan_6 rfl (lv_at hl 3 rfl) ?_
  refine lv_aload_n hx hb dX4_plan_7 rfl (lv_at hl 1 rfl) ?_
  refine va_get (D := D) (ci := 4) (v := .int (gF σ 0 6)) (C := RX4) (T := TX4) (N := 9) hx hb ht inX4 hown hK hP 0 g_MB rfl 6 (by decide) (ht _ mw_165) (fun _ h9 => h9) rfl dX4_plan_8 ?_
  refine lv_iushr hx hb dX4_plan_11 rfl ?_
  refine lv_if_eq (tgt := 25) hx hb dX4_plan_12 (by decide) (fun c2 => ?_) (fun c2 => ?_)
  · rw [if_pos c2] at hT
    refine lv_aload_n hx hb dX4_plan_25 rfl (lv_at hl 1 rfl) ?_
    refine lv_iload_n hx hb dX4_plan_26 rfl (lv_at hl 3 rfl) ?_
    refine kB_i (va_runV (As := [.int p2]) (rest := []) CF (k_withAllAhead l D ad kk _ σ p2 hI) ⟨callB_of 1 hts (gT mw_519) rfl rfl rfl (ht _ mw_1) (ht _ mw_516) (by decide +kernel) ⟨Nat.le_of_ble_eq_true rfl, Nat.le_of_ble_eq_true rfl⟩, (ht _ mw_518), (ht _ ms_16)⟩ (preV_B hK hP hD hE hS (ci := 4) rfl rfl g_MB) rfl rfl hl.1 rfl (lv_room (Nat.le_of_ble_eq_true rfl)) dX4_plan_27 ⟨Nat.le_of_ble_eq_true rfl, Nat.le_of_ble_eq_true rfl⟩) hS (fun r3 u9 H locs hw hP hD hS => ?_)
    obtain ⟨rfl, e9⟩ := hw
    rw [e9] at hP hD
    refine lv_aload_n hx hb dX4_plan_30 rfl (lv_at hl 0 rfl) ?_
    refine va_get (D := D) (ci := 3) (v := .int (gF σ (pPi r1) 6)) (C := RX3) (T := TX3) (N := 8) hx hb ht inX3 hown hK hP (pPi r1) (g_Pi hi_r1) rfl 6 (by decide) (ht _ mw_112) (fun _ h9 => h9) rfl dX4_plan_31 ?_
    refine lv_iconst (v := (-1)) hx hb dX4_plan_34 (by decide) ?_
    refine lv_ixor hx hb dX4_plan_35 ?_
    refine lv_iand hx hb dX4_plan_36 ?_
    refine lv_istore (lv' := [(4, .int ((M_withAllAhead σ p2) &&& ((gF σ (pPi r1) 6) ^^^ (-1)))), (3, .ref (ad (pPi r1))), (0, .ref (ad 0)), (1, .int p1), (2, .int p2)]) hx hb dX4_plan_37 hl (by decide) rfl (fun ls hl => ?_)
    refine lv_iload hx hb dX4_plan_39 (lv_at hl 0 rfl) ?_
    refine vp_callSi (W.runS (As := [.int ((M_withAllAhead σ p2) &&& ((gF σ (pPi r1) 6) ^^^ (-1)))]) (rest := []) CF (k_bitCount l ((M_withAllAhead σ p2) &&& ((gF σ (pPi r1) 6) ^^^ (-1)))) ⟨callB_of 1 hts (gT mw_522) rfl rfl rfl (ht _ mw_14) (ht _ mw_520) (by decide +kernel) ⟨Nat.le_of_ble_eq_true rfl, Nat.le_of_ble_eq_true rfl⟩, (ht _ mw_521)⟩ preEq rfl rfl hl.1 rfl (lv_room (Nat.le_of_ble_eq_true rfl)) dX4_plan_41 ⟨Nat.le_of_ble_eq_true rfl, Nat.le_of_ble_eq_true rfl⟩) (fun r4 h_r4 => ?_)
    obtain rfl := h_r4
    refine lv_istore (lv' := [(5, .int (M_bitCount ((M_withAllAhead σ p2) &&& ((gF σ (pPi r1) 6) ^^^ (-1))))), (4, .int ((M_withAllAhead σ p2) &&& ((gF σ (pPi r1) 6) ^^^ (-1)))), (3, .ref (ad (pPi r1))), (0, .ref (ad 0)), (1, .int p1), (2, .int p2)]) hx hb dX4_plan_44 hl (by decide) rfl (fun ls hl => ?_)
    refine lv_iload hx hb dX4_plan_46 (lv_at hl 0 rfl) ?_
    refine lv_bipush (v := 10) hx hb dX4_plan_48 (by decide) ?_
    refine lv_icmp_le (tgt := 56) hx hb dX4_plan_50 (by decide) (fun c5 => ?_) (fun c5 => ?_)
    · rw [if_pos c5] at hT
      have hle := c5
      refine lv_aload_n hx hb dX4_plan_56 rfl (lv_at hl 3 rfl) ?_
      refine lv_aload_n hx hb dX4_plan_57 rfl (lv_at hl 2 rfl) ?_
      refine lv_iload hx hb dX4_plan_58 (lv_at hl 1 rfl) ?_
      refine kB_i (va_runV (As := [.ref (ad (pPi r1)), .int ((M_withAllAhead σ p2) &&& ((gF σ (pPi r1) 6) ^^^ (-1)))]) (rest := []) CF (k_eachMayBeDone l D ad kk _ σ r1 ((M_withAllAhead σ p2) &&& ((gF σ (pPi r1) 6) ^^^ (-1))) hi_r1 hI) ⟨callB_of 2 hts (gT mw_529) rfl rfl rfl (ht _ mw_1) (ht _ mw_526) (by decide +kernel) ⟨Nat.le_of_ble_eq_true rfl, Nat.le_of_ble_eq_true rfl⟩, (ht _ mw_528), (ht _ ms_17)⟩ (preV_B hK hP hD hE hS (ci := 4) rfl rfl g_MB) rfl rfl hl.1 rfl (lv_room (Nat.le_of_ble_eq_true rfl)) dX4_plan_60 ⟨Nat.le_of_ble_eq_true rfl, Nat.le_of_ble_eq_true rfl⟩) hS (fun r6 u9 H locs hw hP hD hS => ?_)
      obtain ⟨rfl, e9⟩ := hw
      rw [e9] at hP hD
      refine lv_if_eq (tgt := 77) hx hb dX4_plan_63 (by decide) (fun c7 => ?_) (fun c7 => ?_)
      · rw [if_pos c7] at hT
        refine lv_iconst (v := (-1)) hx hb dX4_plan_77 (by decide) ?_
        refine W.widen (k := 2) (n := 12) (by decide) (by decide) ?_
        exact vx_ret (W.iret (v := (-1)) hx hb hr (fun t ht hW => ⟨⟨(-1), σ, rfl, hT, by rw [ht]; exact hP, va_K.moved hW.alike hK, hD⟩, hS.F ht⟩) hS.2.2 dX4_plan_78)
      · rw [if_neg c7] at hT
        refine lv_aload_n hx hb dX4_plan_66 rfl (lv_at hl 3 rfl) ?_
        refine lv_iload hx hb dX4_plan_67 (lv_at hl 1 rfl) ?_
        refine lv_iload hx hb dX4_plan_69 (lv_at hl 0 rfl) ?_
        refine kB_i (va_runV (As := [.int ((M_withAllAhead σ p2) &&& ((gF σ (pPi r1) 6) ^^^ (-1))), .int (M_bitCount ((M_withAllAhead σ p2) &&& ((gF σ (pPi r1) 6) ^^^ (-1))))]) (rest := []) CF (k_putInOrder l D ad kk _ σ ((M_withAllAhead σ p2) &&& ((gF σ (pPi r1) 6) ^^^ (-1))) (M_bitCount ((M_withAllAhead σ p2) &&& ((gF σ (pPi r1) 6) ^^^ (-1)))) hI) ⟨callB_of 2 hts (gT mw_537) rfl rfl rfl (ht _ mw_1) (ht _ mw_534) (by decide +kernel) ⟨Nat.le_of_ble_eq_true rfl, Nat.le_of_ble_eq_true rfl⟩, (ht _ mw_536), (ht _ ms_19)⟩ (preV_B hK hP hD hE hS (ci := 4) rfl rfl g_MB) rfl rfl hl.1 rfl (lv_room (Nat.le_of_ble_eq_true rfl)) dX4_plan_71 ⟨Nat.le_of_ble_eq_true rfl, Nat.le_of_ble_eq_true rfl⟩) hS (fun r8 σ9 H locs hw hP hD hS => ?_)
        rw [← hw, pb_mk] at hT
        have h_r8 := hw
        refine lv_if_ne (tgt := 79) hx hb dX4_plan_74 (by decide) (fun c10 => ?_) (fun c10 => ?_)
        · rw [if_neg c10] at hT
          refine lv_aload_n hx hb dX4_plan_79 rfl (lv_at hl 3 rfl) ?_
          refine va_get (D := D) (ci := 4) (v := .ref (ad 95)) (C := RX4) (T := TX4) (N := 9) hx hb ht inX4 hown hK hP 0 g_MB rfl 5 (by decide) (ht _ mw_164) (fun _ h9 => h9) rfl dX4_plan_80 ?_
          refine lv_iconst (v := 0) hx hb dX4_plan_83 (by decide) ?_
          refine lv_aload_n hx hb dX4_plan_84 rfl (lv_at hl 3 rfl) ?_
          refine va_get (D := D) (ci := 4) (v := .ref (ad 94)) (C := RX4) (T := TX4) (N := 9) hx hb ht inX4 hown hK hP 0 g_MB rfl 4 (by decide) (ht _ mw_163) (fun _ h9 => h9) rfl dX4_plan_85 ?_
          refine lv_iconst (v := 0) hx hb dX4_plan_88 (by decide) ?_
          refine lv_iload hx hb dX4_plan_89 (lv_at hl 0 rfl) ?_
          refine va_copyi (sp := 0) (dp := 0) (n := M_bitCount ((M_withAllAhead σ p2) &&& ((gF σ (pPi r1) 6) ^^^ (-1)))) hx hb (hml.trans hl.1.symm) hown (ht _ mw_546) (ht _ mw_548) (ht _ mw_547) (ht _ mw_15) hK hP hD hS 95 94 0 0 g_draft g_planned rfl rfl rfl (by decide) (by decide) (bc_nn _) (bc_10 hle) (bc_10 hle) (fun i _ => rfl) (Nat.le_of_ble_eq_true rfl) (Nat.le_of_ble_eq_true rfl) dX4_plan_91 (fun H locs hP hD hS => ?_)
          rw [s_cp_draft_planned] at hP hD
          refine lv_aload_n hx hb dX4_plan_94 rfl (lv_at hl 3 rfl) ?_
          refine lv_iload hx hb dX4_plan_95 (lv_at hl 0 rfl) ?_
          refine va_put (D := D) (ci := 4) (v := .int (M_bitCount ((M_withAllAhead σ p2) &&& ((gF σ (pPi r1) 6) ^^^ (-1))))) (ty := .int) (C := RX4) (T := TX4) (N := 9) hx hb ht inX4 tyX4 tyX4_ok nmX4 hown hK hP hD hS 0 g_MB rfl 8 (by decide) (ht _ mw_167) (fun _ h9 => h9) rfl (by decide +kernel) rfl rfl (Nat.le_of_ble_eq_true rfl) dX4_plan_97 (fun H locs hP hD hS => ?_)
          rw [s_MB_8] at hP hD
          refine lv_iload hx hb dX4_plan_100 (lv_at hl 0 rfl) ?_
          refine W.widen (k := 2) (n := 12) (by decide) (by decide) ?_
          exact vx_ret (W.iret (v := M_bitCount ((M_withAllAhead σ p2) &&& ((gF σ (pPi r1) 6) ^^^ (-1)))) hx hb hr (fun t ht hW => ⟨⟨M_bitCount ((M_withAllAhead σ p2) &&& ((gF σ (pPi r1) 6) ^^^ (-1))), (sF (cpA σ9 95 94 (0 : Int32).toNatClampNeg (0 : Int32).toNatClampNeg (M_bitCount ((M_withAllAhead σ p2) &&& ((gF σ (pPi r1) 6) ^^^ (-1)))).toNatClampNeg) 0 8 (M_bitCount ((M_withAllAhead σ p2) &&& ((gF σ (pPi r1) 6) ^^^ (-1))))), rfl, hT, by rw [ht]; exact hP, va_K.moved hW.alike hK, hD⟩, hS.F ht⟩) hS.2.2 dX4_plan_102)
        · rw [if_pos c10] at hT
          refine lv_iconst (v := (-1)) hx hb dX4_plan_77 (by decide) ?_
          refine W.widen (k := 2) (n := 12) (by decide) (by decide) ?_
          exact vx_ret (W.iret (v := (-1)) hx hb hr (fun t ht hW => ⟨⟨(-1), σ9, rfl, hT, by rw [ht]; exact hP, va_K.moved hW.alike hK, hD⟩, hS.F ht⟩) hS.2.2 dX4_plan_78)
    · rw [if_neg c5] at hT
      refine lv_bipush (v := (-2)) hx hb dX4_plan_53 (by decide) ?_
      refine W.widen (k := 2) (n := 12) (by decide) (by decide) ?_
      exact vx_ret (W.iret (v := (-2)) hx hb hr (fun t ht hW => ⟨⟨(-2), σ, rfl, hT, by rw [ht]; exact hP, va_K.moved hW.alike hK, hD⟩, hS.F ht⟩) hS.2.2 dX4_plan_55)
  · rw [if_neg c2] at hT
    exact vx_throwS (own := RX4) (cls := "java/lang/IndexOutOfBoundsException") (names := th_n) hx hb hl9 hown thf_IndexOutOfBoundsException thf_n (ht _ mw_352) (ht _ mw_13) (hE.str (own := RX4) (k := 190) (tx := "set") (by decide +kernel)).choose_spec (vx_hat (B := th_B "java/lang/IndexOutOfBoundsException") (fun w hw => ht w (thw_IndexOutOfBoundsException w hw)) thb_IndexOutOfBoundsException (hE.th (by decide +kernel))) (thg_IndexOutOfBoundsException _) hE.1 hE.2.1 hS (hl.1.trans hml.symm) dX4_plan_15 dX4_plan_18 dX4_plan_19 dX4_plan_21 dX4_plan_24 (fun x hx => (hEx x hx).elim) (Nat.le_of_ble_eq_true rfl) (Nat.le_of_ble_eq_true rfl) (Nat.le_of_ble_eq_true rfl) (Nat.le_of_ble_eq_true rfl) hlocks (fun t ha hsz hk => xB_end hT hK hP hD hS ha hsz hk) hS.2.2 (by decide) (by decide)

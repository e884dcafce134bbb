set_option maxHeartbeats 4000000 in
set_option maxRecDepth 100000 in
theorem k_unit (l : Launch) (hl9 : l.stackTraces = false) (D : va_G) (ad : Nat → Nat) (kk : Nat → ClassId) (sz : Nat) (σ : St) (p1 : Int32) (hI : IB σ) : vx_Met l yX4_unit wsX4_unit { frames := 6, cells := 1, slots := 6, locals := 90 } (va_Pc [.ref (ad 0), .int p1] (PB D ad kk sz σ)) (va_Qi (fun r u => .ok (r, u) = M_unit σ p1) (QB D ad kk sz) (aL 96 ad sz)) (XB (M_unit σ p1) D ad kk sz σ) 1 6 (aL 96 ad sz) := by
  refine vx_ofW (cc := cX4_unit) (maxL := 2) (ret := (some .int)) (by decide) rfl ?_
  intro p e s m args below meth c s₁ B hml hEx hv
  obtain ⟨rfl, hsz, hP, hK, hD0, hE⟩ := hv
  have hx := B.exec
  have hb := B.bytes
  have hr := B.returns
  have hts := atoms_spec (ws := wsX4_unit) B.pre
  have hown : s.vm.findClass RX4 = some m.cls := findClass_of_methodNamed B.named
  have hlocks := B.notSynchronized
  subst hsz
  have hD : va_D (aL 96 ad s.heap.size) (wB ad kk σ) := aL_D hD0
  have hS : va_S (aL 96 ad s.heap.size) s.heap s.heap [] := va_S.rf
  have hl := lv_entry ([.ref (ad 0), .int p1]) (n := 2) (Nat.le_of_ble_eq_true rfl)
  rw [lg_entry_eq]
  generalize (lg_sl ([.ref (ad 0), .int p1]) ++ List.replicate (2 - (lg_sl ([.ref (ad 0), .int p1])).length) Slot.unset).toArray = ls at hl ⊢
  have hl : lv_has ls 2 [(0, .ref (ad 0)), (1, .int p1)] := hl
  have CF : CallFix p m c cX4_unit 2 s ([.ref (ad 0), .int p1] : List Value).toArray wsX4_unit RX4 := ⟨hx, hb, hml, hown, hts⟩
  have ht : ∀ w ∈ T0, w.before ([.ref (ad 0), .int p1] : List Value).toArray s = true := fun w h => hts w (List.mem_cons_of_mem _ h)
  generalize hT : M_unit σ p1 = T
  rw [M_unit] at hT
  refine lv_aload_n hx hb dX4_unit_0 rfl (lv_at hl 0 rfl) ?_
  refine va_get (D := D) (ci := 4) (v := .ref (ad 1)) (C := RX4) (T := TX4) (N := 9) hx hb ht inX4 hown hK hP 0 g_MB rfl 0 (by decide) (ht _ mw_159) (fun _ h9 => h9) rfl dX4_unit_1 ?_
  refine va_get (D := D) (ci := 2) (v := .int (gF σ 1 1)) (C := RX2) (T := TX2) (N := 3) hx hb ht inX2 hown hK hP 1 g_Pad rfl 1 (by decide) (ht _ mw_32) (fun _ h9 => h9) rfl dX4_unit_4 ?_
  refine lv_bipush (v := 50) hx hb dX4_unit_7 (by decide) ?_
  refine lv_icmp_lt (tgt := 22) hx hb dX4_unit_9 (by decide) (fun c1 => ?_) (fun c1 => ?_)
  · rw [if_pos c1] at hT
    have hlt := c1
    refine lv_iload_n hx hb dX4_unit_22 rfl (lv_at hl 1 rfl) ?_
    refine lv_bipush (v := 33) hx hb dX4_unit_23 (by decide) ?_
    refine lv_icmp_lt (tgt := 34) hx hb dX4_unit_25 (by decide) (fun c2 => ?_) (fun c2 => ?_)
    · rw [if_pos c2] at hT
      exact vx_throwS (own := RX4) (cls := "java/lang/IllegalArgumentException") (names := th_n) hx hb hl9 hown thf_IllegalArgumentException thf_n (ht _ mw_264) (ht _ mw_11) (hE.str (own := RX4) (k := 57) (tx := "no sign") (by decide +kernel)).choose_spec (vx_hat (B := th_B "java/lang/IllegalArgumentException") (fun w hw => ht w (thw_IllegalArgumentException w hw)) thb_IllegalArgumentException (hE.th (by decide +kernel))) (thg_IllegalArgumentException _) hE.1 hE.2.1 hS (hl.1.trans hml.symm) dX4_unit_34 dX4_unit_37 dX4_unit_38 dX4_unit_40 dX4_unit_43 (fun x hx => (hEx x hx).elim) (Nat.le_of_ble_eq_true rfl) (Nat.le_of_ble_eq_true rfl) (Nat.le_of_ble_eq_true rfl) (Nat.le_of_ble_eq_true rfl) hlocks (fun t ha hsz hk => xB_end hT hK hP hD hS ha hsz hk) hS.2.2 (by decide) (by decide)
    · rw [if_neg c2] at hT
      refine lv_iload_n hx hb dX4_unit_28 rfl (lv_at hl 1 rfl) ?_
      refine lv_bipush (v := 126) hx hb dX4_unit_29 (by decide) ?_
      refine lv_icmp_le (tgt := 44) hx hb dX4_unit_31 (by decide) (fun c3 => ?_) (fun c3 => ?_)
      · rw [if_pos c3] at hT
        refine lv_aload_n hx hb dX4_unit_44 rfl (lv_at hl 0 rfl) ?_
        refine va_get (D := D) (ci := 4) (v := .ref (ad 1)) (C := RX4) (T := TX4) (N := 9) hx hb ht inX4 hown hK hP 0 g_MB rfl 0 (by decide) (ht _ mw_159) (fun _ h9 => h9) rfl dX4_unit_45 ?_
        refine va_get (D := D) (ci := 2) (v := .ref (ad 2)) (C := RX2) (T := TX2) (N := 3) hx hb ht inX2 hown hK hP 1 g_Pad rfl 0 (by decide) (ht _ mw_31) (fun _ h9 => h9) rfl dX4_unit_48 ?_
        refine lv_aload_n hx hb dX4_unit_51 rfl (lv_at hl 0 rfl) ?_
        refine va_get (D := D) (ci := 4) (v := .ref (ad 1)) (C := RX4) (T := TX4) (N := 9) hx hb ht inX4 hown hK hP 0 g_MB rfl 0 (by decide) (ht _ mw_159) (fun _ h9 => h9) rfl dX4_unit_52 ?_
        refine va_get (D := D) (ci := 2) (v := .int (gF σ 1 1)) (C := RX2) (T := TX2) (N := 3) hx hb ht inX2 hown hK hP 1 g_Pad rfl 1 (by decide) (ht _ mw_32) (fun _ h9 => h9) rfl dX4_unit_55 ?_
        refine lv_iload_n hx hb dX4_unit_58 rfl (lv_at hl 1 rfl) ?_
        refine va_iast (i := gF σ 1 1) (x := p1) hx hb hK hP hD hS 2 0 g_signs rfl (IB.len_in hI hlt) dX4_unit_59 (fun H locs hP hD hS => ?_)
        rw [s_signs] at hP hD
        refine lv_aload_n hx hb dX4_unit_60 rfl (lv_at hl 0 rfl) ?_
        refine va_get (D := D) (ci := 4) (v := .ref (ad 1)) (C := RX4) (T := TX4) (N := 9) hx hb ht inX4 hown hK hP 0 g_MB rfl 0 (by decide) (ht _ mw_159) (fun _ h9 => h9) rfl dX4_unit_61 ?_
        refine lv_dup hx hb dX4_unit_64 rfl ?_
        refine va_get (D := D) (ci := 2) (v := .int (gF (sA σ 2 (gF σ 1 1).toNatClampNeg p1) 1 1)) (C := RX2) (T := TX2) (N := 3) hx hb ht inX2 hown hK hP 1 g_Pad rfl 1 (by decide) (ht _ mw_32) (fun _ h9 => h9) rfl dX4_unit_65 ?_
        refine lv_iconst (v := 1) hx hb dX4_unit_68 (by decide) ?_
        refine lv_iadd hx hb dX4_unit_69 ?_
        refine va_put (D := D) (ci := 2) (v := .int ((gF (sA σ 2 (gF σ 1 1).toNatClampNeg p1) 1 1) + 1)) (ty := .int) (C := RX2) (T := TX2) (N := 3) hx hb ht inX2 tyX2 tyX2_ok nmX2 hown hK hP hD hS 1 g_Pad rfl 1 (by decide) (ht _ mw_32) (fun _ h9 => h9) rfl (by decide +kernel) rfl rfl (Nat.le_of_ble_eq_true rfl) dX4_unit_70 (fun H locs hP hD hS => ?_)
        rw [s_Pad_1] at hP hD
        refine lv_aload_n hx hb dX4_unit_73 rfl (lv_at hl 0 rfl) ?_
        refine va_get (D := D) (ci := 4) (v := .ref (ad 1)) (C := RX4) (T := TX4) (N := 9) hx hb ht inX4 hown hK hP 0 g_MB rfl 0 (by decide) (ht _ mw_159) (fun _ h9 => h9) rfl dX4_unit_74 ?_
        refine va_get (D := D) (ci := 2) (v := .int (gF (sF (sA σ 2 (gF σ 1 1).toNatClampNeg p1) 1 1 ((gF (sA σ 2 (gF σ 1 1).toNatClampNeg p1) 1 1) + 1)) 1 1)) (C := RX2) (T := TX2) (N := 3) hx hb ht inX2 hown hK hP 1 g_Pad rfl 1 (by decide) (ht _ mw_32) (fun _ h9 => h9) rfl dX4_unit_77 ?_
        refine W.widen (k := 1) (n := 6) (by decide) (by decide) ?_
        exact vx_ret (W.iret (v := gF (sF (sA σ 2 (gF σ 1 1).toNatClampNeg p1) 1 1 ((gF (sA σ 2 (gF σ 1 1).toNatClampNeg p1) 1 1) + 1)) 1 1) hx hb hr (fun t ht hW => ⟨⟨gF (sF (sA σ 2 (gF σ 1 1).toNatClampNeg p1) 1 1 ((gF (sA σ 2 (gF σ 1 1).toNatClampNeg p1) 1 1) + 1)) 1 1, (sF (sA σ 2 (gF σ 1 1).toNatClampNeg p1) 1 1 ((gF (sA σ 2 (gF σ 1 1).toNatClampNeg p1) 1 1) + 1)), rfl, hT, by rw [ht]; exact hP, va_K.moved hW.alike hK, hD⟩, hS.F ht⟩) hS.2.2 dX4_unit_80)
      · rw [if_neg c3] at hT
        exact vx_throwS (own := RX4) (cls := "java/lang/IllegalArgumentException") (names := th_n) hx hb hl9 hown thf_IllegalArgumentException thf_n (ht _ mw_264) (ht _ mw_11) (hE.str (own := RX4) (k := 57) (tx := "no sign") (by decide +kernel)).choose_spec (vx_hat (B := th_B "java/lang/IllegalArgumentException") (fun w hw => ht w (thw_IllegalArgumentException w hw)) thb_IllegalArgumentException (hE.th (by decide +kernel))) (thg_IllegalArgumentException _) hE.1 hE.2.1 hS (hl.1.trans hml.symm) dX4_unit_34 dX4_unit_37 dX4_unit_38 dX4_unit_40 dX4_unit_43 (fun x hx => (hEx x hx).elim) (Nat.le_of_ble_eq_true rfl) (Nat.le_of_ble_eq_true rfl) (Nat.le_of_ble_eq_true rfl) (Nat.le_of_ble_eq_true rfl) hlocks (fun t ha hsz hk => xB_end hT hK hP hD hS ha hsz hk) hS.2.2 (by decide) (by decide)
  · rw [if_neg c1] at hT
    exact vx_throwS (own := RX4) (cls := "java/lang/IllegalStateException") (names := th_n) hx hb hl9 hown thf_IllegalStateException thf_n (ht _ mw_196) (ht _ mw_10) (hE.str (own := RX4) (k := 50) (tx := "the pad is full") (by decide +kernel)).choose_spec (vx_hat (B := th_B "java/lang/IllegalStateException") (fun w hw => ht w (thw_IllegalStateException w hw)) thb_IllegalStateException (hE.th (by decide +kernel))) (thg_IllegalStateException _) hE.1 hE.2.1 hS (hl.1.trans hml.symm) dX4_unit_12 dX4_unit_15 dX4_unit_16 dX4_unit_18 dX4_unit_21 (fun x hx => (hEx x hx).elim) (Nat.le_of_ble_eq_true rfl) (Nat.le_of_ble_eq_true rfl) (Nat.le_of_ble_eq_true rfl) (Nat.le_of_ble_eq_true rfl) hlocks (fun t ha hsz hk => xB_end hT hK hP hD hS ha hsz hk) hS.2.2 (by decide) (by decide)
set_option maxHeartbeats 4000000 in
set_option maxRecDepth 100000 in
theorem k_read (l : Launch) (hl9 : l.stackTraces = false) (D : va_G) (ad : Nat → Nat) (kk : Nat → ClassId) (sz : Nat) (σ : St) (hI : IB σ) : vx_Met l yX4_read wsX4_read { frames := 6, cells := 1, slots := 6, locals := 111 } (va_Pc [.ref (ad 0)] (PB D ad kk sz σ)) (va_Qi (fun r u => .ok (r, u) = M_read σ) (QB D ad kk sz) (aL 96 ad sz)) (XB (M_read σ) D ad kk sz σ) 1 6 (aL 96 ad sz) := by
  refine vx_ofW (cc := cX4_read) (maxL := 3) (ret := (some .int)) (by decide) rfl ?_
  intro p e s m args below meth c s₁ B hml hEx hv
  obtain ⟨rfl, hsz, hP, hK, hD0, hE⟩ := hv
  have hx := B.exec
  have hb := B.bytes
  have hr := B.returns
  have hts := atoms_spec (ws := wsX4_read) B.pre
  have hown : s.vm.findClass RX4 = some m.cls := findClass_of_methodNamed B.named
  have hlocks := B.notSynchronized
  subst hsz
  have hD : va_D (aL 96 ad s.heap.size) (wB ad kk σ) := aL_D hD0
  have hS : va_S (aL 96 ad s.heap.size) s.heap s.heap [] := va_S.rf
  have hl := lv_entry ([.ref (ad 0)]) (n := 3) (Nat.le_of_ble_eq_true rfl)
  rw [lg_entry_eq]
  generalize (lg_sl ([.ref (ad 0)]) ++ List.replicate (3 - (lg_sl ([.ref (ad 0)])).length) Slot.unset).toArray = ls at hl ⊢
  have hl : lv_has ls 3 [(0, .ref (ad 0))] := hl
  have CF : CallFix p m c cX4_read 3 s ([.ref (ad 0)] : List Value).toArray wsX4_read RX4 := ⟨hx, hb, hml, hown, hts⟩
  have ht : ∀ w ∈ T0, w.before ([.ref (ad 0)] : List Value).toArray s = true := fun w h => hts w (List.mem_cons_of_mem _ h)
  generalize hT : M_read σ = T
  rw [M_read] at hT
  refine lv_aload_n hx hb dX4_read_0 rfl (lv_at hl 0 rfl) ?_
  refine va_get (D := D) (ci := 4) (v := .int (gF σ 0 6)) (C := RX4) (T := TX4) (N := 9) hx hb ht inX4 hown hK hP 0 g_MB rfl 6 (by decide) (ht _ mw_165) (fun _ h9 => h9) rfl dX4_read_1 ?_
  refine lv_bipush (v := 12) hx hb dX4_read_4 (by decide) ?_
  refine lv_icmp_lt (tgt := 19) hx hb dX4_read_6 (by decide) (fun c1 => ?_) (fun c1 => ?_)
  · rw [if_pos c1] at hT
    have hlt := c1
    refine lv_aload_n hx hb dX4_read_19 rfl (lv_at hl 0 rfl) ?_
    refine va_get (D := D) (ci := 4) (v := .ref (ad 3)) (C := RX4) (T := TX4) (N := 9) hx hb ht inX4 hown hK hP 0 g_MB rfl 1 (by decide) (ht _ mw_160) (fun _ h9 => h9) rfl dX4_read_20 ?_
    refine lv_aload_n hx hb dX4_read_23 rfl (lv_at hl 0 rfl) ?_
    refine va_get (D := D) (ci := 4) (v := .int (gF σ 0 6)) (C := RX4) (T := TX4) (N := 9) hx hb ht inX4 hown hK hP 0 g_MB rfl 6 (by decide) (ht _ mw_165) (fun _ h9 => h9) rfl dX4_read_24 ?_
    refine va_aldq (i := gF σ 0 6) hx hb hK hP 3 1 g_methods rfl (IB.mc_in hI hlt) dX4_read_27 ?_
    refine W.eq (g2 := F0 m 28 ls (.ref (ad (pMe ((gF σ 0 6).toNatClampNeg))) :: [])) rfl ?_
    refine lv_astore_n (lv' := [(1, .ref (ad (pMe ((gF σ 0 6).toNatClampNeg)))), (0, .ref (ad 0))]) hx hb dX4_read_28 rfl hl (by decide) rfl (fun ls hl => ?_)
    refine lv_aload_n hx hb dX4_read_29 rfl (lv_at hl 0 rfl) ?_
    refine kB_v (va_runV (As := []) (rest := []) CF (k_clear l D ad kk _ σ ((gF σ 0 6).toNatClampNeg) (vin_lt (IB.mc_in hI hlt))) ⟨callB_of 0 hts (gT mw_291) rfl rfl rfl (ht _ mw_3) (ht _ mw_288) (by decide +kernel) ⟨Nat.le_of_ble_eq_true rfl, Nat.le_of_ble_eq_true rfl⟩, (ht _ mw_289), (ht _ mw_290)⟩ (preV_B hK hP hD hE hS (ci := 1) rfl rfl (g_Me (vin_lt (IB.mc_in hI hlt)))) rfl rfl hl.1 rfl (lv_room (Nat.le_of_ble_eq_true rfl)) dX4_read_30 ⟨Nat.le_of_ble_eq_true rfl, Nat.le_of_ble_eq_true rfl⟩) hS (fun σ3 H locs hw hP hD hS => ?_)
    rw [← hw, vb_eq] at hT
    have h_r2 := hw
    have hIc := IP.clear hI.ip h_r2
    refine lv_aload_n hx hb dX4_read_33 rfl (lv_at hl 1 rfl) ?_
    refine va_get (D := D) (ci := 4) (v := .ref (ad 1)) (C := RX4) (T := TX4) (N := 9) hx hb ht inX4 hown hK hP 0 g_MB rfl 0 (by decide) (ht _ mw_159) (fun _ h9 => h9) rfl dX4_read_34 ?_
    refine lv_aload_n hx hb dX4_read_37 rfl (lv_at hl 0 rfl) ?_
    refine kB_i (va_runV (As := [.ref (ad (pMe ((gF σ 0 6).toNatClampNeg)))]) (rest := []) CF (k_readText l D ad kk _ σ3 ((gF σ 0 6).toNatClampNeg) (vin_lt (IB.mc_in hI hlt)) hIc) ⟨callB_of 1 hts (gT mw_295) rfl rfl rfl (ht _ mw_2) (ht _ mw_292) (by decide +kernel) ⟨Nat.le_of_ble_eq_true rfl, Nat.le_of_ble_eq_true rfl⟩, (ht _ mw_293), (ht _ mw_294)⟩ (preV_B hK hP hD hE hS (ci := 2) rfl rfl g_Pad) rfl rfl hl.1 rfl (lv_room (Nat.le_of_ble_eq_true rfl)) dX4_read_38 ⟨Nat.le_of_ble_eq_true rfl, Nat.le_of_ble_eq_true rfl⟩) hS (fun r4 σ5 H locs hw hP hD hS => ?_)
    rw [← hw, pb_mk] at hT
    have h_r4 := hw
    refine lv_istore_n (lv' := [(2, .int r4), (1, .ref (ad (pMe ((gF σ 0 6).toNatClampNeg)))), (0, .ref (ad 0))]) hx hb dX4_read_41 rfl hl (by decide) rfl (fun ls hl => ?_)
    refine lv_aload_n hx hb dX4_read_42 rfl (lv_at hl 2 rfl) ?_
    refine va_get (D := D) (ci := 4) (v := .ref (ad 1)) (C := RX4) (T := TX4) (N := 9) hx hb ht inX4 hown hK hP 0 g_MB rfl 0 (by decide) (ht _ mw_159) (fun _ h9 => h9) rfl dX4_read_43 ?_
    refine lv_iconst (v := 0) hx hb dX4_read_46 (by decide) ?_
    refine va_put (D := D) (ci := 2) (v := .int 0) (ty := .int) (C := RX2) (T := TX2) (N := 3) hx hb ht inX2 tyX2 tyX2_ok nmX2 hown hK hP hD hS 1 g_Pad rfl 1 (by decide) (ht _ mw_32) (fun _ h9 => h9) rfl (by decide +kernel) rfl rfl (Nat.le_of_ble_eq_true rfl) dX4_read_47 (fun H locs hP hD hS => ?_)
    rw [s_Pad_1] at hP hD
    refine lv_iload_n hx hb dX4_read_50 rfl (lv_at hl 0 rfl) ?_
    refine lv_if_ne (tgt := 64) hx hb dX4_read_51 (by decide) (fun c6 => ?_) (fun c6 => ?_)
    · rw [if_neg c6] at hT
      refine lv_aload_n hx hb dX4_read_64 rfl (lv_at hl 2 rfl) ?_
      refine lv_dup hx hb dX4_read_65 rfl ?_
      refine va_get (D := D) (ci := 4) (v := .int (gF (sF σ5 1 1 0) 0 6)) (C := RX4) (T := TX4) (N := 9) hx hb ht inX4 hown hK hP 0 g_MB rfl 6 (by decide) (ht _ mw_165) (fun _ h9 => h9) rfl dX4_read_66 ?_
      refine lv_iconst (v := 1) hx hb dX4_read_69 (by decide) ?_
      refine lv_iadd hx hb dX4_read_70 ?_
      refine va_put (D := D) (ci := 4) (v := .int ((gF (sF σ5 1 1 0) 0 6) + 1)) (ty := .int) (C := RX4) (T := TX4) (N := 9) hx hb ht inX4 tyX4 tyX4_ok nmX4 hown hK hP hD hS 0 g_MB rfl 6 (by decide) (ht _ mw_165) (fun _ h9 => h9) rfl (by decide +kernel) rfl rfl (Nat.le_of_ble_eq_true rfl) dX4_read_71 (fun H locs hP hD hS => ?_)
      rw [s_MB_6] at hP hD
      refine lv_aload_n hx hb dX4_read_74 rfl (lv_at hl 2 rfl) ?_
      refine va_get (D := D) (ci := 4) (v := .int (gF (sF (sF σ5 1 1 0) 0 6 ((gF (sF σ5 1 1 0) 0 6) + 1)) 0 6)) (C := RX4) (T := TX4) (N := 9) hx hb ht inX4 hown hK hP 0 g_MB rfl 6 (by decide) (ht _ mw_165) (fun _ h9 => h9) rfl dX4_read_75 ?_
      refine lv_iconst (v := 1) hx hb dX4_read_78 (by decide) ?_
      refine lv_isub hx hb dX4_read_79 ?_
      refine W.widen (k := 1) (n := 6) (by decide) (by decide) ?_
      exact vx_ret (W.iret (v := (gF (sF (sF σ5 1 1 0) 0 6 ((gF (sF σ5 1 1 0) 0 6) + 1)) 0 6) - 1) hx hb hr (fun t ht hW => ⟨⟨(gF (sF (sF σ5 1 1 0) 0 6 ((gF (sF σ5 1 1 0) 0 6) + 1)) 0 6) - 1, (sF (sF σ5 1 1 0) 0 6 ((gF (sF σ5 1 1 0) 0 6) + 1)), rfl, hT, by rw [ht]; exact hP, va_K.moved hW.alike hK, hD⟩, hS.F ht⟩) hS.2.2 dX4_read_80)
    · rw [if_pos c6] at hT
      refine lv_iconst (v := (-1)) hx hb dX4_read_54 (by decide) ?_
      refine lv_aload_n hx hb dX4_read_55 rfl (lv_at hl 2 rfl) ?_
      refine va_get (D := D) (ci := 4) (v := .ref (ad 1)) (C := RX4) (T := TX4) (N := 9) hx hb ht inX4 hown hK hP 0 g_MB rfl 0 (by decide) (ht _ mw_159) (fun _ h9 => h9) rfl dX4_read_56 ?_
      refine va_get (D := D) (ci := 2) (v := .int (gF (sF σ5 1 1 0) 1 2)) (C := RX2) (T := TX2) (N := 3) hx hb ht inX2 hown hK hP 1 g_Pad rfl 2 (by decide) (ht _ mw_35) (fun _ h9 => h9) rfl dX4_read_59 ?_
      refine lv_isub hx hb dX4_read_62 ?_
      refine W.widen (k := 1) (n := 6) (by decide) (by decide) ?_
      exact vx_ret (W.iret (v := (-1) - (gF (sF σ5 1 1 0) 1 2)) hx hb hr (fun t ht hW => ⟨⟨(-1) - (gF (sF σ5 1 1 0) 1 2), (sF σ5 1 1 0), rfl, hT, by rw [ht]; exact hP, va_K.moved hW.alike hK, hD⟩, hS.F ht⟩) hS.2.2 dX4_read_63)
  · rw [if_neg c1] at hT
    exact vx_throwS (own := RX4) (cls := "java/lang/IllegalStateException") (names := th_n) hx hb hl9 hown thf_IllegalStateException thf_n (ht _ mw_196) (ht _ mw_10) (hE.str (own := RX4) (k := 66) (tx := "there are twelve methods") (by decide +kernel)).choose_spec (vx_hat (B := th_B "java/lang/IllegalStateException") (fun w hw => ht w (thw_IllegalStateException w hw)) thb_IllegalStateException (hE.th (by decide +kernel))) (thg_IllegalStateException _) hE.1 hE.2.1 hS (hl.1.trans hml.symm) dX4_read_9 dX4_read_12 dX4_read_13 dX4_read_15 dX4_read_18 (fun x hx => (hEx x hx).elim) (Nat.le_of_ble_eq_true rfl) (Nat.le_of_ble_eq_true rfl) (Nat.le_of_ble_eq_true rfl) (Nat.le_of_ble_eq_true rfl) hlocks (fun t ha hsz hk => xB_end hT hK hP hD hS ha hsz hk) hS.2.2 (by decide) (by decide)
set_option maxHeartbeats 4000000 in
set_option maxRecDepth 100000 in
theorem k_uses (l : Launch) (hl9 : l.stackTraces = false) (D : va_G) (ad : Nat → Nat) (kk : Nat → ClassId) (sz : Nat) (σ : St) (p1 : Int32) (p2 : Int32) (hI : IB σ) : vx_Met l yX4_uses wsX4_uses { frames := 8, cells := 2, slots := 12, locals := 132 } (va_Pc [.ref (ad 0), .int p1, .int p2] (PB D ad kk sz σ)) (va_Qi (fun r u => .ok r = M_uses σ p1 p2 ∧ u = σ) (QB D ad kk sz) (aL 96 ad sz)) (XB (M_uses σ p1 p2) D ad kk sz σ) 2 12 (aL 96 ad sz) := by
  refine vx_ofW (cc := cX4_uses) (maxL := 4) (ret := (some .int)) (by decide) rfl ?_
  intro p e s m args below meth c s₁ B hml hEx hv
  obtain ⟨rfl, hsz, hP, hK, hD0, hE⟩ := hv
  have hx := B.exec
  have hb := B.bytes
  have hr := B.returns
  have hts := atoms_spec (ws := wsX4_uses) B.pre
  have hown : s.vm.findClass RX4 = some m.cls := findClass_of_methodNamed B.named
  have hlocks := B.notSynchronized
  subst hsz
  have hD : va_D (aL 96 ad s.heap.size) (wB ad kk σ) := aL_D hD0
  have hS : va_S (aL 96 ad s.heap.size) s.heap s.heap [] := va_S.rf
  have hl := lv_entry ([.ref (ad 0), .int p1, .int p2]) (n := 4) (Nat.le_of_ble_eq_true rfl)
  rw [lg_entry_eq]
  generalize (lg_sl ([.ref (ad 0), .int p1, .int p2]) ++ List.replicate (4 - (lg_sl ([.ref (ad 0), .int p1, .int p2])).length) Slot.unset).toArray = ls at hl ⊢
  have hl : lv_has ls 4 [(0, .ref (ad 0)), (1, .int p1), (2, .int p2)] := hl
  have CF : CallFix p m c cX4_uses 4 s ([.ref (ad 0), .int p1, .int p2] : List Value).toArray wsX4_uses RX4 := ⟨hx, hb, hml, hown, hts⟩
  have ht : ∀ w ∈ T0, w.before ([.ref (ad 0), .int p1, .int p2] : List Value).toArray s = true := fun w h => hts w (List.mem_cons_of_mem _ h)
  generalize hT : M_uses σ p1 p2 = T
  rw [M_uses] at hT
  refine lv_aload_n hx hb dX4_uses_0 rfl (lv_at hl 0 rfl) ?_
  refine lv_iload_n hx hb dX4_uses_1 rfl (lv_at hl 1 rfl) ?_
  refine kX_q (vx_runV (As := [.int p1]) (rest := []) CF (k_methodAt l hl9 D ad kk _ σ p1 hI) ⟨callB_of 1 hts (gT mw_348) rfl rfl rfl (ht _ mw_1) (ht _ mw_345) (by decide +kernel) ⟨Nat.le_of_ble_eq_true rfl, Nat.le_of_ble_eq_true rfl⟩, (ht _ mw_347), (ht _ ms_9)⟩ (preV_B hK hP hD hE hS (ci := 4) rfl rfl g_MB) rfl rfl hl.1 rfl (lv_room (Nat.le_of_ble_eq_true rfl)) dX4_uses_2 ⟨Nat.le_of_ble_eq_true rfl, Nat.le_of_ble_eq_true rfl⟩) hS hEx hlocks (by decide) (by decide) (fun E h => by rw [← h, xb_er] at hT; exact hT) (fun r1 u9 H locs hw hP hD hS => ?_)
  obtain ⟨r1, rfl, h_r1, e9⟩ := hw
  rw [e9] at hP hD
  have hi_r1 : r1 < 12 := (mAt_lt hI h_r1)
  refine W.eq (g2 := F0 m 5 ls (.ref (ad (pMe r1)) :: [])) rfl ?_
  rw [← h_r1, xb_ok] at hT
  refine lv_astore_n (lv' := [(3, .ref (ad (pMe r1))), (0, .ref (ad 0)), (1, .int p1), (2, .int p2)]) hx hb dX4_uses_5 rfl hl (by decide) rfl (fun ls hl => ?_)
  refine lv_iload_n hx hb dX4_uses_6 rfl (lv_at hl 3 rfl) ?_
  refine lv_bipush (v := 12) hx hb dX4_uses_7 (by decide) ?_
  refine kX_v (vx_runS (As := [.int p2, .int 12]) (rest := []) CF (k_checkPlace l hl9 D ad kk _ σ p2 12) ⟨callB_of 2 hts (gT mw_351) rfl rfl rfl (ht _ mw_1) (ht _ mw_349) (by decide +kernel) ⟨Nat.le_of_ble_eq_true rfl, Nat.le_of_ble_eq_true rfl⟩, (ht _ mw_350)⟩ (preS_B hK hP hD hE hS) rfl rfl hl.1 rfl (lv_room (Nat.le_of_ble_eq_true rfl)) dX4_uses_9 ⟨Nat.le_of_ble_eq_true rfl, Nat.le_of_ble_eq_true rfl⟩) hS hEx hlocks (by decide) (by decide) (fun E h => by rw [← h, xb_er] at hT; exact hT) (fun u9 H locs hw hP hD hS => ?_)
  obtain ⟨h_r2, e9⟩ := hw
  rw [e9] at hP hD
  rw [← h_r2, xb_ok] at hT
  have hk := h_r2
  refine lv_aload_n hx hb dX4_uses_12 rfl (lv_at hl 0 rfl) ?_
  refine va_get (D := D) (ci := 1) (v := .ref (ad (pMe r1 + 1))) (C := RX1) (T := TX1) (N := 9) hx hb ht inX1 hown hK hP (pMe r1) (g_Me hi_r1) rfl 0 (by decide) (ht _ mw_52) (fun _ h9 => h9) rfl dX4_uses_13 ?_
  refine lv_iload_n hx hb dX4_uses_16 rfl (lv_at hl 3 rfl) ?_
  refine va_iald (i := p2) hx hb hK hP (pMe r1 + 1) 0 (g_Ma hi_r1) rfl (vin_chk (N := 12) hk (by decide)) dX4_uses_17 ?_
  exact vx_ret (W.iret (v := gA σ (pMe r1 + 1) p2.toNatClampNeg) hx hb hr (fun t ht hW => ⟨⟨gA σ (pMe r1 + 1) p2.toNatClampNeg, σ, rfl, ⟨hT, rfl⟩, by rw [ht]; exact hP, va_K.moved hW.alike hK, hD⟩, hS.F ht⟩) hS.2.2 dX4_uses_18)
set_option maxHeartbeats 4000000 in
set_option maxRecDepth 100000 in
theorem k_object (l : Launch) (hl9 : l.stackTraces = false) (D : va_G) (ad : Nat → Nat) (kk : Nat → ClassId) (sz : Nat) (σ : St) : vx_Met l yX4_object wsX4_object { frames := 6, cells := 1, slots := 6, locals := 90 } (va_Pc [.ref (ad 0)] (PB D ad kk sz σ)) (va_Qi (fun r u => .ok (r, u) = M_object σ) (QB D ad kk sz) (aL 96 ad sz)) (XB (M_object σ) D ad kk sz σ) 1 6 (aL 96 ad sz) := by
  refine vx_ofW (cc := cX4_object) (maxL := 1) (ret := (some .int)) (by decide) rfl ?_
  intro p e s m args below meth c s₁ B hml hEx hv
  obtain ⟨rfl, hsz, hP, hK, hD0, hE⟩ := hv
  have hx := B.exec
  have hb := B.bytes
  have hr := B.returns
  have hts := atoms_spec (ws := wsX4_object) B.pre
  have hown : s.vm.findClass RX4 = some m.cls := findClass_of_methodNamed B.named
  have hlocks := B.notSynchronized
  subst hsz
  have hD : va_D (aL 96 ad s.heap.size) (wB ad kk σ) := aL_D hD0
  have hS : va_S (aL 96 ad s.heap.size) s.heap s.heap [] := va_S.rf
  have hl := lv_entry ([.ref (ad 0)]) (n := 1) (Nat.le_of_ble_eq_true rfl)
  rw [lg_entry_eq]
  generalize (lg_sl ([.ref (ad 0)]) ++ List.replicate (1 - (lg_sl ([.ref (ad 0)])).length) Slot.unset).toArray = ls at hl ⊢
  have hl : lv_has ls 1 [(0, .ref (ad 0))] := hl
  have CF : CallFix p m c cX4_object 1 s ([.ref (ad 0)] : List Value).toArray wsX4_object RX4 := ⟨hx, hb, hml, hown, hts⟩
  have ht : ∀ w ∈ T0, w.before ([.ref (ad 0)] : List Value).toArray s = true := fun w h => hts w (List.mem_cons_of_mem _ h)
  generalize hT : M_object σ = T
  rw [M_object] at hT
  refine lv_aload_n hx hb dX4_object_0 rfl (lv_at hl 0 rfl) ?_
  refine va_get (D := D) (ci := 4) (v := .int (gF σ 0 7)) (C := RX4) (T := TX4) (N := 9) hx hb ht inX4 hown hK hP 0 g_MB rfl 7 (by decide) (ht _ mw_166) (fun _ h9 => h9) rfl dX4_object_1 ?_
  refine lv_bipush (v := 10) hx hb dX4_object_4 (by decide) ?_
  refine lv_icmp_lt (tgt := 19) hx hb dX4_object_6 (by decide) (fun c1 => ?_) (fun c1 => ?_)
  · rw [if_pos c1] at hT
    refine lv_aload_n hx hb dX4_object_19 rfl (lv_at hl 0 rfl) ?_
    refine lv_dup hx hb dX4_object_20 rfl ?_
    refine va_get (D := D) (ci := 4) (v := .int (gF σ 0 7)) (C := RX4) (T := TX4) (N := 9) hx hb ht inX4 hown hK hP 0 g_MB rfl 7 (by decide) (ht _ mw_166) (fun _ h9 => h9) rfl dX4_object_21 ?_
    refine lv_iconst (v := 1) hx hb dX4_object_24 (by decide) ?_
    refine lv_iadd hx hb dX4_object_25 ?_
    refine va_put (D := D) (ci := 4) (v := .int ((gF σ 0 7) + 1)) (ty := .int) (C := RX4) (T := TX4) (N := 9) hx hb ht inX4 tyX4 tyX4_ok nmX4 hown hK hP hD hS 0 g_MB rfl 7 (by decide) (ht _ mw_166) (fun _ h9 => h9) rfl (by decide +kernel) rfl rfl (Nat.le_of_ble_eq_true rfl) dX4_object_26 (fun H locs hP hD hS => ?_)
    rw [s_MB_7] at hP hD
    refine lv_aload_n hx hb dX4_object_29 rfl (lv_at hl 0 rfl) ?_
    refine va_get (D := D) (ci := 4) (v := .int (gF (sF σ 0 7 ((gF σ 0 7) + 1)) 0 7)) (C := RX4) (T := TX4) (N := 9) hx hb ht inX4 hown hK hP 0 g_MB rfl 7 (by decide) (ht _ mw_166) (fun _ h9 => h9) rfl dX4_object_30 ?_
    refine lv_iconst (v := 1) hx hb dX4_object_33 (by decide) ?_
    refine lv_isub hx hb dX4_object_34 ?_
    refine W.widen (k := 1) (n := 6) (by decide) (by decide) ?_
    exact vx_ret (W.iret (v := (gF (sF σ 0 7 ((gF σ 0 7) + 1)) 0 7) - 1) hx hb hr (fun t ht hW => ⟨⟨(gF (sF σ 0 7 ((gF σ 0 7) + 1)) 0 7) - 1, (sF σ 0 7 ((gF σ 0 7) + 1)), rfl, hT, by rw [ht]; exact hP, va_K.moved hW.alike hK, hD⟩, hS.F ht⟩) hS.2.2 dX4_object_35)
  · rw [if_neg c1] at hT
    exact vx_throwS (own := RX4) (cls := "java/lang/IllegalStateException") (names := th_n) hx hb hl9 hown thf_IllegalStateException thf_n (ht _ mw_196) (ht _ mw_10) (hE.str (own := RX4) (k := 92) (tx := "there are ten objects") (by decide +kernel)).choose_spec (vx_hat (B := th_B "java/lang/IllegalStateException") (fun w hw => ht w (thw_IllegalStateException w hw)) thb_IllegalStateException (hE.th (by decide +kernel))) (thg_IllegalStateException _) hE.1 hE.2.1 hS (hl.1.trans hml.symm) dX4_object_9 dX4_object_12 dX4_object_13 dX4_object_15 dX4_object_18 (fun x hx => (hEx x hx).elim) (Nat.le_of_ble_eq_true rfl) (Nat.le_of_ble_eq_true rfl) (Nat.le_of_ble_eq_true rfl) (Nat.le_of_ble_eq_true rfl) hlocks (fun t ha hsz hk => xB_end hT hK hP hD hS ha hsz hk) hS.2.2 (by decide) (by decide)
set_option maxHeartbeats 4000000 in
set_option maxRecDepth 100000 in
theorem k_part (l : Launch) (hl9 : l.stackTraces = false) (D : va_G) (ad : Nat → Nat) (kk : Nat → ClassId) (sz : Nat) (σ : St) (p1 : Int32) (p2 : Int32) (hI : IB σ) : vx_Met l yX4_part wsX4_part { frames := 8, cells := 3, slots := 18, locals := 132 } (va_Pc [.ref (ad 0), .int p1, .int p2] (PB D ad kk sz σ)) (va_Qi (fun r u => .ok (r, u) = M_part σ p1 p2) (QB D ad kk sz) (aL 96 ad sz)) (XB (M_part σ p1 p2) D ad kk sz σ) 3 18 (aL 96 ad sz) := by
  refine vx_ofW (cc := cX4_part) (maxL := 4) (ret := (some .int)) (by decide) rfl ?_
  intro p e s m args below meth c s₁ B hml hEx hv
  obtain ⟨rfl, hsz, hP, hK, hD0, hE⟩ := hv
  have hx := B.exec
  have hb := B.bytes
  have hr := B.returns
  have hts := atoms_spec (ws := wsX4_part) B.pre
  have hown : s.vm.findClass RX4 = some m.cls := findClass_of_methodNamed B.named
  have hlocks := B.notSynchronized
  subst hsz
  have hD : va_D (aL 96 ad s.heap.size) (wB ad kk σ) := aL_D hD0
  have hS : va_S (aL 96 ad s.heap.size) s.heap s.heap [] := va_S.rf
  have hl := lv_entry ([.ref (ad 0), .int p1, .int p2]) (n := 4) (Nat.le_of_ble_eq_true rfl)
  rw [lg_entry_eq]
  generalize (lg_sl ([.ref (ad 0), .int p1, .int p2]) ++ List.replicate (4 - (lg_sl ([.ref (ad 0), .int p1, .int p2])).length) Slot.unset).toArray = ls at hl ⊢
  have hl : lv_has ls 4 [(0, .ref (ad 0)), (1, .int p1), (2, .int p2)] := hl
  have CF : CallFix p m c cX4_part 4 s ([.ref (ad 0), .int p1, .int p2] : List Value).toArray wsX4_part RX4 := ⟨hx, hb, hml, hown, hts⟩
  have ht : ∀ w ∈ T0, w.before ([.ref (ad 0), .int p1, .int p2] : List Value).toArray s = true := fun w h => hts w (List.mem_cons_of_mem _ h)
  generalize hT : M_part σ p1 p2 = T
  rw [M_part] at hT
  refine lv_aload_n hx hb dX4_part_0 rfl (lv_at hl 0 rfl) ?_
  refine lv_iload_n hx hb dX4_part_1 rfl (lv_at hl 1 rfl) ?_
  refine kX_q (vx_runV (As := [.int p1]) (rest := []) CF (k_pieceAt l hl9 D ad kk _ σ p1 hI) ⟨callB_of 1 hts (gT mw_386) rfl rfl rfl (ht _ mw_1) (ht _ mw_383) (by decide +kernel) ⟨Nat.le_of_ble_eq_true rfl, Nat.le_of_ble_eq_true rfl⟩, (ht _ mw_385), (ht _ ms_10)⟩ (preV_B hK hP hD hE hS (ci := 4) rfl rfl g_MB) rfl rfl hl.1 rfl (lv_room (Nat.le_of_ble_eq_true rfl)) dX4_part_2 ⟨Nat.le_of_ble_eq_true rfl, Nat.le_of_ble_eq_true rfl⟩) hS hEx hlocks (by decide) (by decide) (fun E h => by rw [← h, xb_er] at hT; exact hT) (fun r1 u9 H locs hw hP hD hS => ?_)
  obtain ⟨r1, rfl, h_r1, e9⟩ := hw
  rw [e9] at hP hD
  have hi_r1 : r1 < 10 := (pAt_lt hI h_r1)
  refine W.eq (g2 := F0 m 5 ls (.ref (ad (pPi r1)) :: [])) rfl ?_
  rw [← h_r1, xb_ok] at hT
  refine lv_astore_n (lv' := [(3, .ref (ad (pPi r1))), (0, .ref (ad 0)), (1, .int p1), (2, .int p2)]) hx hb dX4_part_5 rfl hl (by decide) rfl (fun ls hl => ?_)
  refine lv_iload_n hx hb dX4_part_6 rfl (lv_at hl 3 rfl) ?_
  refine lv_bipush (v := 10) hx hb dX4_part_7 (by decide) ?_
  refine kX_v (vx_runS (As := [.int p2, .int 10]) (rest := []) CF (k_checkPlace l hl9 D ad kk _ σ p2 10) ⟨callB_of 2 hts (gT mw_351) rfl rfl rfl (ht _ mw_1) (ht _ mw_349) (by decide +kernel) ⟨Nat.le_of_ble_eq_true rfl, Nat.le_of_ble_eq_true rfl⟩, (ht _ mw_350)⟩ (preS_B hK hP hD hE hS) rfl rfl hl.1 rfl (lv_room (Nat.le_of_ble_eq_true rfl)) dX4_part_9 ⟨Nat.le_of_ble_eq_true rfl, Nat.le_of_ble_eq_true rfl⟩) hS hEx hlocks (by decide) (by decide) (fun E h => by rw [← h, xb_er] at hT; exact hT) (fun u9 H locs hw hP hD hS => ?_)
  obtain ⟨h_r2, e9⟩ := hw
  rw [e9] at hP hD
  rw [← h_r2, xb_ok] at hT
  refine lv_aload_n hx hb dX4_part_12 rfl (lv_at hl 0 rfl) ?_
  refine va_get (D := D) (ci := 3) (v := .int (gF σ (pPi r1) 3)) (C := RX3) (T := TX3) (N := 8) hx hb ht inX3 hown hK hP (pPi r1) (g_Pi hi_r1) rfl 3 (by decide) (ht _ mw_106) (fun _ h9 => h9) rfl dX4_part_13 ?_
  refine lv_bipush (v := 8) hx hb dX4_part_16 (by decide) ?_
  refine lv_icmp_lt (tgt := 31) hx hb dX4_part_18 (by decide) (fun c3 => ?_) (fun c3 => ?_)
  · rw [if_pos c3] at hT
    have hlt := c3
    refine lv_aload_n hx hb dX4_part_31 rfl (lv_at hl 0 rfl) ?_
    refine lv_iload_n hx hb dX4_part_32 rfl (lv_at hl 3 rfl) ?_
    refine kB_i (va_runV (As := [.int p2]) (rest := []) CF (k_addPart l D ad kk _ σ r1 p2 hi_r1 (IB.part_in hI hi_r1 hlt)) ⟨callB_of 1 hts (gT mw_391) rfl rfl rfl (ht _ mw_4) (ht _ mw_388) (by decide +kernel) ⟨Nat.le_of_ble_eq_true rfl, Nat.le_of_ble_eq_true rfl⟩, (ht _ mw_389), (ht _ mw_390)⟩ (preV_B hK hP hD hE hS (ci := 3) rfl rfl (g_Pi hi_r1)) rfl rfl hl.1 rfl (lv_room (Nat.le_of_ble_eq_true rfl)) dX4_part_33 ⟨Nat.le_of_ble_eq_true rfl, Nat.le_of_ble_eq_true rfl⟩) hS (fun r4 σ5 H locs hw hP hD hS => ?_)
    rw [← hw, pb_mk] at hT
    have h_r4 := hw
    refine W.widen (k := 3) (n := 18) (by decide) (by decide) ?_
    exact vx_ret (W.iret (v := r4) hx hb hr (fun t ht hW => ⟨⟨r4, σ5, rfl, hT, by rw [ht]; exact hP, va_K.moved hW.alike hK, hD⟩, hS.F ht⟩) hS.2.2 dX4_part_36)
  · rw [if_neg c3] at hT
    exact vx_throwS (own := RX4) (cls := "java/lang/IllegalStateException") (names := th_n) hx hb hl9 hown thf_IllegalStateException thf_n (ht _ mw_196) (ht _ mw_10) (hE.str (own := RX4) (k := 101) (tx := "the object has eight parts") (by decide +kernel)).choose_spec (vx_hat (B := th_B "java/lang/IllegalStateException") (fun w hw => ht w (thw_IllegalStateException w hw)) thb_IllegalStateException (hE.th (by decide +kernel))) (thg_IllegalStateException _) hE.1 hE.2.1 hS (hl.1.trans hml.symm) dX4_part_21 dX4_part_24 dX4_part_25 dX4_part_27 dX4_part_30 (fun x hx => (hEx x hx).elim) (Nat.le_of_ble_eq_true rfl) (Nat.le_of_ble_eq_true rfl) (Nat.le_of_ble_eq_true rfl) (Nat.le_of_ble_eq_true rfl) hlocks (fun t ha hsz hk => xB_end hT hK hP hD hS ha hsz hk) hS.2.2 (by decide) (by decide)
set_option maxHeartbeats 4000000 in
set_option maxRecDepth 100000 in
theorem k_right (l : Launch) (hl9 : l.stackTraces = false) (D : va_G) (ad : Nat → Nat) (kk : Nat → ClassId) (sz : Nat) (σ : St) (p1 : Int32) (p2 : Int32) (p3 : Int32) (hI : IB σ) : vx_Met l yX4_right wsX4_right { frames := 8, cells := 2, slots := 12, locals := 132 } (va_Pc [.ref (ad 0), .int p1, .int p2, .int p3] (PB D ad kk sz σ)) (va_Qi (fun r u => .ok (r, u) = M_right σ p1 p2 p3) (QB D ad kk sz) (aL 96 ad sz)) (XB (M_right σ p1 p2 p3) D ad kk sz σ) 2 12 (aL 96 ad sz) := by
  refine vx_ofW (cc := cX4_right) (maxL := 6) (ret := (some .boolean)) (by decide) rfl ?_
  intro p e s m args below meth c s₁ B hml hEx hv
  obtain ⟨rfl, hsz, hP, hK, hD0, hE⟩ := hv
  have hx := B.exec
  have hb := B.bytes
  have hr := B.returns
  have hts := atoms_spec (ws := wsX4_right) B.pre
  have hown : s.vm.findClass RX4 = some m.cls := findClass_of_methodNamed B.named
  have hlocks := B.notSynchronized
  subst hsz
  have hD : va_D (aL 96 ad s.heap.size) (wB ad kk σ) := aL_D hD0
  have hS : va_S (aL 96 ad s.heap.size) s.heap s.heap [] := va_S.rf
  have hl := lv_entry ([.ref (ad 0), .int p1, .int p2, .int p3]) (n := 6) (Nat.le_of_ble_eq_true rfl)
  rw [lg_entry_eq]
  generalize (lg_sl ([.ref (ad 0), .int p1, .int p2, .int p3]) ++ List.replicate (6 - (lg_sl ([.ref (ad 0), .int p1, .int p2, .int p3])).length) Slot.unset).toArray = ls at hl ⊢
  have hl : lv_has ls 6 [(0, .ref (ad 0)), (1, .int p1), (2, .int p2), (3, .int p3)] := hl
  have CF : CallFix p m c cX4_right 6 s ([.ref (ad 0), .int p1, .int p2, .int p3] : List Value).toArray wsX4_right RX4 := ⟨hx, hb, hml, hown, hts⟩
  have ht : ∀ w ∈ T0, w.before ([.ref (ad 0), .int p1, .int p2, .int p3] : List Value).toArray s = true := fun w h => hts w (List.mem_cons_of_mem _ h)
  generalize hT : M_right σ p1 p2 p3 = T
  rw [M_right] at hT
  refine lv_iload_n hx hb dX4_right_0 rfl (lv_at hl 1 rfl) ?_
  refine lv_bipush (v := 8) hx hb dX4_right_1 (by decide) ?_
  refine kX_v (vx_runS (As := [.int p1, .int 8]) (rest := []) CF (k_checkPlace l hl9 D ad kk _ σ p1 8) ⟨callB_of 2 hts (gT mw_351) rfl rfl rfl (ht _ mw_1) (ht _ mw_349) (by decide +kernel) ⟨Nat.le_of_ble_eq_true rfl, Nat.le_of_ble_eq_true rfl⟩, (ht _ mw_350)⟩ (preS_B hK hP hD hE hS) rfl rfl hl.1 rfl (lv_room (Nat.le_of_ble_eq_true rfl)) dX4_right_3 ⟨Nat.le_of_ble_eq_true rfl, Nat.le_of_ble_eq_true rfl⟩) hS hEx hlocks (by decide) (by decide) (fun E h => by rw [← h, xb_er] at hT; exact hT) (fun u9 H locs hw hP hD hS => ?_)
  obtain ⟨h_r1, e9⟩ := hw
  rw [e9] at hP hD
  rw [← h_r1, xb_ok] at hT
  refine lv_aload_n hx hb dX4_right_6 rfl (lv_at hl 0 rfl) ?_
  refine lv_iload_n hx hb dX4_right_7 rfl (lv_at hl 2 rfl) ?_
  refine kX_q (vx_runV (As := [.int p2]) (rest := []) CF (k_methodAt l hl9 D ad kk _ σ p2 hI) ⟨callB_of 1 hts (gT mw_348) rfl rfl rfl (ht _ mw_1) (ht _ mw_345) (by decide +kernel) ⟨Nat.le_of_ble_eq_true rfl, Nat.le_of_ble_eq_true rfl⟩, (ht _ mw_347), (ht _ ms_9)⟩ (preV_B hK hP hD hE hS (ci := 4) rfl rfl g_MB) rfl rfl hl.1 rfl (lv_room (Nat.le_of_ble_eq_true rfl)) dX4_right_8 ⟨Nat.le_of_ble_eq_true rfl, Nat.le_of_ble_eq_true rfl⟩) hS hEx hlocks (by decide) (by decide) (fun E h => by rw [← h, xb_er] at hT; exact hT) (fun r2 u9 H locs hw hP hD hS => ?_)
  obtain ⟨r2, rfl, h_r2, e9⟩ := hw
  rw [e9] at hP hD
  have hi_r2 : r2 < 12 := (mAt_lt hI h_r2)
  refine W.eq (g2 := F0 m 11 ls (.ref (ad (pMe r2)) :: [])) rfl ?_
  rw [← h_r2, xb_ok] at hT
  refine lv_astore (lv' := [(4, .ref (ad (pMe r2))), (0, .ref (ad 0)), (1, .int p1), (2, .int p2), (3, .int p3)]) hx hb dX4_right_11 hl (by decide) rfl (fun ls hl => ?_)
  refine lv_aload hx hb dX4_right_13 (lv_at hl 0 rfl) ?_
  refine va_get (D := D) (ci := 1) (v := .int (gF σ (pMe r2) 7)) (C := RX1) (T := TX1) (N := 9) hx hb ht inX1 hown hK hP (pMe r2) (g_Me hi_r2) rfl 7 (by decide) (ht _ mw_72) (fun _ h9 => h9) rfl dX4_right_15 ?_
  refine lv_iload_n hx hb dX4_right_18 rfl (lv_at hl 2 rfl) ?_
  refine vp_callSi (W.runS (As := [.int (gF σ (pMe r2) 7), .int p1]) (rest := []) CF (k_has l (gF σ (pMe r2) 7) p1) ⟨callB_of 2 hts (gT mw_402) rfl rfl rfl (ht _ mw_1) (ht _ mw_400) (by decide +kernel) ⟨Nat.le_of_ble_eq_true rfl, Nat.le_of_ble_eq_true rfl⟩, (ht _ mw_401)⟩ preEq rfl rfl hl.1 rfl (lv_room (Nat.le_of_ble_eq_true rfl)) dX4_right_19 ⟨Nat.le_of_ble_eq_true rfl, Nat.le_of_ble_eq_true rfl⟩) (fun r3 h_r3 => ?_)
  obtain rfl := h_r3
  refine lv_istore (lv' := [(5, .int (M_has (gF σ (pMe r2) 7) p1)), (4, .ref (ad (pMe r2))), (0, .ref (ad 0)), (1, .int p1), (2, .int p2), (3, .int p3)]) hx hb dX4_right_22 hl (by decide) rfl (fun ls hl => ?_)
  refine lv_aload hx hb dX4_right_24 (lv_at hl 1 rfl) ?_
  refine lv_aload hx hb dX4_right_26 (lv_at hl 1 rfl) ?_
  refine va_get (D := D) (ci := 1) (v := .int (gF σ (pMe r2) 7)) (C := RX1) (T := TX1) (N := 9) hx hb ht inX1 hown hK hP (pMe r2) (g_Me hi_r2) rfl 7 (by decide) (ht _ mw_72) (fun _ h9 => h9) rfl dX4_right_28 ?_
  refine lv_iload_n hx hb dX4_right_31 rfl (lv_at hl 3 rfl) ?_
  refine lv_iload_n hx hb dX4_right_32 rfl (lv_at hl 5 rfl) ?_
  refine vp_callSi (W.runS (As := [.int (gF σ (pMe r2) 7), .int p1, .int p3]) (rest := [.ref (ad (pMe r2))]) CF (k_with l (gF σ (pMe r2) 7) p1 p3) ⟨callB_of 3 hts (gT mw_325) rfl rfl rfl (ht _ mw_1) (ht _ mw_403) (by decide +kernel) ⟨Nat.le_of_ble_eq_true rfl, Nat.le_of_ble_eq_true rfl⟩, (ht _ mw_324)⟩ preEq rfl rfl hl.1 rfl (lv_room (Nat.le_of_ble_eq_true rfl)) dX4_right_33 ⟨Nat.le_of_ble_eq_true rfl, Nat.le_of_ble_eq_true rfl⟩) (fun r4 h_r4 => ?_)
  obtain rfl := h_r4
  refine va_put (D := D) (ci := 1) (v := .int (M_with (gF σ (pMe r2) 7) p1 p3)) (ty := .int) (C := RX1) (T := TX1) (N := 9) hx hb ht inX1 tyX1 tyX1_ok nmX1 hown hK hP hD hS (pMe r2) (g_Me hi_r2) rfl 7 (by decide) (ht _ mw_72) (fun _ h9 => h9) rfl (by decide +kernel) rfl rfl (Nat.le_of_ble_eq_true rfl) dX4_right_36 (fun H locs hP hD hS => ?_)
  rw [s_Me_7 hi_r2] at hP hD
  refine lv_iload hx hb dX4_right_39 (lv_at hl 0 rfl) ?_
  refine lv_iload_n hx hb dX4_right_41 rfl (lv_at hl 5 rfl) ?_
  refine lv_icmp_eq (tgt := 49) hx hb dX4_right_42 (by decide) (fun c5 => ?_) (fun c5 => ?_)
  · rw [if_pos c5] at hT
    refine lv_iconst (v := 0) hx hb dX4_right_49 (by decide) ?_
    exact vx_ret (W.zret (v := 0) hx hb hr rfl (fun t ht hW => ⟨⟨0, (sF σ (pMe r2) 7 (M_with (gF σ (pMe r2) 7) p1 p3)), rfl, hT, by rw [ht]; exact hP, va_K.moved hW.alike hK, hD⟩, hS.F ht⟩) hS.2.2 dX4_right_50)
  · rw [if_neg c5] at hT
    refine lv_iconst (v := 1) hx hb dX4_right_45 (by decide) ?_
    refine lv_goto (tgt := 50) hx hb dX4_right_46 (by decide) ?_
    exact vx_ret (W.zret (v := 1) hx hb hr rfl (fun t ht hW => ⟨⟨1, (sF σ (pMe r2) 7 (M_with (gF σ (pMe r2) 7) p1 p3)), rfl, hT, by rw [ht]; exact hP, va_K.moved hW.alike hK, hD⟩, hS.F ht⟩) hS.2.2 dX4_right_50)
set_option maxHeartbeats 4000000 in
set_option maxRecDepth 100000 in
theorem k_trial (l : Launch) (hl9 : l.stackTraces = false) (D : va_G) (ad : Nat → Nat) (kk : Nat → ClassId) (sz : Nat) (σ : St) (p1 : Int32) (p2 : Int32) (p3 : Int32) (hI : IB σ) : vx_Met l yX4_trial wsX4_trial { frames := 8, cells := 2, slots := 12, locals := 132 } (va_Pc [.ref (ad 0), .int p1, .int p2, .int p3] (PB D ad kk sz σ)) (va_Qi (fun r u => .ok (r, u) = M_trial σ p1 p2 p3) (QB D ad kk sz) (aL 96 ad sz)) (XB (M_trial σ p1 p2 p3) D ad kk sz σ) 2 12 (aL 96 ad sz) := by
  refine vx_ofW (cc := cX4_trial) (maxL := 6) (ret := (some .boolean)) (by decide) rfl ?_
  intro p e s m args below meth c s₁ B hml hEx hv
  obtain ⟨rfl, hsz, hP, hK, hD0, hE⟩ := hv
  have hx := B.exec
  have hb := B.bytes
  have hr := B.returns
  have hts := atoms_spec (ws := wsX4_trial) B.pre
  have hown : s.vm.findClass RX4 = some m.cls := findClass_of_methodNamed B.named
  have hlocks := B.notSynchronized
  subst hsz
  have hD : va_D (aL 96 ad s.heap.size) (wB ad kk σ) := aL_D hD0
  have hS : va_S (aL 96 ad s.heap.size) s.heap s.heap [] := va_S.rf
  have hl := lv_entry ([.ref (ad 0), .int p1, .int p2, .int p3]) (n := 6) (Nat.le_of_ble_eq_true rfl)
  rw [lg_entry_eq]
  generalize (lg_sl ([.ref (ad 0), .int p1, .int p2, .int p3]) ++ List.replicate (6 - (lg_sl ([.ref (ad 0), .int p1, .int p2, .int p3])).length) Slot.unset).toArray = ls at hl ⊢
  have hl : lv_has ls 6 [(0, .ref (ad 0)), (1, .int p1), (2, .int p2), (3, .int p3)] := hl
  have CF : CallFix p m c cX4_trial 6 s ([.ref (ad 0), .int p1, .int p2, .int p3] : List Value).toArray wsX4_trial RX4 := ⟨hx, hb, hml, hown, hts⟩
  have ht : ∀ w ∈ T0, w.before ([.ref (ad 0), .int p1, .int p2, .int p3] : List Value).toArray s = true := fun w h => hts w (List.mem_cons_of_mem _ h)
  generalize hT : M_trial σ p1 p2 p3 = T
  rw [M_trial] at hT
  refine lv_aload_n hx hb dX4_trial_0 rfl (lv_at hl 0 rfl) ?_
  refine lv_iload_n hx hb dX4_trial_1 rfl (lv_at hl 1 rfl) ?_
  refine kX_q (vx_runV (As := [.int p1]) (rest := []) CF (k_methodAt l hl9 D ad kk _ σ p1 hI) ⟨callB_of 1 hts (gT mw_348) rfl rfl rfl (ht _ mw_1) (ht _ mw_345) (by decide +kernel) ⟨Nat.le_of_ble_eq_true rfl, Nat.le_of_ble_eq_true rfl⟩, (ht _ mw_347), (ht _ ms_9)⟩ (preV_B hK hP hD hE hS (ci := 4) rfl rfl g_MB) rfl rfl hl.1 rfl (lv_room (Nat.le_of_ble_eq_true rfl)) dX4_trial_2 ⟨Nat.le_of_ble_eq_true rfl, Nat.le_of_ble_eq_true rfl⟩) hS hEx hlocks (by decide) (by decide) (fun E h => by rw [← h, xb_er] at hT; exact hT) (fun r1 u9 H locs hw hP hD hS => ?_)
  obtain ⟨r1, rfl, h_r1, e9⟩ := hw
  rw [e9] at hP hD
  have hi_r1 : r1 < 12 := (mAt_lt hI h_r1)
  refine W.eq (g2 := F0 m 5 ls (.ref (ad (pMe r1)) :: [])) rfl ?_
  rw [← h_r1, xb_ok] at hT
  refine lv_astore (lv' := [(4, .ref (ad (pMe r1))), (0, .ref (ad 0)), (1, .int p1), (2, .int p2), (3, .int p3)]) hx hb dX4_trial_5 hl (by decide) rfl (fun ls hl => ?_)
  refine lv_iload_n hx hb dX4_trial_7 rfl (lv_at hl 3 rfl) ?_
  refine lv_bipush (v := 10) hx hb dX4_trial_8 (by decide) ?_
  refine kX_v (vx_runS (As := [.int p2, .int 10]) (rest := []) CF (k_checkPlace l hl9 D ad kk _ σ p2 10) ⟨callB_of 2 hts (gT mw_351) rfl rfl rfl (ht _ mw_1) (ht _ mw_349) (by decide +kernel) ⟨Nat.le_of_ble_eq_true rfl, Nat.le_of_ble_eq_true rfl⟩, (ht _ mw_350)⟩ (preS_B hK hP hD hE hS) rfl rfl hl.1 rfl (lv_room (Nat.le_of_ble_eq_true rfl)) dX4_trial_10 ⟨Nat.le_of_ble_eq_true rfl, Nat.le_of_ble_eq_true rfl⟩) hS hEx hlocks (by decide) (by decide) (fun E h => by rw [← h, xb_er] at hT; exact hT) (fun u9 H locs hw hP hD hS => ?_)
  obtain ⟨h_r2, e9⟩ := hw
  rw [e9] at hP hD
  rw [← h_r2, xb_ok] at hT
  refine lv_aload hx hb dX4_trial_13 (lv_at hl 0 rfl) ?_
  refine va_get (D := D) (ci := 1) (v := .int (gF σ (pMe r1) 8)) (C := RX1) (T := TX1) (N := 9) hx hb ht inX1 hown hK hP (pMe r1) (g_Me hi_r1) rfl 8 (by decide) (ht _ mw_73) (fun _ h9 => h9) rfl dX4_trial_15 ?_
  refine lv_iload_n hx hb dX4_trial_18 rfl (lv_at hl 3 rfl) ?_
  refine vp_callSi (W.runS (As := [.int (gF σ (pMe r1) 8), .int p2]) (rest := []) CF (k_has l (gF σ (pMe r1) 8) p2) ⟨callB_of 2 hts (gT mw_402) rfl rfl rfl (ht _ mw_1) (ht _ mw_400) (by decide +kernel) ⟨Nat.le_of_ble_eq_true rfl, Nat.le_of_ble_eq_true rfl⟩, (ht _ mw_401)⟩ preEq rfl rfl hl.1 rfl (lv_room (Nat.le_of_ble_eq_true rfl)) dX4_trial_19 ⟨Nat.le_of_ble_eq_true rfl, Nat.le_of_ble_eq_true rfl⟩) (fun r3 h_r3 => ?_)
  obtain rfl := h_r3
  refine lv_istore (lv' := [(5, .int (M_has (gF σ (pMe r1) 8) p2)), (4, .ref (ad (pMe r1))), (0, .ref (ad 0)), (1, .int p1), (2, .int p2), (3, .int p3)]) hx hb dX4_trial_22 hl (by decide) rfl (fun ls hl => ?_)
  refine lv_aload hx hb dX4_trial_24 (lv_at hl 1 rfl) ?_
  refine lv_aload hx hb dX4_trial_26 (lv_at hl 1 rfl) ?_
  refine va_get (D := D) (ci := 1) (v := .int (gF σ (pMe r1) 8)) (C := RX1) (T := TX1) (N := 9) hx hb ht inX1 hown hK hP (pMe r1) (g_Me hi_r1) rfl 8 (by decide) (ht _ mw_73) (fun _ h9 => h9) rfl dX4_trial_28 ?_
  refine lv_iload_n hx hb dX4_trial_31 rfl (lv_at hl 4 rfl) ?_
  refine lv_iload_n hx hb dX4_trial_32 rfl (lv_at hl 5 rfl) ?_
  refine vp_callSi (W.runS (As := [.int (gF σ (pMe r1) 8), .int p2, .int p3]) (rest := [.ref (ad (pMe r1))]) CF (k_with l (gF σ (pMe r1) 8) p2 p3) ⟨callB_of 3 hts (gT mw_325) rfl rfl rfl (ht _ mw_1) (ht _ mw_403) (by decide +kernel) ⟨Nat.le_of_ble_eq_true rfl, Nat.le_of_ble_eq_true rfl⟩, (ht _ mw_324)⟩ preEq rfl rfl hl.1 rfl (lv_room (Nat.le_of_ble_eq_true rfl)) dX4_trial_33 ⟨Nat.le_of_ble_eq_true rfl, Nat.le_of_ble_eq_true rfl⟩) (fun r4 h_r4 => ?_)
  obtain rfl := h_r4
  refine va_put (D := D) (ci := 1) (v := .int (M_with (gF σ (pMe r1) 8) p2 p3)) (ty := .int) (C := RX1) (T := TX1) (N := 9) hx hb ht inX1 tyX1 tyX1_ok nmX1 hown hK hP hD hS (pMe r1) (g_Me hi_r1) rfl 8 (by decide) (ht _ mw_73) (fun _ h9 => h9) rfl (by decide +kernel) rfl rfl (Nat.le_of_ble_eq_true rfl) dX4_trial_36 (fun H locs hP hD hS => ?_)
  rw [s_Me_8 hi_r1] at hP hD
  refine lv_iload hx hb dX4_trial_39 (lv_at hl 0 rfl) ?_
  exact vx_ret (W.zret (v := M_has (gF σ (pMe r1) 8) p2) hx hb hr (nb01 (has01 _ _)) (fun t ht hW => ⟨⟨M_has (gF σ (pMe r1) 8) p2, (sF σ (pMe r1) 8 (M_with (gF σ (pMe r1) 8) p2 p3)), rfl, hT, by rw [ht]; exact hP, va_K.moved hW.alike hK, hD⟩, hS.F ht⟩) hS.2.2 dX4_trial_41)
set_option maxHeartbeats 4000000 in
set_option maxRecDepth 100000 in
theorem k_reason (l : Launch) (hl9 : l.stackTraces = false) (D : va_G) (ad : Nat → Nat) (kk : Nat → ClassId) (sz : Nat) (σ : St) (p1 : Int32) (p2 : Int32) (p3 : Int32) (p4 : Int32) (hI : IB σ) : vx_Met l yX4_reason wsX4_reason { frames := 8, cells := 4, slots := 24, locals := 132 } (va_Pc [.ref (ad 0), .int p1, .int p2, .int p3, .int p4] (PB D ad kk sz σ)) (va_Qi (fun r u => .ok r = M_reason σ p1 p2 p3 p4 ∧ u = σ) (QB D ad kk sz) (aL 96 ad sz)) (XB (M_reason σ p1 p2 p3 p4) D ad kk sz σ) 4 24 (aL 96 ad sz) := by
  refine vx_ofW (cc := cX4_reason) (maxL := 7) (ret := (some .int)) (by decide) rfl ?_
  intro p e s m args below meth c s₁ B hml hEx hv
  obtain ⟨rfl, hsz, hP, hK, hD0, hE⟩ := hv
  have hx := B.exec
  have hb := B.bytes
  have hr := B.returns
  have hts := atoms_spec (ws := wsX4_reason) B.pre
  have hown : s.vm.findClass RX4 = some m.cls := findClass_of_methodNamed B.named
  have hlocks := B.notSynchronized
  subst hsz
  have hD : va_D (aL 96 ad s.heap.size) (wB ad kk σ) := aL_D hD0
  have hS : va_S (aL 96 ad s.heap.size) s.heap s.heap [] := va_S.rf
  have hl := lv_entry ([.ref (ad 0), .int p1, .int p2, .int p3, .int p4]) (n := 7) (Nat.le_of_ble_eq_true rfl)
  rw [lg_entry_eq]
  generalize (lg_sl ([.ref (ad 0), .int p1, .int p2, .int p3, .int p4]) ++ List.replicate (7 - (lg_sl ([.ref (ad 0), .int p1, .int p2, .int p3, .int p4])).length) Slot.unset).toArray = ls at hl ⊢
  have hl : lv_has ls 7 [(0, .ref (ad 0)), (1, .int p1), (2, .int p2), (3, .int p3), (4, .int p4)] := hl
  have CF : CallFix p m c cX4_reason 7 s ([.ref (ad 0), .int p1, .int p2, .int p3, .int p4] : List Value).toArray wsX4_reason RX4 := ⟨hx, hb, hml, hown, hts⟩
  have ht : ∀ w ∈ T0, w.before ([.ref (ad 0), .int p1, .int p2, .int p3, .int p4] : List Value).toArray s = true := fun w h => hts w (List.mem_cons_of_mem _ h)
  generalize hT : M_reason σ p1 p2 p3 p4 = T
  rw [M_reason] at hT
  refine lv_aload_n hx hb dX4_reason_0 rfl (lv_at hl 0 rfl) ?_
  refine lv_iload_n hx hb dX4_reason_1 rfl (lv_at hl 1 rfl) ?_
  refine kX_q (vx_runV (As := [.int p1]) (rest := []) CF (k_pieceAt l hl9 D ad kk _ σ p1 hI) ⟨callB_of 1 hts (gT mw_386) rfl rfl rfl (ht _ mw_1) (ht _ mw_383) (by decide +kernel) ⟨Nat.le_of_ble_eq_true rfl, Nat.le_of_ble_eq_true rfl⟩, (ht _ mw_385), (ht _ ms_10)⟩ (preV_B hK hP hD hE hS (ci := 4) rfl rfl g_MB) rfl rfl hl.1 rfl (lv_room (Nat.le_of_ble_eq_true rfl)) dX4_reason_2 ⟨Nat.le_of_ble_eq_true rfl, Nat.le_of_ble_eq_true rfl⟩) hS hEx hlocks (by decide) (by decide) (fun E h => by rw [← h, xb_er] at hT; exact hT) (fun r1 u9 H locs hw hP hD hS => ?_)
  obtain ⟨r1, rfl, h_r1, e9⟩ := hw
  rw [e9] at hP hD
  have hi_r1 : r1 < 10 := (pAt_lt hI h_r1)
  refine W.eq (g2 := F0 m 5 ls (.ref (ad (pPi r1)) :: [])) rfl ?_
  rw [← h_r1, xb_ok] at hT
  refine lv_astore (lv' := [(5, .ref (ad (pPi r1))), (0, .ref (ad 0)), (1, .int p1), (2, .int p2), (3, .int p3), (4, .int p4)]) hx hb dX4_reason_5 hl (by decide) rfl (fun ls hl => ?_)
  refine lv_aload_n hx hb dX4_reason_7 rfl (lv_at hl 1 rfl) ?_
  refine lv_iload_n hx hb dX4_reason_8 rfl (lv_at hl 3 rfl) ?_
  refine kX_q (vx_runV (As := [.int p2]) (rest := []) CF (k_methodAt l hl9 D ad kk _ σ p2 hI) ⟨callB_of 1 hts (gT mw_348) rfl rfl rfl (ht _ mw_1) (ht _ mw_345) (by decide +kernel) ⟨Nat.le_of_ble_eq_true rfl, Nat.le_of_ble_eq_true rfl⟩, (ht _ mw_347), (ht _ ms_9)⟩ (preV_B hK hP hD hE hS (ci := 4) rfl rfl g_MB) rfl rfl hl.1 rfl (lv_room (Nat.le_of_ble_eq_true rfl)) dX4_reason_9 ⟨Nat.le_of_ble_eq_true rfl, Nat.le_of_ble_eq_true rfl⟩) hS hEx hlocks (by decide) (by decide) (fun E h => by rw [← h, xb_er] at hT; exact hT) (fun r2 u9 H locs hw hP hD hS => ?_)
  obtain ⟨r2, rfl, h_r2, e9⟩ := hw
  rw [e9] at hP hD
  have hi_r2 : r2 < 12 := (mAt_lt hI h_r2)
  refine W.eq (g2 := F0 m 12 ls (.ref (ad (pMe r2)) :: [])) rfl ?_
  rw [← h_r2, xb_ok] at hT
  refine lv_astore (lv' := [(6, .ref (ad (pMe r2))), (5, .ref (ad (pPi r1))), (0, .ref (ad 0)), (1, .int p1), (2, .int p2), (3, .int p3), (4, .int p4)]) hx hb dX4_reason_12 hl (by decide) rfl (fun ls hl => ?_)
  refine lv_iload_n hx hb dX4_reason_14 rfl (lv_at hl 5 rfl) ?_
  refine lv_bipush (v := 8) hx hb dX4_reason_15 (by decide) ?_
  refine kX_v (vx_runS (As := [.int p3, .int 8]) (rest := []) CF (k_checkPlace l hl9 D ad kk _ σ p3 8) ⟨callB_of 2 hts (gT mw_351) rfl rfl rfl (ht _ mw_1) (ht _ mw_349) (by decide +kernel) ⟨Nat.le_of_ble_eq_true rfl, Nat.le_of_ble_eq_true rfl⟩, (ht _ mw_350)⟩ (preS_B hK hP hD hE hS) rfl rfl hl.1 rfl (lv_room (Nat.le_of_ble_eq_true rfl)) dX4_reason_17 ⟨Nat.le_of_ble_eq_true rfl, Nat.le_of_ble_eq_true rfl⟩) hS hEx hlocks (by decide) (by decide) (fun E h => by rw [← h, xb_er] at hT; exact hT) (fun u9 H locs hw hP hD hS => ?_)
  obtain ⟨h_r3, e9⟩ := hw
  rw [e9] at hP hD
  rw [← h_r3, xb_ok] at hT
  refine lv_iload hx hb dX4_reason_20 (lv_at hl 6 rfl) ?_
  refine lv_iconst (v := 0) hx hb dX4_reason_22 (by decide) ?_
  refine kX_v (vx_runS (As := [.int p4, .int 0]) (rest := []) CF (k_checkHour l hl9 D ad kk _ σ p4 0) ⟨callB_of 2 hts (gT mw_420) rfl rfl rfl (ht _ mw_1) (ht _ mw_418) (by decide +kernel) ⟨Nat.le_of_ble_eq_true rfl, Nat.le_of_ble_eq_true rfl⟩, (ht _ mw_419)⟩ (preS_B hK hP hD hE hS) rfl rfl hl.1 rfl (lv_room (Nat.le_of_ble_eq_true rfl)) dX4_reason_23 ⟨Nat.le_of_ble_eq_true rfl, Nat.le_of_ble_eq_true rfl⟩) hS hEx hlocks (by decide) (by decide) (fun E h => by rw [← h, xb_er] at hT; exact hT) (fun u9 H locs hw hP hD hS => ?_)
  obtain ⟨h_r4, e9⟩ := hw
  rw [e9] at hP hD
  rw [← h_r4, xb_ok] at hT
  refine lv_aload_n hx hb dX4_reason_26 rfl (lv_at hl 2 rfl) ?_
  refine lv_aload hx hb dX4_reason_27 (lv_at hl 1 rfl) ?_
  refine lv_aload hx hb dX4_reason_29 (lv_at hl 0 rfl) ?_
  refine lv_iload_n hx hb dX4_reason_31 rfl (lv_at hl 5 rfl) ?_
  refine lv_iload hx hb dX4_reason_32 (lv_at hl 6 rfl) ?_
  refine kB_i (va_runV (As := [.ref (ad (pPi r1)), .ref (ad (pMe r2)), .int p3, .int p4]) (rest := []) CF (k_reasonAgainst l D ad kk _ σ r1 r2 p3 p4 hi_r1 hi_r2 (hI.ptc hi_r1)) ⟨callB_of 4 hts (gT mw_426) rfl rfl rfl (ht _ mw_1) (ht _ mw_423) (by decide +kernel) ⟨Nat.le_of_ble_eq_true rfl, Nat.le_of_ble_eq_true rfl⟩, (ht _ mw_425), (ht _ ms_11)⟩ (preV_B hK hP hD hE hS (ci := 4) rfl rfl g_MB) rfl rfl hl.1 rfl (lv_room (Nat.le_of_ble_eq_true rfl)) dX4_reason_34 ⟨Nat.le_of_ble_eq_true rfl, Nat.le_of_ble_eq_true rfl⟩) hS (fun r5 u9 H locs hw hP hD hS => ?_)
  obtain ⟨rfl, e9⟩ := hw
  rw [e9] at hP hD
  exact vx_ret (W.iret (v := M_reasonAgainst σ r1 r2 p3 p4) hx hb hr (fun t ht hW => ⟨⟨M_reasonAgainst σ r1 r2 p3 p4, σ, rfl, ⟨hT, rfl⟩, by rw [ht]; exact hP, va_K.moved hW.alike hK, hD⟩, hS.F ht⟩) hS.2.2 dX4_reason_37)

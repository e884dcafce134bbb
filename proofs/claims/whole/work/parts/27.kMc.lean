set_option maxHeartbeats 4000000 in
set_option maxRecDepth 100000 in
theorem k_m_stock (l : Launch) (D : va_G) (ad : Nat → Nat) (kk : Nat → ClassId) (sz : Nat) (σ : St) (p1 : Int32) (p2 : Int32) (hI : IM σ) : Met l yX5_stock wsX5_stock { frames := 1, cells := 0, slots := 0, locals := 23 } (va_Pc [.ref (ad 0), .int p1, .int p2] (PM D ad kk sz σ)) (va_Qi (fun r u => (r, u) = M_m_stock σ p1 p2) (QM D ad kk sz) (aL 23 ad sz)) 0 0 (aL 23 ad sz) := by
  refine Met.ofW (cc := cX5_stock) (maxL := 4) (ret := (some .int)) (by decide) rfl ?_
  intro p e s m args below meth c s₁ B hml hv
  obtain ⟨rfl, hsz, hP, hK, hD0⟩ := hv
  have hx := B.exec
  have hb := B.bytes
  have hr := B.returns
  have hts := atoms_spec (ws := wsX5_stock) B.pre
  have hown : s.vm.findClass RX5 = some m.cls := findClass_of_methodNamed B.named
  have hlocks := B.notSynchronized
  subst hsz
  have hD : va_D (aL 23 ad s.heap.size) (wM ad kk σ) := aL_D hD0
  have hS : va_S (aL 23 ad s.heap.size) s.heap s.heap [] := va_S.rf
  have hl := lv_entry ([.ref (ad 0), .int p1, .int p2]) (n := 4) (Nat.le_of_ble_eq_true rfl)
  rw [lg_entry_eq]
  generalize (lg_sl ([.ref (ad 0), .int p1, .int p2]) ++ List.replicate (4 - (lg_sl ([.ref (ad 0), .int p1, .int p2])).length) Slot.unset).toArray = ls at hl ⊢
  have hl : lv_has ls 4 [(0, .ref (ad 0)), (1, .int p1), (2, .int p2)] := hl
  have CF : CallFix p m c cX5_stock 4 s ([.ref (ad 0), .int p1, .int p2] : List Value).toArray wsX5_stock RX5 := ⟨hx, hb, hml, hown, hts⟩
  have ht : ∀ w ∈ T0, w.before ([.ref (ad 0), .int p1, .int p2] : List Value).toArray s = true := fun w h => hts w (List.mem_cons_of_mem _ h)
  generalize hT : M_m_stock σ p1 p2 = T
  refine namedQ (fun Q eQ => ?_)
  rw [M_m_stock] at hT
  refine lv_aload_n hx hb dX5_stock_0 rfl (lv_at hl 0 rfl) ?_
  refine lv_iload_n hx hb dX5_stock_1 rfl (lv_at hl 1 rfl) ?_
  refine lv_bipush (v := 12) hx hb dX5_stock_2 (by decide) ?_
  refine vp_callSi (W.runS (As := [.int p1, .int 12]) (rest := [.ref (ad 0)]) CF (k_m_below l p1 12) ⟨callB_of 2 hts (gT mw_693) rfl rfl rfl (ht _ mw_6) (ht _ mw_691) (by decide +kernel) ⟨Nat.le_of_ble_eq_true rfl, Nat.le_of_ble_eq_true rfl⟩, (ht _ mw_692)⟩ preEq rfl rfl hl.1 rfl (lv_room (Nat.le_of_ble_eq_true rfl)) dX5_stock_4 ⟨Nat.le_of_ble_eq_true rfl, Nat.le_of_ble_eq_true rfl⟩) (fun r1 h_r1 => ?_)
  obtain rfl := h_r1
  refine lv_iload_n hx hb dX5_stock_7 rfl (lv_at hl 2 rfl) ?_
  refine lv_ldc (v := (-1000000)) hx hb hown (ht _ mw_762) dX5_stock_8 ?_
  refine jn (α := Int32) (E := (if p2 < (-1000000) then 0 else (if 1000000 < p2 then 0 else 1))) (Kp := fun y => ∀ (H : Heap) (locs : List Loc), va_P D vwCl (wM ad kk σ) H → va_D (aL 23 ad s.heap.size) (wM ad kk σ) → va_S (aL 23 ad s.heap.size) s.heap H locs → W p l e (headSpec wsX5_stock { frames := 1, cells := 0, slots := 0, locals := 23 }).room s m ([.ref (ad 0), .int p1, .int p2] : List Value).toArray below meth c H locs 0 0 Q (F0 m 24 ls (.int y :: .int (M_m_below p1 12) :: .ref (ad 0) :: []))) (fun Vy2 hVy2 Ky2 => ?_) (fun y2 hy_y2 => ?_)
  · refine lv_icmp_lt (tgt := 23) hx hb dX5_stock_10 (by decide) (fun c3 => ?_) (fun c3 => ?_)
    · rw [if_pos c3] at hVy2
      refine lv_iconst (v := 0) hx hb dX5_stock_23 (by decide) ?_
      exact Ky2 0 hVy2 _ _ hP hD hS
    · rw [if_neg c3] at hVy2
      refine lv_iload_n hx hb dX5_stock_13 rfl (lv_at hl 2 rfl) ?_
      refine lv_ldc (v := 1000000) hx hb hown (ht _ mw_725) dX5_stock_14 ?_
      refine lv_icmp_gt (tgt := 23) hx hb dX5_stock_16 (by decide) (fun c4 => ?_) (fun c4 => ?_)
      · rw [if_pos c4] at hVy2
        refine lv_iconst (v := 0) hx hb dX5_stock_23 (by decide) ?_
        exact Ky2 0 hVy2 _ _ hP hD hS
      · rw [if_neg c4] at hVy2
        refine lv_iconst (v := 1) hx hb dX5_stock_19 (by decide) ?_
        refine lv_goto (tgt := 24) hx hb dX5_stock_20 (by decide) ?_
        exact Ky2 1 hVy2 _ _ hP hD hS
  · intro H locs hP hD hS
    rw [← hy_y2, vb_eq] at hT
    have b_y2 : y2 = 0 ∨ y2 = 1 := by rw [hy_y2]; (repeat' split) <;> first | exact Or.inl rfl | exact Or.inr rfl
    refine lv_iconst (v := 1) hx hb dX5_stock_24 (by decide) ?_
    refine kM_i (va_runV (As := [.int (M_m_below p1 12), .int y2, .int 1]) (rest := []) CF (k_m_goes l D ad kk _ σ (M_m_below p1 12) y2 1) ⟨callB_of 3 hts (gT mw_668) rfl rfl rfl (ht _ mw_6) (ht _ mw_665) (by decide +kernel) ⟨Nat.le_of_ble_eq_true rfl, Nat.le_of_ble_eq_true rfl⟩, (ht _ mw_667), (ht _ ms_23)⟩ (preV_M hK hP hD hS (ci := 5) rfl rfl g_Md) rfl rfl hl.1 rfl (lv_room (Nat.le_of_ble_eq_true rfl)) dX5_stock_25 ⟨Nat.le_of_ble_eq_true rfl, Nat.le_of_ble_eq_true rfl⟩) hS (fun r5 σ6 H locs hw hP hD hS => ?_)
    rw [← hw, pb_mk] at hT
    have h_r5 := hw
    have hg := h_r5
    have hI1 := IM.goes hI h_r5
    refine lv_if_ne (tgt := 33) hx hb dX5_stock_28 (by decide) (fun c7 => ?_) (fun c7 => ?_)
    · rw [if_neg c7] at hT
      have hok := goes_ok hg c7
      refine lv_aload_n hx hb dX5_stock_33 rfl (lv_at hl 0 rfl) ?_
      refine va_get (D := D) (ci := 5) (v := .ref (ad 15)) (C := RX5) (T := TX5) (N := 27) hx hb ht inX5 hown hK hP 0 g_Md rfl 18 (by decide) (ht _ mw_591) (fun _ h9 => h9) rfl dX5_stock_34 ?_
      refine lv_iload_n hx hb dX5_stock_37 rfl (lv_at hl 1 rfl) ?_
      refine va_iald (i := p1) hx hb hK hP 15 0 g_m_stocks rfl (below_in (N := 12) hok.1 (by decide)) dX5_stock_38 ?_
      refine lv_iload_n hx hb dX5_stock_39 rfl (lv_at hl 2 rfl) ?_
      refine lv_iadd hx hb dX5_stock_40 ?_
      refine lv_istore_n (lv' := [(3, .int ((gA σ6 15 p1.toNatClampNeg) + p2)), (0, .ref (ad 0)), (1, .int p1), (2, .int p2)]) hx hb dX5_stock_41 rfl hl (by decide) rfl (fun ls hl => ?_)
      refine lv_iload_n hx hb dX5_stock_42 rfl (lv_at hl 0 rfl) ?_
      refine lv_if_lt (tgt := 52) hx hb dX5_stock_43 (by decide) (fun c8 => ?_) (fun c8 => ?_)
      · rw [if_pos c8] at hT
        refine lv_iconst (v := (-1)) hx hb dX5_stock_52 (by decide) ?_
        rw [eQ]
        exact W.iret (v := (-1)) hx hb hr (fun t ht hW => ⟨⟨(-1), σ6, rfl, hT, by rw [ht]; exact hP, va_K.moved hW.alike hK, hD⟩, hS.F ht⟩) hS.2.2 dX5_stock_53
      · rw [if_neg c8] at hT
        refine lv_iload_n hx hb dX5_stock_46 rfl (lv_at hl 0 rfl) ?_
        refine lv_ldc (v := 1000000) hx hb hown (ht _ mw_725) dX5_stock_47 ?_
        refine lv_icmp_le (tgt := 54) hx hb dX5_stock_49 (by decide) (fun c9 => ?_) (fun c9 => ?_)
        · rw [if_pos c9] at hT
          refine lv_aload_n hx hb dX5_stock_54 rfl (lv_at hl 1 rfl) ?_
          refine va_get (D := D) (ci := 5) (v := .ref (ad 15)) (C := RX5) (T := TX5) (N := 27) hx hb ht inX5 hown hK hP 0 g_Md rfl 18 (by decide) (ht _ mw_591) (fun _ h9 => h9) rfl dX5_stock_55 ?_
          refine lv_iload_n hx hb dX5_stock_58 rfl (lv_at hl 2 rfl) ?_
          refine lv_iload_n hx hb dX5_stock_59 rfl (lv_at hl 0 rfl) ?_
          refine va_iast (i := p1) (x := (gA σ6 15 p1.toNatClampNeg) + p2) hx hb hK hP hD hS 15 0 g_m_stocks rfl (below_in (N := 12) hok.1 (by decide)) dX5_stock_60 (fun H locs hP hD hS => ?_)
          rw [s_m_stocks] at hP hD
          refine lv_aload_n hx hb dX5_stock_61 rfl (lv_at hl 1 rfl) ?_
          refine va_get (D := D) (ci := 5) (v := .ref (ad 16)) (C := RX5) (T := TX5) (N := 27) hx hb ht inX5 hown hK hP 0 g_Md rfl 19 (by decide) (ht _ mw_592) (fun _ h9 => h9) rfl dX5_stock_62 ?_
          refine lv_iload_n hx hb dX5_stock_65 rfl (lv_at hl 2 rfl) ?_
          refine lv_iload_n hx hb dX5_stock_66 rfl (lv_at hl 3 rfl) ?_
          refine jn (α := Int64) (E := (if p2 ≤ 0 then (gL (sA σ6 15 p1.toNatClampNeg ((gA σ6 15 p1.toNatClampNeg) + p2)) 16 p1.toNatClampNeg) else ((gL (sA σ6 15 p1.toNatClampNeg ((gA σ6 15 p1.toNatClampNeg) + p2)) 16 p1.toNatClampNeg) + p2.toInt64))) (Kp := fun y => ∀ (H : Heap) (locs : List Loc), va_P D vwCl (wM ad kk (sA σ6 15 p1.toNatClampNeg ((gA σ6 15 p1.toNatClampNeg) + p2))) H → va_D (aL 23 ad s.heap.size) (wM ad kk (sA σ6 15 p1.toNatClampNeg ((gA σ6 15 p1.toNatClampNeg) + p2))) → va_S (aL 23 ad s.heap.size) s.heap H locs → W p l e (headSpec wsX5_stock { frames := 1, cells := 0, slots := 0, locals := 23 }).room s m ([.ref (ad 0), .int p1, .int p2] : List Value).toArray below meth c H locs 0 0 Q (F0 m 88 ls (.long y :: .int p1 :: .ref (ad 16) :: []))) (fun Vy10 hVy10 Ky10 => ?_) (fun y10 hy_y10 => ?_)
          · refine lv_if_le (tgt := 82) hx hb dX5_stock_67 (by decide) (fun c11 => ?_) (fun c11 => ?_)
            · rw [if_pos c11] at hVy10
              refine lv_aload_n hx hb dX5_stock_82 rfl (lv_at hl 1 rfl) ?_
              refine va_get (D := D) (ci := 5) (v := .ref (ad 16)) (C := RX5) (T := TX5) (N := 27) hx hb ht inX5 hown hK hP 0 g_Md rfl 19 (by decide) (ht _ mw_592) (fun _ h9 => h9) rfl dX5_stock_83 ?_
              refine lv_iload_n hx hb dX5_stock_86 rfl (lv_at hl 2 rfl) ?_
              refine va_lald (i := p1) hx hb hK hP 16 2 g_m_came rfl (below_in (N := 12) hok.1 (by decide)) dX5_stock_87 ?_
              exact Ky10 (gL (sA σ6 15 p1.toNatClampNeg ((gA σ6 15 p1.toNatClampNeg) + p2)) 16 p1.toNatClampNeg) hVy10 _ _ hP hD hS
            · rw [if_neg c11] at hVy10
              refine lv_aload_n hx hb dX5_stock_70 rfl (lv_at hl 1 rfl) ?_
              refine va_get (D := D) (ci := 5) (v := .ref (ad 16)) (C := RX5) (T := TX5) (N := 27) hx hb ht inX5 hown hK hP 0 g_Md rfl 19 (by decide) (ht _ mw_592) (fun _ h9 => h9) rfl dX5_stock_71 ?_
              refine lv_iload_n hx hb dX5_stock_74 rfl (lv_at hl 2 rfl) ?_
              refine va_lald (i := p1) hx hb hK hP 16 2 g_m_came rfl (below_in (N := 12) hok.1 (by decide)) dX5_stock_75 ?_
              refine lv_iload_n hx hb dX5_stock_76 rfl (lv_at hl 3 rfl) ?_
              refine lv_i2l hx hb dX5_stock_77 rfl ?_
              refine lv_ladd hx hb dX5_stock_78 ?_
              refine lv_goto (tgt := 88) hx hb dX5_stock_79 (by decide) ?_
              exact Ky10 ((gL (sA σ6 15 p1.toNatClampNeg ((gA σ6 15 p1.toNatClampNeg) + p2)) 16 p1.toNatClampNeg) + p2.toInt64) hVy10 _ _ hP hD hS
          · intro H locs hP hD hS
            rw [← hy_y10, vb_eq] at hT
            refine va_last (i := p1) (x := y10) hx hb hK hP hD hS 16 2 g_m_came rfl (below_in (N := 12) hok.1 (by decide)) dX5_stock_88 (fun H locs hP hD hS => ?_)
            rw [s_m_came] at hP hD
            refine lv_aload_n hx hb dX5_stock_89 rfl (lv_at hl 1 rfl) ?_
            refine va_get (D := D) (ci := 5) (v := .ref (ad 17)) (C := RX5) (T := TX5) (N := 27) hx hb ht inX5 hown hK hP 0 g_Md rfl 20 (by decide) (ht _ mw_593) (fun _ h9 => h9) rfl dX5_stock_90 ?_
            refine lv_iload_n hx hb dX5_stock_93 rfl (lv_at hl 2 rfl) ?_
            refine lv_iload_n hx hb dX5_stock_94 rfl (lv_at hl 3 rfl) ?_
            refine jn (α := Int64) (E := (if 0 ≤ p2 then (gL (sL (sA σ6 15 p1.toNatClampNeg ((gA σ6 15 p1.toNatClampNeg) + p2)) 16 p1.toNatClampNeg y10) 17 p1.toNatClampNeg) else ((gL (sL (sA σ6 15 p1.toNatClampNeg ((gA σ6 15 p1.toNatClampNeg) + p2)) 16 p1.toNatClampNeg y10) 17 p1.toNatClampNeg) - p2.toInt64))) (Kp := fun y => ∀ (H : Heap) (locs : List Loc), va_P D vwCl (wM ad kk (sL (sA σ6 15 p1.toNatClampNeg ((gA σ6 15 p1.toNatClampNeg) + p2)) 16 p1.toNatClampNeg y10)) H → va_D (aL 23 ad s.heap.size) (wM ad kk (sL (sA σ6 15 p1.toNatClampNeg ((gA σ6 15 p1.toNatClampNeg) + p2)) 16 p1.toNatClampNeg y10)) → va_S (aL 23 ad s.heap.size) s.heap H locs → W p l e (headSpec wsX5_stock { frames := 1, cells := 0, slots := 0, locals := 23 }).room s m ([.ref (ad 0), .int p1, .int p2] : List Value).toArray below meth c H locs 0 0 Q (F0 m 116 ls (.long y :: .int p1 :: .ref (ad 17) :: []))) (fun Vy12 hVy12 Ky12 => ?_) (fun y12 hy_y12 => ?_)
            · refine lv_if_ge (tgt := 110) hx hb dX5_stock_95 (by decide) (fun c13 => ?_) (fun c13 => ?_)
              · rw [if_pos c13] at hVy12
                refine lv_aload_n hx hb dX5_stock_110 rfl (lv_at hl 1 rfl) ?_
                refine va_get (D := D) (ci := 5) (v := .ref (ad 17)) (C := RX5) (T := TX5) (N := 27) hx hb ht inX5 hown hK hP 0 g_Md rfl 20 (by decide) (ht _ mw_593) (fun _ h9 => h9) rfl dX5_stock_111 ?_
                refine lv_iload_n hx hb dX5_stock_114 rfl (lv_at hl 2 rfl) ?_
                refine va_lald (i := p1) hx hb hK hP 17 2 g_m_went rfl (below_in (N := 12) hok.1 (by decide)) dX5_stock_115 ?_
                exact Ky12 (gL (sL (sA σ6 15 p1.toNatClampNeg ((gA σ6 15 p1.toNatClampNeg) + p2)) 16 p1.toNatClampNeg y10) 17 p1.toNatClampNeg) hVy12 _ _ hP hD hS
              · rw [if_neg c13] at hVy12
                refine lv_aload_n hx hb dX5_stock_98 rfl (lv_at hl 1 rfl) ?_
                refine va_get (D := D) (ci := 5) (v := .ref (ad 17)) (C := RX5) (T := TX5) (N := 27) hx hb ht inX5 hown hK hP 0 g_Md rfl 20 (by decide) (ht _ mw_593) (fun _ h9 => h9) rfl dX5_stock_99 ?_
                refine lv_iload_n hx hb dX5_stock_102 rfl (lv_at hl 2 rfl) ?_
                refine va_lald (i := p1) hx hb hK hP 17 2 g_m_went rfl (below_in (N := 12) hok.1 (by decide)) dX5_stock_103 ?_
                refine lv_iload_n hx hb dX5_stock_104 rfl (lv_at hl 3 rfl) ?_
                refine lv_i2l hx hb dX5_stock_105 rfl ?_
                refine lv_lsub hx hb dX5_stock_106 ?_
                refine lv_goto (tgt := 116) hx hb dX5_stock_107 (by decide) ?_
                exact Ky12 ((gL (sL (sA σ6 15 p1.toNatClampNeg ((gA σ6 15 p1.toNatClampNeg) + p2)) 16 p1.toNatClampNeg y10) 17 p1.toNatClampNeg) - p2.toInt64) hVy12 _ _ hP hD hS
            · intro H locs hP hD hS
              rw [← hy_y12, vb_eq] at hT
              refine va_last (i := p1) (x := y12) hx hb hK hP hD hS 17 2 g_m_went rfl (below_in (N := 12) hok.1 (by decide)) dX5_stock_116 (fun H locs hP hD hS => ?_)
              rw [s_m_went] at hP hD
              refine lv_iload_n hx hb dX5_stock_117 rfl (lv_at hl 0 rfl) ?_
              rw [eQ]
              exact W.iret (v := (gA σ6 15 p1.toNatClampNeg) + p2) hx hb hr (fun t ht hW => ⟨⟨(gA σ6 15 p1.toNatClampNeg) + p2, (sL (sL (sA σ6 15 p1.toNatClampNeg ((gA σ6 15 p1.toNatClampNeg) + p2)) 16 p1.toNatClampNeg y10) 17 p1.toNatClampNeg y12), rfl, hT, by rw [ht]; exact hP, va_K.moved hW.alike hK, hD⟩, hS.F ht⟩) hS.2.2 dX5_stock_118
        · rw [if_neg c9] at hT
          refine lv_iconst (v := (-1)) hx hb dX5_stock_52 (by decide) ?_
          rw [eQ]
          exact W.iret (v := (-1)) hx hb hr (fun t ht hW => ⟨⟨(-1), σ6, rfl, hT, by rw [ht]; exact hP, va_K.moved hW.alike hK, hD⟩, hS.F ht⟩) hS.2.2 dX5_stock_53
    · rw [if_pos c7] at hT
      refine lv_iconst (v := 0) hx hb dX5_stock_31 (by decide) ?_
      rw [eQ]
      exact W.iret (v := 0) hx hb hr (fun t ht hW => ⟨⟨0, σ6, rfl, hT, by rw [ht]; exact hP, va_K.moved hW.alike hK, hD⟩, hS.F ht⟩) hS.2.2 dX5_stock_32
set_option maxHeartbeats 4000000 in
set_option maxRecDepth 100000 in
theorem k_m_about (l : Launch) (D : va_G) (ad : Nat → Nat) (kk : Nat → ClassId) (sz : Nat) (σ : St) (p1 : Int32) (p2 : Int32) (hI : IM σ) : Met l yX5_about wsX5_about { frames := 1, cells := 0, slots := 0, locals := 23 } (va_Pc [.ref (ad 0), .int p1, .int p2] (PM D ad kk sz σ)) (va_Ql (fun r u => (r, u) = M_m_about σ p1 p2) (QM D ad kk sz) (aL 23 ad sz)) 0 0 (aL 23 ad sz) := by
  refine Met.ofW (cc := cX5_about) (maxL := 3) (ret := (some .long)) (by decide) rfl ?_
  intro p e s m args below meth c s₁ B hml hv
  obtain ⟨rfl, hsz, hP, hK, hD0⟩ := hv
  have hx := B.exec
  have hb := B.bytes
  have hr := B.returns
  have hts := atoms_spec (ws := wsX5_about) B.pre
  have hown : s.vm.findClass RX5 = some m.cls := findClass_of_methodNamed B.named
  have hlocks := B.notSynchronized
  subst hsz
  have hD : va_D (aL 23 ad s.heap.size) (wM ad kk σ) := aL_D hD0
  have hS : va_S (aL 23 ad s.heap.size) s.heap s.heap [] := va_S.rf
  have hl := lv_entry ([.ref (ad 0), .int p1, .int p2]) (n := 3) (Nat.le_of_ble_eq_true rfl)
  rw [lg_entry_eq]
  generalize (lg_sl ([.ref (ad 0), .int p1, .int p2]) ++ List.replicate (3 - (lg_sl ([.ref (ad 0), .int p1, .int p2])).length) Slot.unset).toArray = ls at hl ⊢
  have hl : lv_has ls 3 [(0, .ref (ad 0)), (1, .int p1), (2, .int p2)] := hl
  have CF : CallFix p m c cX5_about 3 s ([.ref (ad 0), .int p1, .int p2] : List Value).toArray wsX5_about RX5 := ⟨hx, hb, hml, hown, hts⟩
  have ht : ∀ w ∈ T0, w.before ([.ref (ad 0), .int p1, .int p2] : List Value).toArray s = true := fun w h => hts w (List.mem_cons_of_mem _ h)
  generalize hT : M_m_about σ p1 p2 = T
  refine namedQ (fun Q eQ => ?_)
  rw [M_m_about] at hT
  refine lv_aload_n hx hb dX5_about_0 rfl (lv_at hl 0 rfl) ?_
  refine lv_iload_n hx hb dX5_about_1 rfl (lv_at hl 1 rfl) ?_
  refine lv_bipush (v := 12) hx hb dX5_about_2 (by decide) ?_
  refine vp_callSi (W.runS (As := [.int p1, .int 12]) (rest := [.ref (ad 0)]) CF (k_m_below l p1 12) ⟨callB_of 2 hts (gT mw_693) rfl rfl rfl (ht _ mw_6) (ht _ mw_691) (by decide +kernel) ⟨Nat.le_of_ble_eq_true rfl, Nat.le_of_ble_eq_true rfl⟩, (ht _ mw_692)⟩ preEq rfl rfl hl.1 rfl (lv_room (Nat.le_of_ble_eq_true rfl)) dX5_about_4 ⟨Nat.le_of_ble_eq_true rfl, Nat.le_of_ble_eq_true rfl⟩) (fun r1 h_r1 => ?_)
  obtain rfl := h_r1
  refine jn (α := Int32) (E := (if (M_m_below p1 12) = 0 then 0 else (if p2 < 0 then 0 else (if 3 < p2 then 0 else 1)))) (Kp := fun y => ∀ (H : Heap) (locs : List Loc), va_P D vwCl (wM ad kk σ) H → va_D (aL 23 ad s.heap.size) (wM ad kk σ) → va_S (aL 23 ad s.heap.size) s.heap H locs → W p l e (headSpec wsX5_about { frames := 1, cells := 0, slots := 0, locals := 23 }).room s m ([.ref (ad 0), .int p1, .int p2] : List Value).toArray below meth c H locs 0 0 Q (F0 m 24 ls (.int y :: .ref (ad 0) :: []))) (fun Vy2 hVy2 Ky2 => ?_) (fun y2 hy_y2 => ?_)
  · refine lv_if_eq (tgt := 23) hx hb dX5_about_7 (by decide) (fun c3 => ?_) (fun c3 => ?_)
    · rw [if_pos c3] at hVy2
      refine lv_iconst (v := 0) hx hb dX5_about_23 (by decide) ?_
      exact Ky2 0 hVy2 _ _ hP hD hS
    · rw [if_neg c3] at hVy2
      refine lv_iload_n hx hb dX5_about_10 rfl (lv_at hl 2 rfl) ?_
      refine lv_if_lt (tgt := 23) hx hb dX5_about_11 (by decide) (fun c4 => ?_) (fun c4 => ?_)
      · rw [if_pos c4] at hVy2
        refine lv_iconst (v := 0) hx hb dX5_about_23 (by decide) ?_
        exact Ky2 0 hVy2 _ _ hP hD hS
      · rw [if_neg c4] at hVy2
        refine lv_iload_n hx hb dX5_about_14 rfl (lv_at hl 2 rfl) ?_
        refine lv_iconst (v := 3) hx hb dX5_about_15 (by decide) ?_
        refine lv_icmp_gt (tgt := 23) hx hb dX5_about_16 (by decide) (fun c5 => ?_) (fun c5 => ?_)
        · rw [if_pos c5] at hVy2
          refine lv_iconst (v := 0) hx hb dX5_about_23 (by decide) ?_
          exact Ky2 0 hVy2 _ _ hP hD hS
        · rw [if_neg c5] at hVy2
          refine lv_iconst (v := 1) hx hb dX5_about_19 (by decide) ?_
          refine lv_goto (tgt := 24) hx hb dX5_about_20 (by decide) ?_
          exact Ky2 1 hVy2 _ _ hP hD hS
  · intro H locs hP hD hS
    rw [← hy_y2, vb_eq] at hT
    have h1 := hy_y2
    have b_y2 : y2 = 0 ∨ y2 = 1 := by rw [hy_y2]; (repeat' split) <;> first | exact Or.inl rfl | exact Or.inr rfl
    refine lv_iconst (v := 1) hx hb dX5_about_24 (by decide) ?_
    refine lv_iconst (v := 1) hx hb dX5_about_25 (by decide) ?_
    refine kM_i (va_runV (As := [.int y2, .int 1, .int 1]) (rest := []) CF (k_m_goes l D ad kk _ σ y2 1 1) ⟨callB_of 3 hts (gT mw_668) rfl rfl rfl (ht _ mw_6) (ht _ mw_665) (by decide +kernel) ⟨Nat.le_of_ble_eq_true rfl, Nat.le_of_ble_eq_true rfl⟩, (ht _ mw_667), (ht _ ms_23)⟩ (preV_M hK hP hD hS (ci := 5) rfl rfl g_Md) rfl rfl hl.1 rfl (lv_room (Nat.le_of_ble_eq_true rfl)) dX5_about_26 ⟨Nat.le_of_ble_eq_true rfl, Nat.le_of_ble_eq_true rfl⟩) hS (fun r6 σ7 H locs hw hP hD hS => ?_)
    rw [← hw, pb_mk] at hT
    have h_r6 := hw
    have hg := h_r6
    have hI1 := IM.goes hI h_r6
    refine lv_if_ne (tgt := 34) hx hb dX5_about_29 (by decide) (fun c8 => ?_) (fun c8 => ?_)
    · rw [if_neg c8] at hT
      have hv := and1 h1 (goes_ok hg c8).1
      refine lv_iload_n hx hb dX5_about_34 rfl (lv_at hl 2 rfl) ?_
      refine jn (α := Int64) (E := (if p2 = 0 then ((gA σ7 15 p1.toNatClampNeg).toInt64) else (if p2 = 1 then (gL σ7 16 p1.toNatClampNeg) else (if p2 = 2 then (gL σ7 17 p1.toNatClampNeg) else ((gA σ7 18 p1.toNatClampNeg).toInt64))))) (Kp := fun y => ∀ (H : Heap) (locs : List Loc), va_P D vwCl (wM ad kk σ7) H → va_D (aL 23 ad s.heap.size) (wM ad kk σ7) → va_S (aL 23 ad s.heap.size) s.heap H locs → W p l e (headSpec wsX5_about { frames := 1, cells := 0, slots := 0, locals := 23 }).room s m ([.ref (ad 0), .int p1, .int p2] : List Value).toArray below meth c H locs 0 0 Q (F0 m 83 ls (.long y :: []))) (fun Vy9 hVy9 Ky9 => ?_) (fun y9 hy_y9 => ?_)
      · refine lv_if_ne (tgt := 48) hx hb dX5_about_35 (by decide) (fun c10 => ?_) (fun c10 => ?_)
        · rw [if_neg c10] at hVy9
          refine lv_iload_n hx hb dX5_about_48 rfl (lv_at hl 2 rfl) ?_
          refine lv_iconst (v := 1) hx hb dX5_about_49 (by decide) ?_
          refine lv_icmp_ne (tgt := 62) hx hb dX5_about_50 (by decide) (fun c11 => ?_) (fun c11 => ?_)
          · rw [if_neg c11] at hVy9
            refine lv_iload_n hx hb dX5_about_62 rfl (lv_at hl 2 rfl) ?_
            refine lv_iconst (v := 2) hx hb dX5_about_63 (by decide) ?_
            refine lv_icmp_ne (tgt := 76) hx hb dX5_about_64 (by decide) (fun c12 => ?_) (fun c12 => ?_)
            · rw [if_neg c12] at hVy9
              refine lv_aload_n hx hb dX5_about_76 rfl (lv_at hl 0 rfl) ?_
              refine va_get (D := D) (ci := 5) (v := .ref (ad 18)) (C := RX5) (T := TX5) (N := 27) hx hb ht inX5 hown hK hP 0 g_Md rfl 21 (by decide) (ht _ mw_594) (fun _ h9 => h9) rfl dX5_about_77 ?_
              refine lv_iload_n hx hb dX5_about_80 rfl (lv_at hl 1 rfl) ?_
              refine va_iald (i := p1) hx hb hK hP 18 0 g_m_shelves rfl (below_in (N := 12) hv (by decide)) dX5_about_81 ?_
              refine lv_i2l hx hb dX5_about_82 rfl ?_
              exact Ky9 ((gA σ7 18 p1.toNatClampNeg).toInt64) hVy9 _ _ hP hD hS
            · rw [if_pos c12] at hVy9
              refine lv_aload_n hx hb dX5_about_67 rfl (lv_at hl 0 rfl) ?_
              refine va_get (D := D) (ci := 5) (v := .ref (ad 17)) (C := RX5) (T := TX5) (N := 27) hx hb ht inX5 hown hK hP 0 g_Md rfl 20 (by decide) (ht _ mw_593) (fun _ h9 => h9) rfl dX5_about_68 ?_
              refine lv_iload_n hx hb dX5_about_71 rfl (lv_at hl 1 rfl) ?_
              refine va_lald (i := p1) hx hb hK hP 17 2 g_m_went rfl (below_in (N := 12) hv (by decide)) dX5_about_72 ?_
              refine lv_goto (tgt := 83) hx hb dX5_about_73 (by decide) ?_
              exact Ky9 (gL σ7 17 p1.toNatClampNeg) hVy9 _ _ hP hD hS
          · rw [if_pos c11] at hVy9
            refine lv_aload_n hx hb dX5_about_53 rfl (lv_at hl 0 rfl) ?_
            refine va_get (D := D) (ci := 5) (v := .ref (ad 16)) (C := RX5) (T := TX5) (N := 27) hx hb ht inX5 hown hK hP 0 g_Md rfl 19 (by decide) (ht _ mw_592) (fun _ h9 => h9) rfl dX5_about_54 ?_
            refine lv_iload_n hx hb dX5_about_57 rfl (lv_at hl 1 rfl) ?_
            refine va_lald (i := p1) hx hb hK hP 16 2 g_m_came rfl (below_in (N := 12) hv (by decide)) dX5_about_58 ?_
            refine lv_goto (tgt := 83) hx hb dX5_about_59 (by decide) ?_
            exact Ky9 (gL σ7 16 p1.toNatClampNeg) hVy9 _ _ hP hD hS
        · rw [if_pos c10] at hVy9
          refine lv_aload_n hx hb dX5_about_38 rfl (lv_at hl 0 rfl) ?_
          refine va_get (D := D) (ci := 5) (v := .ref (ad 15)) (C := RX5) (T := TX5) (N := 27) hx hb ht inX5 hown hK hP 0 g_Md rfl 18 (by decide) (ht _ mw_591) (fun _ h9 => h9) rfl dX5_about_39 ?_
          refine lv_iload_n hx hb dX5_about_42 rfl (lv_at hl 1 rfl) ?_
          refine va_iald (i := p1) hx hb hK hP 15 0 g_m_stocks rfl (below_in (N := 12) hv (by decide)) dX5_about_43 ?_
          refine lv_i2l hx hb dX5_about_44 rfl ?_
          refine lv_goto (tgt := 83) hx hb dX5_about_45 (by decide) ?_
          exact Ky9 ((gA σ7 15 p1.toNatClampNeg).toInt64) hVy9 _ _ hP hD hS
      · intro H locs hP hD hS
        rw [← hy_y9, vb_eq] at hT
        rw [eQ]
        exact W.lret (v := y9) hx hb hr (fun t ht hW => ⟨⟨y9, σ7, rfl, hT, by rw [ht]; exact hP, va_K.moved hW.alike hK, hD⟩, hS.F ht⟩) hS.2.2 dX5_about_83
    · rw [if_pos c8] at hT
      refine lv_lconst (v := 0) hx hb dX5_about_32 (by decide) ?_
      rw [eQ]
      exact W.lret (v := 0) hx hb hr (fun t ht hW => ⟨⟨0, σ7, rfl, hT, by rw [ht]; exact hP, va_K.moved hW.alike hK, hD⟩, hS.F ht⟩) hS.2.2 dX5_about_33
set_option maxHeartbeats 4000000 in
set_option maxRecDepth 100000 in
theorem k_m_apart (l : Launch) (D : va_G) (ad : Nat → Nat) (kk : Nat → ClassId) (sz : Nat) (σ : St) (p1 : Int32) (p2 : Int32) (hI : IM σ) : Met l yX5_apart wsX5_apart { frames := 1, cells := 0, slots := 0, locals := 23 } (va_Pc [.ref (ad 0), .int p1, .int p2] (PM D ad kk sz σ)) (va_Qi (fun r u => (r, u) = M_m_apart σ p1 p2) (QM D ad kk sz) (aL 23 ad sz)) 0 0 (aL 23 ad sz) := by
  refine Met.ofW (cc := cX5_apart) (maxL := 3) (ret := (some .boolean)) (by decide) rfl ?_
  intro p e s m args below meth c s₁ B hml hv
  obtain ⟨rfl, hsz, hP, hK, hD0⟩ := hv
  have hx := B.exec
  have hb := B.bytes
  have hr := B.returns
  have hts := atoms_spec (ws := wsX5_apart) B.pre
  have hown : s.vm.findClass RX5 = some m.cls := findClass_of_methodNamed B.named
  have hlocks := B.notSynchronized
  subst hsz
  have hD : va_D (aL 23 ad s.heap.size) (wM ad kk σ) := aL_D hD0
  have hS : va_S (aL 23 ad s.heap.size) s.heap s.heap [] := va_S.rf
  have hl := lv_entry ([.ref (ad 0), .int p1, .int p2]) (n := 3) (Nat.le_of_ble_eq_true rfl)
  rw [lg_entry_eq]
  generalize (lg_sl ([.ref (ad 0), .int p1, .int p2]) ++ List.replicate (3 - (lg_sl ([.ref (ad 0), .int p1, .int p2])).length) Slot.unset).toArray = ls at hl ⊢
  have hl : lv_has ls 3 [(0, .ref (ad 0)), (1, .int p1), (2, .int p2)] := hl
  have CF : CallFix p m c cX5_apart 3 s ([.ref (ad 0), .int p1, .int p2] : List Value).toArray wsX5_apart RX5 := ⟨hx, hb, hml, hown, hts⟩
  have ht : ∀ w ∈ T0, w.before ([.ref (ad 0), .int p1, .int p2] : List Value).toArray s = true := fun w h => hts w (List.mem_cons_of_mem _ h)
  generalize hT : M_m_apart σ p1 p2 = T
  refine namedQ (fun Q eQ => ?_)
  rw [M_m_apart] at hT
  refine lv_aload_n hx hb dX5_apart_0 rfl (lv_at hl 0 rfl) ?_
  refine lv_iload_n hx hb dX5_apart_1 rfl (lv_at hl 1 rfl) ?_
  refine lv_bipush (v := 12) hx hb dX5_apart_2 (by decide) ?_
  refine vp_callSi (W.runS (As := [.int p1, .int 12]) (rest := [.ref (ad 0)]) CF (k_m_below l p1 12) ⟨callB_of 2 hts (gT mw_693) rfl rfl rfl (ht _ mw_6) (ht _ mw_691) (by decide +kernel) ⟨Nat.le_of_ble_eq_true rfl, Nat.le_of_ble_eq_true rfl⟩, (ht _ mw_692)⟩ preEq rfl rfl hl.1 rfl (lv_room (Nat.le_of_ble_eq_true rfl)) dX5_apart_4 ⟨Nat.le_of_ble_eq_true rfl, Nat.le_of_ble_eq_true rfl⟩) (fun r1 h_r1 => ?_)
  obtain rfl := h_r1
  refine jn (α := Int32) (E := (if (M_m_below p1 12) = 0 then 0 else (if (M_m_below p2 12) = 0 then 0 else 1))) (Kp := fun y => ∀ (H : Heap) (locs : List Loc), va_P D vwCl (wM ad kk σ) H → va_D (aL 23 ad s.heap.size) (wM ad kk σ) → va_S (aL 23 ad s.heap.size) s.heap H locs → W p l e (headSpec wsX5_apart { frames := 1, cells := 0, slots := 0, locals := 23 }).room s m ([.ref (ad 0), .int p1, .int p2] : List Value).toArray below meth c H locs 0 0 Q (F0 m 24 ls (.int y :: .ref (ad 0) :: []))) (fun Vy2 hVy2 Ky2 => ?_) (fun y2 hy_y2 => ?_)
  · refine lv_if_eq (tgt := 23) hx hb dX5_apart_7 (by decide) (fun c3 => ?_) (fun c3 => ?_)
    · rw [if_pos c3] at hVy2
      refine lv_iconst (v := 0) hx hb dX5_apart_23 (by decide) ?_
      exact Ky2 0 hVy2 _ _ hP hD hS
    · rw [if_neg c3] at hVy2
      refine lv_iload_n hx hb dX5_apart_10 rfl (lv_at hl 2 rfl) ?_
      refine lv_bipush (v := 12) hx hb dX5_apart_11 (by decide) ?_
      refine vp_callSi (W.runS (As := [.int p2, .int 12]) (rest := [.ref (ad 0)]) CF (k_m_below l p2 12) ⟨callB_of 2 hts (gT mw_693) rfl rfl rfl (ht _ mw_6) (ht _ mw_691) (by decide +kernel) ⟨Nat.le_of_ble_eq_true rfl, Nat.le_of_ble_eq_true rfl⟩, (ht _ mw_692)⟩ preEq rfl rfl hl.1 rfl (lv_room (Nat.le_of_ble_eq_true rfl)) dX5_apart_13 ⟨Nat.le_of_ble_eq_true rfl, Nat.le_of_ble_eq_true rfl⟩) (fun r4 h_r4 => ?_)
      obtain rfl := h_r4
      refine lv_if_eq (tgt := 23) hx hb dX5_apart_16 (by decide) (fun c5 => ?_) (fun c5 => ?_)
      · rw [if_pos c5] at hVy2
        refine lv_iconst (v := 0) hx hb dX5_apart_23 (by decide) ?_
        exact Ky2 0 hVy2 _ _ hP hD hS
      · rw [if_neg c5] at hVy2
        refine lv_iconst (v := 1) hx hb dX5_apart_19 (by decide) ?_
        refine lv_goto (tgt := 24) hx hb dX5_apart_20 (by decide) ?_
        exact Ky2 1 hVy2 _ _ hP hD hS
  · intro H locs hP hD hS
    rw [← hy_y2, vb_eq] at hT
    have h1 := hy_y2
    have b_y2 : y2 = 0 ∨ y2 = 1 := by rw [hy_y2]; (repeat' split) <;> first | exact Or.inl rfl | exact Or.inr rfl
    refine lv_iconst (v := 1) hx hb dX5_apart_24 (by decide) ?_
    refine lv_iconst (v := 1) hx hb dX5_apart_25 (by decide) ?_
    refine kM_i (va_runV (As := [.int y2, .int 1, .int 1]) (rest := []) CF (k_m_goes l D ad kk _ σ y2 1 1) ⟨callB_of 3 hts (gT mw_668) rfl rfl rfl (ht _ mw_6) (ht _ mw_665) (by decide +kernel) ⟨Nat.le_of_ble_eq_true rfl, Nat.le_of_ble_eq_true rfl⟩, (ht _ mw_667), (ht _ ms_23)⟩ (preV_M hK hP hD hS (ci := 5) rfl rfl g_Md) rfl rfl hl.1 rfl (lv_room (Nat.le_of_ble_eq_true rfl)) dX5_apart_26 ⟨Nat.le_of_ble_eq_true rfl, Nat.le_of_ble_eq_true rfl⟩) hS (fun r6 σ7 H locs hw hP hD hS => ?_)
    rw [← hw, pb_mk] at hT
    have h_r6 := hw
    have hg := h_r6
    have hI1 := IM.goes hI h_r6
    refine lv_if_ne (tgt := 34) hx hb dX5_apart_29 (by decide) (fun c8 => ?_) (fun c8 => ?_)
    · rw [if_neg c8] at hT
      have hv := and2 h1 (goes_ok hg c8).1
      refine lv_iload_n hx hb dX5_apart_34 rfl (lv_at hl 1 rfl) ?_
      refine lv_iload_n hx hb dX5_apart_35 rfl (lv_at hl 2 rfl) ?_
      refine lv_icmp_eq (tgt := 64) hx hb dX5_apart_36 (by decide) (fun c9 => ?_) (fun c9 => ?_)
      · rw [if_pos c9] at hT
        refine lv_iconst (v := 0) hx hb dX5_apart_64 (by decide) ?_
        rw [eQ]
        exact W.zret (v := 0) hx hb hr rfl (fun t ht hW => ⟨⟨0, σ7, rfl, hT, by rw [ht]; exact hP, va_K.moved hW.alike hK, hD⟩, hS.F ht⟩) hS.2.2 dX5_apart_65
      · rw [if_neg c9] at hT
        refine lv_aload_n hx hb dX5_apart_39 rfl (lv_at hl 0 rfl) ?_
        refine va_get (D := D) (ci := 5) (v := .ref (ad 18)) (C := RX5) (T := TX5) (N := 27) hx hb ht inX5 hown hK hP 0 g_Md rfl 21 (by decide) (ht _ mw_594) (fun _ h9 => h9) rfl dX5_apart_40 ?_
        refine lv_iload_n hx hb dX5_apart_43 rfl (lv_at hl 1 rfl) ?_
        refine va_iald (i := p1) hx hb hK hP 18 0 g_m_shelves rfl (below_in (N := 12) hv.1 (by decide)) dX5_apart_44 ?_
        refine lv_iconst (v := (-1)) hx hb dX5_apart_45 (by decide) ?_
        refine lv_icmp_eq (tgt := 66) hx hb dX5_apart_46 (by decide) (fun c10 => ?_) (fun c10 => ?_)
        · rw [if_pos c10] at hT
          refine lv_aload_n hx hb dX5_apart_66 rfl (lv_at hl 0 rfl) ?_
          refine va_get (D := D) (ci := 5) (v := .ref (ad 19)) (C := RX5) (T := TX5) (N := 27) hx hb ht inX5 hown hK hP 0 g_Md rfl 22 (by decide) (ht _ mw_595) (fun _ h9 => h9) rfl dX5_apart_67 ?_
          refine lv_bipush (v := 12) hx hb dX5_apart_70 (by decide) ?_
          refine lv_iload_n hx hb dX5_apart_72 rfl (lv_at hl 1 rfl) ?_
          refine lv_imul hx hb dX5_apart_73 ?_
          refine lv_iload_n hx hb dX5_apart_74 rfl (lv_at hl 2 rfl) ?_
          refine lv_iadd hx hb dX5_apart_75 ?_
          refine lv_iconst (v := 1) hx hb dX5_apart_76 (by decide) ?_
          refine va_zast (i := (12 * p1) + p2) (x := 1) hx hb hK hP hD hS 19 1 g_m_apart rfl (ix_in (A := 12) (B := 12) (N := 144) (k := 12) (below_in (N := 12) hv.1 (by decide)) (below_in (N := 12) hv.2 (by decide)) (by decide) (by decide) (by decide)) dX5_apart_77 (fun H locs hP hD hS => ?_)
          rw [nz01 (Or.inr rfl)] at hP hD
          rw [s_m_apart] at hP hD
          refine lv_aload_n hx hb dX5_apart_78 rfl (lv_at hl 0 rfl) ?_
          refine va_get (D := D) (ci := 5) (v := .ref (ad 19)) (C := RX5) (T := TX5) (N := 27) hx hb ht inX5 hown hK hP 0 g_Md rfl 22 (by decide) (ht _ mw_595) (fun _ h9 => h9) rfl dX5_apart_79 ?_
          refine lv_bipush (v := 12) hx hb dX5_apart_82 (by decide) ?_
          refine lv_iload_n hx hb dX5_apart_84 rfl (lv_at hl 2 rfl) ?_
          refine lv_imul hx hb dX5_apart_85 ?_
          refine lv_iload_n hx hb dX5_apart_86 rfl (lv_at hl 1 rfl) ?_
          refine lv_iadd hx hb dX5_apart_87 ?_
          refine lv_iconst (v := 1) hx hb dX5_apart_88 (by decide) ?_
          refine va_zast (i := (12 * p2) + p1) (x := 1) hx hb hK hP hD hS 19 1 g_m_apart rfl (ix_in (A := 12) (B := 12) (N := 144) (k := 12) (below_in (N := 12) hv.2 (by decide)) (below_in (N := 12) hv.1 (by decide)) (by decide) (by decide) (by decide)) dX5_apart_89 (fun H locs hP hD hS => ?_)
          rw [nz01 (Or.inr rfl)] at hP hD
          rw [s_m_apart] at hP hD
          refine lv_iconst (v := 1) hx hb dX5_apart_90 (by decide) ?_
          rw [eQ]
          exact W.zret (v := 1) hx hb hr rfl (fun t ht hW => ⟨⟨1, (sA (sA σ7 19 ((12 * p1) + p2).toNatClampNeg 1) 19 ((12 * p2) + p1).toNatClampNeg 1), rfl, hT, by rw [ht]; exact hP, va_K.moved hW.alike hK, hD⟩, hS.F ht⟩) hS.2.2 dX5_apart_91
        · rw [if_neg c10] at hT
          refine lv_aload_n hx hb dX5_apart_49 rfl (lv_at hl 0 rfl) ?_
          refine va_get (D := D) (ci := 5) (v := .ref (ad 18)) (C := RX5) (T := TX5) (N := 27) hx hb ht inX5 hown hK hP 0 g_Md rfl 21 (by decide) (ht _ mw_594) (fun _ h9 => h9) rfl dX5_apart_50 ?_
          refine lv_iload_n hx hb dX5_apart_53 rfl (lv_at hl 1 rfl) ?_
          refine va_iald (i := p1) hx hb hK hP 18 0 g_m_shelves rfl (below_in (N := 12) hv.1 (by decide)) dX5_apart_54 ?_
          refine lv_aload_n hx hb dX5_apart_55 rfl (lv_at hl 0 rfl) ?_
          refine va_get (D := D) (ci := 5) (v := .ref (ad 18)) (C := RX5) (T := TX5) (N := 27) hx hb ht inX5 hown hK hP 0 g_Md rfl 21 (by decide) (ht _ mw_594) (fun _ h9 => h9) rfl dX5_apart_56 ?_
          refine lv_iload_n hx hb dX5_apart_59 rfl (lv_at hl 2 rfl) ?_
          refine va_iald (i := p2) hx hb hK hP 18 0 g_m_shelves rfl (below_in (N := 12) hv.2 (by decide)) dX5_apart_60 ?_
          refine lv_icmp_ne (tgt := 66) hx hb dX5_apart_61 (by decide) (fun c11 => ?_) (fun c11 => ?_)
          · rw [if_neg c11] at hT
            refine lv_aload_n hx hb dX5_apart_66 rfl (lv_at hl 0 rfl) ?_
            refine va_get (D := D) (ci := 5) (v := .ref (ad 19)) (C := RX5) (T := TX5) (N := 27) hx hb ht inX5 hown hK hP 0 g_Md rfl 22 (by decide) (ht _ mw_595) (fun _ h9 => h9) rfl dX5_apart_67 ?_
            refine lv_bipush (v := 12) hx hb dX5_apart_70 (by decide) ?_
            refine lv_iload_n hx hb dX5_apart_72 rfl (lv_at hl 1 rfl) ?_
            refine lv_imul hx hb dX5_apart_73 ?_
            refine lv_iload_n hx hb dX5_apart_74 rfl (lv_at hl 2 rfl) ?_
            refine lv_iadd hx hb dX5_apart_75 ?_
            refine lv_iconst (v := 1) hx hb dX5_apart_76 (by decide) ?_
            refine va_zast (i := (12 * p1) + p2) (x := 1) hx hb hK hP hD hS 19 1 g_m_apart rfl (ix_in (A := 12) (B := 12) (N := 144) (k := 12) (below_in (N := 12) hv.1 (by decide)) (below_in (N := 12) hv.2 (by decide)) (by decide) (by decide) (by decide)) dX5_apart_77 (fun H locs hP hD hS => ?_)
            rw [nz01 (Or.inr rfl)] at hP hD
            rw [s_m_apart] at hP hD
            refine lv_aload_n hx hb dX5_apart_78 rfl (lv_at hl 0 rfl) ?_
            refine va_get (D := D) (ci := 5) (v := .ref (ad 19)) (C := RX5) (T := TX5) (N := 27) hx hb ht inX5 hown hK hP 0 g_Md rfl 22 (by decide) (ht _ mw_595) (fun _ h9 => h9) rfl dX5_apart_79 ?_
            refine lv_bipush (v := 12) hx hb dX5_apart_82 (by decide) ?_
            refine lv_iload_n hx hb dX5_apart_84 rfl (lv_at hl 2 rfl) ?_
            refine lv_imul hx hb dX5_apart_85 ?_
            refine lv_iload_n hx hb dX5_apart_86 rfl (lv_at hl 1 rfl) ?_
            refine lv_iadd hx hb dX5_apart_87 ?_
            refine lv_iconst (v := 1) hx hb dX5_apart_88 (by decide) ?_
            refine va_zast (i := (12 * p2) + p1) (x := 1) hx hb hK hP hD hS 19 1 g_m_apart rfl (ix_in (A := 12) (B := 12) (N := 144) (k := 12) (below_in (N := 12) hv.2 (by decide)) (below_in (N := 12) hv.1 (by decide)) (by decide) (by decide) (by decide)) dX5_apart_89 (fun H locs hP hD hS => ?_)
            rw [nz01 (Or.inr rfl)] at hP hD
            rw [s_m_apart] at hP hD
            refine lv_iconst (v := 1) hx hb dX5_apart_90 (by decide) ?_
            rw [eQ]
            exact W.zret (v := 1) hx hb hr rfl (fun t ht hW => ⟨⟨1, (sA (sA σ7 19 ((12 * p1) + p2).toNatClampNeg 1) 19 ((12 * p2) + p1).toNatClampNeg 1), rfl, hT, by rw [ht]; exact hP, va_K.moved hW.alike hK, hD⟩, hS.F ht⟩) hS.2.2 dX5_apart_91
          · rw [if_pos c11] at hT
            refine lv_iconst (v := 0) hx hb dX5_apart_64 (by decide) ?_
            rw [eQ]
            exact W.zret (v := 0) hx hb hr rfl (fun t ht hW => ⟨⟨0, σ7, rfl, hT, by rw [ht]; exact hP, va_K.moved hW.alike hK, hD⟩, hS.F ht⟩) hS.2.2 dX5_apart_65
    · rw [if_pos c8] at hT
      refine lv_iconst (v := 0) hx hb dX5_apart_32 (by decide) ?_
      rw [eQ]
      exact W.zret (v := 0) hx hb hr rfl (fun t ht hW => ⟨⟨0, σ7, rfl, hT, by rw [ht]; exact hP, va_K.moved hW.alike hK, hD⟩, hS.F ht⟩) hS.2.2 dX5_apart_33
set_option maxHeartbeats 4000000 in
set_option maxRecDepth 100000 in
theorem k_m_put (l : Launch) (D : va_G) (ad : Nat → Nat) (kk : Nat → ClassId) (sz : Nat) (σ : St) (p1 : Int32) (p2 : Int32) (hI : IM σ) : Met l yX5_put wsX5_put { frames := 1, cells := 0, slots := 0, locals := 23 } (va_Pc [.ref (ad 0), .int p1, .int p2] (PM D ad kk sz σ)) (va_Qi (fun r u => (r, u) = M_m_put σ p1 p2) (QM D ad kk sz) (aL 23 ad sz)) 0 0 (aL 23 ad sz) := by
  refine Met.ofW (cc := cX5_put) (maxL := 4) (ret := (some .int)) (by decide) rfl ?_
  intro p e s m args below meth c s₁ B hml hv
  obtain ⟨rfl, hsz, hP, hK, hD0⟩ := hv
  have hx := B.exec
  have hb := B.bytes
  have hr := B.returns
  have hts := atoms_spec (ws := wsX5_put) B.pre
  have hown : s.vm.findClass RX5 = some m.cls := findClass_of_methodNamed B.named
  have hlocks := B.notSynchronized
  subst hsz
  have hD : va_D (aL 23 ad s.heap.size) (wM ad kk σ) := aL_D hD0
  have hS : va_S (aL 23 ad s.heap.size) s.heap s.heap [] := va_S.rf
  have hl := lv_entry ([.ref (ad 0), .int p1, .int p2]) (n := 4) (Nat.le_of_ble_eq_true rfl)
  rw [lg_entry_eq]
  generalize (lg_sl ([.ref (ad 0), .int p1, .int p2]) ++ List.replicate (4 - (lg_sl ([.ref (ad 0), .int p1, .int p2])).length) Slot.unset).toArray = ls at hl ⊢
  have hl : lv_has ls 4 [(0, .ref (ad 0)), (1, .int p1), (2, .int p2)] := hl
  have CF : CallFix p m c cX5_put 4 s ([.ref (ad 0), .int p1, .int p2] : List Value).toArray wsX5_put RX5 := ⟨hx, hb, hml, hown, hts⟩
  have ht : ∀ w ∈ T0, w.before ([.ref (ad 0), .int p1, .int p2] : List Value).toArray s = true := fun w h => hts w (List.mem_cons_of_mem _ h)
  generalize hT : M_m_put σ p1 p2 = T
  refine namedQ (fun Q eQ => ?_)
  have L_37 : ∀ (n i137 : Nat) (τ37 : St) (H : Heap) (locs : List Loc) (ls : Array Slot), i137 ≤ 12 → 13 ≤ i137 + n → vp_in p1 12 → va_P D vwCl (wM ad kk τ37) H → va_D (aL 23 ad s.heap.size) (wM ad kk τ37) → va_S (aL 23 ad s.heap.size) s.heap H locs → lv_has ls 4 [(0, .ref (ad 0)), (1, .int p1), (2, .int p2), (3, .int (nI i137))] → M_m_put_h37 n i137 τ37 p1 p2 = T → W p l e (headSpec wsX5_put { frames := 1, cells := 0, slots := 0, locals := 23 }).room s m ([.ref (ad 0), .int p1, .int p2] : List Value).toArray below meth c H locs 0 0 Q (F0 m 37 ls []) := by
    intro n
    induction n with
    | zero =>
      intro i137 τ37 H locs ls h_le h_fu hv0 hP hD hS hl hT
      exact absurd h_fu (by omega)
    | succ n ih =>
      intro i137 τ37 H locs ls h_le h_fu hv0 hP hD hS hl hT
      rw [M_m_put_h37] at hT
      refine lv_iload_n hx hb dX5_put_37 rfl (lv_at hl 3 rfl) ?_
      refine lv_bipush (v := 12) hx hb dX5_put_38 (by decide) ?_
      refine lv_icmp_ge (tgt := 87) hx hb dX5_put_40 (by decide) (fun c9 => ?_) (fun c9 => ?_)
      · rw [if_pos c9] at hT
        refine lv_aload_n hx hb dX5_put_87 rfl (lv_at hl 0 rfl) ?_
        refine va_get (D := D) (ci := 5) (v := .ref (ad 18)) (C := RX5) (T := TX5) (N := 27) hx hb ht inX5 hown hK hP 0 g_Md rfl 21 (by decide) (ht _ mw_594) (fun _ h9 => h9) rfl dX5_put_88 ?_
        refine lv_iload_n hx hb dX5_put_91 rfl (lv_at hl 1 rfl) ?_
        refine lv_iload_n hx hb dX5_put_92 rfl (lv_at hl 2 rfl) ?_
        refine va_iast (i := p1) (x := p2) hx hb hK hP hD hS 18 0 g_m_shelves rfl hv0 dX5_put_93 (fun H locs hP hD hS => ?_)
        rw [s_m_shelves] at hP hD
        refine lv_iconst (v := 0) hx hb dX5_put_94 (by decide) ?_
        rw [eQ]
        exact W.iret (v := 0) hx hb hr (fun t ht hW => ⟨⟨0, (sA τ37 18 p1.toNatClampNeg p2), rfl, hT, by rw [ht]; exact hP, va_K.moved hW.alike hK, hD⟩, hS.F ht⟩) hS.2.2 dX5_put_95
      · rw [if_neg c9] at hT
        have h_lt := lp_lt (N := 12) (by decide) (by decide) h_le c9
        refine lv_iload_n hx hb dX5_put_43 rfl (lv_at hl 2 rfl) ?_
        refine lv_iconst (v := (-1)) hx hb dX5_put_44 (by decide) ?_
        refine lv_icmp_eq (tgt := 81) hx hb dX5_put_45 (by decide) (fun c10 => ?_) (fun c10 => ?_)
        · rw [if_pos c10] at hT
          refine lv_iinc (v := nI (i137 + 1)) (lv' := [(3, .int (nI (i137 + 1))), (0, .ref (ad 0)), (1, .int p1), (2, .int p2)]) hx hb dX5_put_81 hl (k := 3) rfl (nI_1 i137) (by decide) rfl (fun ls hl => ?_)
          refine lv_goto (tgt := 37) hx hb dX5_put_84 (by decide) ?_
          exact ih  (i137 + 1) τ37 _ _ ls h_lt (by omega) hv0 hP hD hS (lv_sub hl [1, 2, 3, 0] rfl) hT
        · rw [if_neg c10] at hT
          refine lv_iload_n hx hb dX5_put_48 rfl (lv_at hl 3 rfl) ?_
          refine lv_iload_n hx hb dX5_put_49 rfl (lv_at hl 1 rfl) ?_
          refine lv_icmp_eq (tgt := 81) hx hb dX5_put_50 (by decide) (fun c11 => ?_) (fun c11 => ?_)
          · rw [if_pos c11] at hT
            refine lv_iinc (v := nI (i137 + 1)) (lv' := [(3, .int (nI (i137 + 1))), (0, .ref (ad 0)), (1, .int p1), (2, .int p2)]) hx hb dX5_put_81 hl (k := 3) rfl (nI_1 i137) (by decide) rfl (fun ls hl => ?_)
            refine lv_goto (tgt := 37) hx hb dX5_put_84 (by decide) ?_
            exact ih  (i137 + 1) τ37 _ _ ls h_lt (by omega) hv0 hP hD hS (lv_sub hl [1, 2, 3, 0] rfl) hT
          · rw [if_neg c11] at hT
            refine lv_aload_n hx hb dX5_put_53 rfl (lv_at hl 0 rfl) ?_
            refine va_get (D := D) (ci := 5) (v := .ref (ad 18)) (C := RX5) (T := TX5) (N := 27) hx hb ht inX5 hown hK hP 0 g_Md rfl 21 (by decide) (ht _ mw_594) (fun _ h9 => h9) rfl dX5_put_54 ?_
            refine lv_iload_n hx hb dX5_put_57 rfl (lv_at hl 3 rfl) ?_
            refine va_iald (i := nI i137) hx hb hK hP 18 0 g_m_shelves rfl (vp_in_nI (by omega) (by decide)) dX5_put_58 ?_
            rw [nI_clamp (n := i137) (by omega)]
            refine lv_iload_n hx hb dX5_put_59 rfl (lv_at hl 2 rfl) ?_
            refine lv_icmp_ne (tgt := 81) hx hb dX5_put_60 (by decide) (fun c12 => ?_) (fun c12 => ?_)
            · rw [if_neg c12] at hT
              refine lv_iinc (v := nI (i137 + 1)) (lv' := [(3, .int (nI (i137 + 1))), (0, .ref (ad 0)), (1, .int p1), (2, .int p2)]) hx hb dX5_put_81 hl (k := 3) rfl (nI_1 i137) (by decide) rfl (fun ls hl => ?_)
              refine lv_goto (tgt := 37) hx hb dX5_put_84 (by decide) ?_
              exact ih  (i137 + 1) τ37 _ _ ls h_lt (by omega) hv0 hP hD hS (lv_sub hl [1, 2, 3, 0] rfl) hT
            · rw [if_pos c12] at hT
              refine lv_aload_n hx hb dX5_put_63 rfl (lv_at hl 0 rfl) ?_
              refine va_get (D := D) (ci := 5) (v := .ref (ad 19)) (C := RX5) (T := TX5) (N := 27) hx hb ht inX5 hown hK hP 0 g_Md rfl 22 (by decide) (ht _ mw_595) (fun _ h9 => h9) rfl dX5_put_64 ?_
              refine lv_bipush (v := 12) hx hb dX5_put_67 (by decide) ?_
              refine lv_iload_n hx hb dX5_put_69 rfl (lv_at hl 1 rfl) ?_
              refine lv_imul hx hb dX5_put_70 ?_
              refine lv_iload_n hx hb dX5_put_71 rfl (lv_at hl 3 rfl) ?_
              refine lv_iadd hx hb dX5_put_72 ?_
              refine va_zald (i := (12 * p1) + (nI i137)) hx hb hK hP 19 1 g_m_apart rfl (ix_in (A := 12) (B := 12) (N := 144) (k := 12) hv0 (vp_in_nI h_lt (by decide)) (by decide) (by decide) (by decide)) dX5_put_73 ?_
              refine lv_if_eq (tgt := 81) hx hb dX5_put_74 (by decide) (fun c13 => ?_) (fun c13 => ?_)
              · rw [if_pos c13] at hT
                refine lv_iinc (v := nI (i137 + 1)) (lv' := [(3, .int (nI (i137 + 1))), (0, .ref (ad 0)), (1, .int p1), (2, .int p2)]) hx hb dX5_put_81 hl (k := 3) rfl (nI_1 i137) (by decide) rfl (fun ls hl => ?_)
                refine lv_goto (tgt := 37) hx hb dX5_put_84 (by decide) ?_
                exact ih  (i137 + 1) τ37 _ _ ls h_lt (by omega) hv0 hP hD hS (lv_sub hl [1, 2, 3, 0] rfl) hT
              · rw [if_neg c13] at hT
                refine lv_iconst (v := 1) hx hb dX5_put_77 (by decide) ?_
                refine lv_iload_n hx hb dX5_put_78 rfl (lv_at hl 3 rfl) ?_
                refine lv_iadd hx hb dX5_put_79 ?_
                rw [eQ]
                exact W.iret (v := 1 + (nI i137)) hx hb hr (fun t ht hW => ⟨⟨1 + (nI i137), τ37, rfl, hT, by rw [ht]; exact hP, va_K.moved hW.alike hK, hD⟩, hS.F ht⟩) hS.2.2 dX5_put_80
  rw [M_m_put] at hT
  refine lv_aload_n hx hb dX5_put_0 rfl (lv_at hl 0 rfl) ?_
  refine lv_iload_n hx hb dX5_put_1 rfl (lv_at hl 1 rfl) ?_
  refine lv_bipush (v := 12) hx hb dX5_put_2 (by decide) ?_
  refine vp_callSi (W.runS (As := [.int p1, .int 12]) (rest := [.ref (ad 0)]) CF (k_m_below l p1 12) ⟨callB_of 2 hts (gT mw_693) rfl rfl rfl (ht _ mw_6) (ht _ mw_691) (by decide +kernel) ⟨Nat.le_of_ble_eq_true rfl, Nat.le_of_ble_eq_true rfl⟩, (ht _ mw_692)⟩ preEq rfl rfl hl.1 rfl (lv_room (Nat.le_of_ble_eq_true rfl)) dX5_put_4 ⟨Nat.le_of_ble_eq_true rfl, Nat.le_of_ble_eq_true rfl⟩) (fun r1 h_r1 => ?_)
  obtain rfl := h_r1
  refine jn (α := Int32) (E := (if (M_m_below p1 12) = 0 then 0 else (if p2 < (-1) then 0 else (if 5 < p2 then 0 else 1)))) (Kp := fun y => ∀ (H : Heap) (locs : List Loc), va_P D vwCl (wM ad kk σ) H → va_D (aL 23 ad s.heap.size) (wM ad kk σ) → va_S (aL 23 ad s.heap.size) s.heap H locs → W p l e (headSpec wsX5_put { frames := 1, cells := 0, slots := 0, locals := 23 }).room s m ([.ref (ad 0), .int p1, .int p2] : List Value).toArray below meth c H locs 0 0 Q (F0 m 25 ls (.int y :: .ref (ad 0) :: []))) (fun Vy2 hVy2 Ky2 => ?_) (fun y2 hy_y2 => ?_)
  · refine lv_if_eq (tgt := 24) hx hb dX5_put_7 (by decide) (fun c3 => ?_) (fun c3 => ?_)
    · rw [if_pos c3] at hVy2
      refine lv_iconst (v := 0) hx hb dX5_put_24 (by decide) ?_
      exact Ky2 0 hVy2 _ _ hP hD hS
    · rw [if_neg c3] at hVy2
      refine lv_iload_n hx hb dX5_put_10 rfl (lv_at hl 2 rfl) ?_
      refine lv_iconst (v := (-1)) hx hb dX5_put_11 (by decide) ?_
      refine lv_icmp_lt (tgt := 24) hx hb dX5_put_12 (by decide) (fun c4 => ?_) (fun c4 => ?_)
      · rw [if_pos c4] at hVy2
        refine lv_iconst (v := 0) hx hb dX5_put_24 (by decide) ?_
        exact Ky2 0 hVy2 _ _ hP hD hS
      · rw [if_neg c4] at hVy2
        refine lv_iload_n hx hb dX5_put_15 rfl (lv_at hl 2 rfl) ?_
        refine lv_iconst (v := 5) hx hb dX5_put_16 (by decide) ?_
        refine lv_icmp_gt (tgt := 24) hx hb dX5_put_17 (by decide) (fun c5 => ?_) (fun c5 => ?_)
        · rw [if_pos c5] at hVy2
          refine lv_iconst (v := 0) hx hb dX5_put_24 (by decide) ?_
          exact Ky2 0 hVy2 _ _ hP hD hS
        · rw [if_neg c5] at hVy2
          refine lv_iconst (v := 1) hx hb dX5_put_20 (by decide) ?_
          refine lv_goto (tgt := 25) hx hb dX5_put_21 (by decide) ?_
          exact Ky2 1 hVy2 _ _ hP hD hS
  · intro H locs hP hD hS
    rw [← hy_y2, vb_eq] at hT
    have h1 := hy_y2
    have b_y2 : y2 = 0 ∨ y2 = 1 := by rw [hy_y2]; (repeat' split) <;> first | exact Or.inl rfl | exact Or.inr rfl
    refine lv_iconst (v := 1) hx hb dX5_put_25 (by decide) ?_
    refine lv_iconst (v := 1) hx hb dX5_put_26 (by decide) ?_
    refine kM_i (va_runV (As := [.int y2, .int 1, .int 1]) (rest := []) CF (k_m_goes l D ad kk _ σ y2 1 1) ⟨callB_of 3 hts (gT mw_668) rfl rfl rfl (ht _ mw_6) (ht _ mw_665) (by decide +kernel) ⟨Nat.le_of_ble_eq_true rfl, Nat.le_of_ble_eq_true rfl⟩, (ht _ mw_667), (ht _ ms_23)⟩ (preV_M hK hP hD hS (ci := 5) rfl rfl g_Md) rfl rfl hl.1 rfl (lv_room (Nat.le_of_ble_eq_true rfl)) dX5_put_27 ⟨Nat.le_of_ble_eq_true rfl, Nat.le_of_ble_eq_true rfl⟩) hS (fun r6 σ7 H locs hw hP hD hS => ?_)
    rw [← hw, pb_mk] at hT
    have h_r6 := hw
    have hg := h_r6
    have hI1 := IM.goes hI h_r6
    refine lv_if_ne (tgt := 35) hx hb dX5_put_30 (by decide) (fun c8 => ?_) (fun c8 => ?_)
    · rw [if_neg c8] at hT
      have hv := and1 h1 (goes_ok hg c8).1
      refine lv_iconst (v := 0) hx hb dX5_put_35 (by decide) ?_
      refine lv_istore_n (lv' := [(3, .int 0), (0, .ref (ad 0)), (1, .int p1), (2, .int p2)]) hx hb dX5_put_36 rfl hl (by decide) rfl (fun ls hl => ?_)
      exact L_37 13 0 σ7 _ _ ls (Nat.zero_le _) (by decide) (below_in (N := 12) hv (by decide)) hP hD hS (lv_sub hl [1, 2, 3, 0] rfl) hT
    · rw [if_pos c8] at hT
      refine lv_iconst (v := 0) hx hb dX5_put_33 (by decide) ?_
      rw [eQ]
      exact W.iret (v := 0) hx hb hr (fun t ht hW => ⟨⟨0, σ7, rfl, hT, by rw [ht]; exact hP, va_K.moved hW.alike hK, hD⟩, hS.F ht⟩) hS.2.2 dX5_put_34
set_option maxHeartbeats 4000000 in
set_option maxRecDepth 100000 in
theorem k_m_step (l : Launch) (D : va_G) (ad : Nat → Nat) (kk : Nat → ClassId) (sz : Nat) (σ : St) (p1 : Int32) (hI : IM σ) : Met l yX5_step wsX5_step { frames := 1, cells := 0, slots := 0, locals := 23 } (va_Pc [.ref (ad 0), .int p1] (PM D ad kk sz σ)) (va_Qi (fun r u => (r, u) = M_m_step σ p1) (QM D ad kk sz) (aL 23 ad sz)) 0 0 (aL 23 ad sz) := by
  refine Met.ofW (cc := cX5_step) (maxL := 2) (ret := (some .int)) (by decide) rfl ?_
  intro p e s m args below meth c s₁ B hml hv
  obtain ⟨rfl, hsz, hP, hK, hD0⟩ := hv
  have hx := B.exec
  have hb := B.bytes
  have hr := B.returns
  have hts := atoms_spec (ws := wsX5_step) B.pre
  have hown : s.vm.findClass RX5 = some m.cls := findClass_of_methodNamed B.named
  have hlocks := B.notSynchronized
  subst hsz
  have hD : va_D (aL 23 ad s.heap.size) (wM ad kk σ) := aL_D hD0
  have hS : va_S (aL 23 ad s.heap.size) s.heap s.heap [] := va_S.rf
  have hl := lv_entry ([.ref (ad 0), .int p1]) (n := 2) (Nat.le_of_ble_eq_true rfl)
  rw [lg_entry_eq]
  generalize (lg_sl ([.ref (ad 0), .int p1]) ++ List.replicate (2 - (lg_sl ([.ref (ad 0), .int p1])).length) Slot.unset).toArray = ls at hl ⊢
  have hl : lv_has ls 2 [(0, .ref (ad 0)), (1, .int p1)] := hl
  have CF : CallFix p m c cX5_step 2 s ([.ref (ad 0), .int p1] : List Value).toArray wsX5_step RX5 := ⟨hx, hb, hml, hown, hts⟩
  have ht : ∀ w ∈ T0, w.before ([.ref (ad 0), .int p1] : List Value).toArray s = true := fun w h => hts w (List.mem_cons_of_mem _ h)
  generalize hT : M_m_step σ p1 = T
  refine namedQ (fun Q eQ => ?_)
  rw [M_m_step] at hT
  refine lv_aload_n hx hb dX5_step_0 rfl (lv_at hl 0 rfl) ?_
  refine lv_iload_n hx hb dX5_step_1 rfl (lv_at hl 1 rfl) ?_
  refine lv_aload_n hx hb dX5_step_2 rfl (lv_at hl 0 rfl) ?_
  refine va_get (D := D) (ci := 5) (v := .int (gF σ 0 23)) (C := RX5) (T := TX5) (N := 27) hx hb ht inX5 hown hK hP 0 g_Md rfl 23 (by decide) (ht _ mw_596) (fun _ h9 => h9) rfl dX5_step_3 ?_
  refine vp_callSi (W.runS (As := [.int p1, .int (gF σ 0 23)]) (rest := [.ref (ad 0)]) CF (k_m_below l p1 (gF σ 0 23)) ⟨callB_of 2 hts (gT mw_693) rfl rfl rfl (ht _ mw_6) (ht _ mw_691) (by decide +kernel) ⟨Nat.le_of_ble_eq_true rfl, Nat.le_of_ble_eq_true rfl⟩, (ht _ mw_692)⟩ preEq rfl rfl hl.1 rfl (lv_room (Nat.le_of_ble_eq_true rfl)) dX5_step_6 ⟨Nat.le_of_ble_eq_true rfl, Nat.le_of_ble_eq_true rfl⟩) (fun r1 h_r1 => ?_)
  obtain rfl := h_r1
  refine lv_iconst (v := 1) hx hb dX5_step_9 (by decide) ?_
  refine lv_iconst (v := 1) hx hb dX5_step_10 (by decide) ?_
  refine kM_i (va_runV (As := [.int (M_m_below p1 (gF σ 0 23)), .int 1, .int 1]) (rest := []) CF (k_m_goes l D ad kk _ σ (M_m_below p1 (gF σ 0 23)) 1 1) ⟨callB_of 3 hts (gT mw_668) rfl rfl rfl (ht _ mw_6) (ht _ mw_665) (by decide +kernel) ⟨Nat.le_of_ble_eq_true rfl, Nat.le_of_ble_eq_true rfl⟩, (ht _ mw_667), (ht _ ms_23)⟩ (preV_M hK hP hD hS (ci := 5) rfl rfl g_Md) rfl rfl hl.1 rfl (lv_room (Nat.le_of_ble_eq_true rfl)) dX5_step_11 ⟨Nat.le_of_ble_eq_true rfl, Nat.le_of_ble_eq_true rfl⟩) hS (fun r2 σ3 H locs hw hP hD hS => ?_)
  rw [← hw, pb_mk] at hT
  have h_r2 := hw
  have hg := h_r2
  have hI1 := IM.goes hI h_r2
  refine jn (α := Int32) (E := (if r2 = 0 then 0 else (gA σ3 20 p1.toNatClampNeg))) (Kp := fun y => ∀ (H : Heap) (locs : List Loc), va_P D vwCl (wM ad kk σ3) H → va_D (aL 23 ad s.heap.size) (wM ad kk σ3) → va_S (aL 23 ad s.heap.size) s.heap H locs → W p l e (headSpec wsX5_step { frames := 1, cells := 0, slots := 0, locals := 23 }).room s m ([.ref (ad 0), .int p1] : List Value).toArray below meth c H locs 0 0 Q (F0 m 27 ls (.int y :: []))) (fun Vy4 hVy4 Ky4 => ?_) (fun y4 hy_y4 => ?_)
  · refine lv_if_eq (tgt := 26) hx hb dX5_step_14 (by decide) (fun c5 => ?_) (fun c5 => ?_)
    · rw [if_pos c5] at hVy4
      refine lv_iconst (v := 0) hx hb dX5_step_26 (by decide) ?_
      exact Ky4 0 hVy4 _ _ hP hD hS
    · rw [if_neg c5] at hVy4
      have hok := goes_ok hg c5
      refine lv_aload_n hx hb dX5_step_17 rfl (lv_at hl 0 rfl) ?_
      refine va_get (D := D) (ci := 5) (v := .ref (ad 20)) (C := RX5) (T := TX5) (N := 27) hx hb ht inX5 hown hK hP 0 g_Md rfl 24 (by decide) (ht _ mw_597) (fun _ h9 => h9) rfl dX5_step_18 ?_
      refine lv_iload_n hx hb dX5_step_21 rfl (lv_at hl 1 rfl) ?_
      refine va_iald (i := p1) hx hb hK hP 20 0 g_m_plan rfl (below_in hok.1 hI.steps) dX5_step_22 ?_
      refine lv_goto (tgt := 27) hx hb dX5_step_23 (by decide) ?_
      exact Ky4 (gA σ3 20 p1.toNatClampNeg) hVy4 _ _ hP hD hS
  · intro H locs hP hD hS
    rw [← hy_y4, vb_eq] at hT
    rw [eQ]
    exact W.iret (v := y4) hx hb hr (fun t ht hW => ⟨⟨y4, σ3, rfl, hT, by rw [ht]; exact hP, va_K.moved hW.alike hK, hD⟩, hS.F ht⟩) hS.2.2 dX5_step_27
set_option maxHeartbeats 4000000 in
set_option maxRecDepth 100000 in
theorem k_m_count (l : Launch) (D : va_G) (ad : Nat → Nat) (kk : Nat → ClassId) (sz : Nat) (σ : St) (p1 : Int32) (hI : IM σ) : Met l yX5_count wsX5_count { frames := 1, cells := 0, slots := 0, locals := 23 } (va_Pc [.ref (ad 0), .int p1] (PM D ad kk sz σ)) (va_Qi (fun r u => (r, u) = M_m_count σ p1) (QM D ad kk sz) (aL 23 ad sz)) 0 0 (aL 23 ad sz) := by
  refine Met.ofW (cc := cX5_count) (maxL := 4) (ret := (some .int)) (by decide) rfl ?_
  intro p e s m args below meth c s₁ B hml hv
  obtain ⟨rfl, hsz, hP, hK, hD0⟩ := hv
  have hx := B.exec
  have hb := B.bytes
  have hr := B.returns
  have hts := atoms_spec (ws := wsX5_count) B.pre
  have hown : s.vm.findClass RX5 = some m.cls := findClass_of_methodNamed B.named
  have hlocks := B.notSynchronized
  subst hsz
  have hD : va_D (aL 23 ad s.heap.size) (wM ad kk σ) := aL_D hD0
  have hS : va_S (aL 23 ad s.heap.size) s.heap s.heap [] := va_S.rf
  have hl := lv_entry ([.ref (ad 0), .int p1]) (n := 4) (Nat.le_of_ble_eq_true rfl)
  rw [lg_entry_eq]
  generalize (lg_sl ([.ref (ad 0), .int p1]) ++ List.replicate (4 - (lg_sl ([.ref (ad 0), .int p1])).length) Slot.unset).toArray = ls at hl ⊢
  have hl : lv_has ls 4 [(0, .ref (ad 0)), (1, .int p1)] := hl
  have CF : CallFix p m c cX5_count 4 s ([.ref (ad 0), .int p1] : List Value).toArray wsX5_count RX5 := ⟨hx, hb, hml, hown, hts⟩
  have ht : ∀ w ∈ T0, w.before ([.ref (ad 0), .int p1] : List Value).toArray s = true := fun w h => hts w (List.mem_cons_of_mem _ h)
  generalize hT : M_m_count σ p1 = T
  refine namedQ (fun Q eQ => ?_)
  have L_20 : ∀ (n i120 : Nat) (x20_2 : Int32) (τ20 : St) (H : Heap) (locs : List Loc) (ls : Array Slot), i120 ≤ 10 → 11 ≤ i120 + n → IM τ20 → va_P D vwCl (wM ad kk τ20) H → va_D (aL 23 ad s.heap.size) (wM ad kk τ20) → va_S (aL 23 ad s.heap.size) s.heap H locs → lv_has ls 4 [(0, .ref (ad 0)), (1, .int p1), (2, .int x20_2), (3, .int (nI i120))] → M_m_count_h20 n i120 x20_2 τ20 p1 = T → W p l e (headSpec wsX5_count { frames := 1, cells := 0, slots := 0, locals := 23 }).room s m ([.ref (ad 0), .int p1] : List Value).toArray below meth c H locs 0 0 Q (F0 m 20 ls []) := by
    intro n
    induction n with
    | zero =>
      intro i120 x20_2 τ20 H locs ls h_le h_fu hv0 hP hD hS hl hT
      exact absurd h_fu (by omega)
    | succ n ih =>
      intro i120 x20_2 τ20 H locs ls h_le h_fu hv0 hP hD hS hl hT
      rw [M_m_count_h20] at hT
      refine lv_iload_n hx hb dX5_count_20 rfl (lv_at hl 3 rfl) ?_
      refine lv_aload_n hx hb dX5_count_21 rfl (lv_at hl 0 rfl) ?_
      refine va_get (D := D) (ci := 5) (v := .int (gF τ20 0 10)) (C := RX5) (T := TX5) (N := 27) hx hb ht inX5 hown hK hP 0 g_Md rfl 10 (by decide) (ht _ mw_583) (fun _ h9 => h9) rfl dX5_count_22 ?_
      refine lv_icmp_ge (tgt := 43) hx hb dX5_count_25 (by decide) (fun c5 => ?_) (fun c5 => ?_)
      · rw [if_pos c5] at hT
        refine lv_iload_n hx hb dX5_count_43 rfl (lv_at hl 1 rfl) ?_
        refine lv_if_ne (tgt := 54) hx hb dX5_count_44 (by decide) (fun c6 => ?_) (fun c6 => ?_)
        · rw [if_neg c6] at hT
          refine lv_iload_n hx hb dX5_count_54 rfl (lv_at hl 1 rfl) ?_
          refine lv_iconst (v := 1) hx hb dX5_count_55 (by decide) ?_
          refine lv_icmp_ne (tgt := 66) hx hb dX5_count_56 (by decide) (fun c7 => ?_) (fun c7 => ?_)
          · rw [if_neg c7] at hT
            refine lv_iload_n hx hb dX5_count_66 rfl (lv_at hl 1 rfl) ?_
            refine lv_iconst (v := 2) hx hb dX5_count_67 (by decide) ?_
            refine lv_icmp_ne (tgt := 78) hx hb dX5_count_68 (by decide) (fun c8 => ?_) (fun c8 => ?_)
            · rw [if_neg c8] at hT
              refine lv_iload_n hx hb dX5_count_78 rfl (lv_at hl 1 rfl) ?_
              refine lv_iconst (v := 3) hx hb dX5_count_79 (by decide) ?_
              refine lv_icmp_ne (tgt := 87) hx hb dX5_count_80 (by decide) (fun c9 => ?_) (fun c9 => ?_)
              · rw [if_neg c9] at hT
                refine lv_aload_n hx hb dX5_count_87 rfl (lv_at hl 0 rfl) ?_
                refine va_get (D := D) (ci := 5) (v := .int (gF τ20 0 23)) (C := RX5) (T := TX5) (N := 27) hx hb ht inX5 hown hK hP 0 g_Md rfl 23 (by decide) (ht _ mw_596) (fun _ h9 => h9) rfl dX5_count_88 ?_
                rw [eQ]
                exact W.iret (v := gF τ20 0 23) hx hb hr (fun t ht hW => ⟨⟨gF τ20 0 23, τ20, rfl, hT, by rw [ht]; exact hP, va_K.moved hW.alike hK, hD⟩, hS.F ht⟩) hS.2.2 dX5_count_91
              · rw [if_pos c9] at hT
                refine lv_iload_n hx hb dX5_count_83 rfl (lv_at hl 2 rfl) ?_
                refine lv_goto (tgt := 91) hx hb dX5_count_84 (by decide) ?_
                rw [eQ]
                exact W.iret (v := x20_2) hx hb hr (fun t ht hW => ⟨⟨x20_2, τ20, rfl, hT, by rw [ht]; exact hP, va_K.moved hW.alike hK, hD⟩, hS.F ht⟩) hS.2.2 dX5_count_91
            · rw [if_pos c8] at hT
              refine lv_aload_n hx hb dX5_count_71 rfl (lv_at hl 0 rfl) ?_
              refine va_get (D := D) (ci := 5) (v := .int (gF τ20 0 10)) (C := RX5) (T := TX5) (N := 27) hx hb ht inX5 hown hK hP 0 g_Md rfl 10 (by decide) (ht _ mw_583) (fun _ h9 => h9) rfl dX5_count_72 ?_
              refine lv_goto (tgt := 91) hx hb dX5_count_75 (by decide) ?_
              rw [eQ]
              exact W.iret (v := gF τ20 0 10) hx hb hr (fun t ht hW => ⟨⟨gF τ20 0 10, τ20, rfl, hT, by rw [ht]; exact hP, va_K.moved hW.alike hK, hD⟩, hS.F ht⟩) hS.2.2 dX5_count_91
          · rw [if_pos c7] at hT
            refine lv_aload_n hx hb dX5_count_59 rfl (lv_at hl 0 rfl) ?_
            refine va_get (D := D) (ci := 5) (v := .int (gF τ20 0 3)) (C := RX5) (T := TX5) (N := 27) hx hb ht inX5 hown hK hP 0 g_Md rfl 3 (by decide) (ht _ mw_576) (fun _ h9 => h9) rfl dX5_count_60 ?_
            refine lv_goto (tgt := 91) hx hb dX5_count_63 (by decide) ?_
            rw [eQ]
            exact W.iret (v := gF τ20 0 3) hx hb hr (fun t ht hW => ⟨⟨gF τ20 0 3, τ20, rfl, hT, by rw [ht]; exact hP, va_K.moved hW.alike hK, hD⟩, hS.F ht⟩) hS.2.2 dX5_count_91
        · rw [if_pos c6] at hT
          refine lv_aload_n hx hb dX5_count_47 rfl (lv_at hl 0 rfl) ?_
          refine va_get (D := D) (ci := 5) (v := .int (gF τ20 0 1)) (C := RX5) (T := TX5) (N := 27) hx hb ht inX5 hown hK hP 0 g_Md rfl 1 (by decide) (ht _ mw_574) (fun _ h9 => h9) rfl dX5_count_48 ?_
          refine lv_goto (tgt := 91) hx hb dX5_count_51 (by decide) ?_
          rw [eQ]
          exact W.iret (v := gF τ20 0 1) hx hb hr (fun t ht hW => ⟨⟨gF τ20 0 1, τ20, rfl, hT, by rw [ht]; exact hP, va_K.moved hW.alike hK, hD⟩, hS.F ht⟩) hS.2.2 dX5_count_91
      · rw [if_neg c5] at hT
        have h_lt := lp_lt (N := 10) (by decide) hv0.objects h_le c5
        refine lv_iload_n hx hb dX5_count_28 rfl (lv_at hl 2 rfl) ?_
        refine lv_aload_n hx hb dX5_count_29 rfl (lv_at hl 0 rfl) ?_
        refine va_get (D := D) (ci := 5) (v := .ref (ad 10)) (C := RX5) (T := TX5) (N := 27) hx hb ht inX5 hown hK hP 0 g_Md rfl 13 (by decide) (ht _ mw_586) (fun _ h9 => h9) rfl dX5_count_30 ?_
        refine lv_iload_n hx hb dX5_count_33 rfl (lv_at hl 3 rfl) ?_
        refine va_iald (i := nI i120) hx hb hK hP 10 0 g_m_rows rfl (vp_in_nI (by omega) (by decide)) dX5_count_34 ?_
        rw [nI_clamp (n := i120) (by omega)]
        refine lv_iadd hx hb dX5_count_35 ?_
        refine lv_istore_n (lv' := [(2, .int (x20_2 + (gA τ20 10 i120))), (0, .ref (ad 0)), (1, .int p1), (3, .int (nI i120))]) hx hb dX5_count_36 rfl hl (by decide) rfl (fun ls hl => ?_)
        refine lv_iinc (v := nI (i120 + 1)) (lv' := [(3, .int (nI (i120 + 1))), (2, .int (x20_2 + (gA τ20 10 i120))), (0, .ref (ad 0)), (1, .int p1)]) hx hb dX5_count_37 hl (k := 3) rfl (nI_1 i120) (by decide) rfl (fun ls hl => ?_)
        refine lv_goto (tgt := 20) hx hb dX5_count_40 (by decide) ?_
        exact ih  (i120 + 1) (x20_2 + (gA τ20 10 i120)) τ20 _ _ ls h_lt (by omega) hv0 hP hD hS (lv_sub hl [2, 3, 1, 0] rfl) hT
  rw [M_m_count] at hT
  refine lv_aload_n hx hb dX5_count_0 rfl (lv_at hl 0 rfl) ?_
  refine lv_iload_n hx hb dX5_count_1 rfl (lv_at hl 1 rfl) ?_
  refine lv_iconst (v := 5) hx hb dX5_count_2 (by decide) ?_
  refine vp_callSi (W.runS (As := [.int p1, .int 5]) (rest := [.ref (ad 0)]) CF (k_m_below l p1 5) ⟨callB_of 2 hts (gT mw_693) rfl rfl rfl (ht _ mw_6) (ht _ mw_691) (by decide +kernel) ⟨Nat.le_of_ble_eq_true rfl, Nat.le_of_ble_eq_true rfl⟩, (ht _ mw_692)⟩ preEq rfl rfl hl.1 rfl (lv_room (Nat.le_of_ble_eq_true rfl)) dX5_count_3 ⟨Nat.le_of_ble_eq_true rfl, Nat.le_of_ble_eq_true rfl⟩) (fun r1 h_r1 => ?_)
  obtain rfl := h_r1
  refine lv_iconst (v := 1) hx hb dX5_count_6 (by decide) ?_
  refine lv_iconst (v := 1) hx hb dX5_count_7 (by decide) ?_
  refine kM_i (va_runV (As := [.int (M_m_below p1 5), .int 1, .int 1]) (rest := []) CF (k_m_goes l D ad kk _ σ (M_m_below p1 5) 1 1) ⟨callB_of 3 hts (gT mw_668) rfl rfl rfl (ht _ mw_6) (ht _ mw_665) (by decide +kernel) ⟨Nat.le_of_ble_eq_true rfl, Nat.le_of_ble_eq_true rfl⟩, (ht _ mw_667), (ht _ ms_23)⟩ (preV_M hK hP hD hS (ci := 5) rfl rfl g_Md) rfl rfl hl.1 rfl (lv_room (Nat.le_of_ble_eq_true rfl)) dX5_count_8 ⟨Nat.le_of_ble_eq_true rfl, Nat.le_of_ble_eq_true rfl⟩) hS (fun r2 σ3 H locs hw hP hD hS => ?_)
  rw [← hw, pb_mk] at hT
  have h_r2 := hw
  have hg := h_r2
  have hI1 := IM.goes hI h_r2
  refine lv_if_ne (tgt := 16) hx hb dX5_count_11 (by decide) (fun c4 => ?_) (fun c4 => ?_)
  · rw [if_neg c4] at hT
    refine lv_iconst (v := 0) hx hb dX5_count_16 (by decide) ?_
    refine lv_istore_n (lv' := [(2, .int 0), (0, .ref (ad 0)), (1, .int p1)]) hx hb dX5_count_17 rfl hl (by decide) rfl (fun ls hl => ?_)
    refine lv_iconst (v := 0) hx hb dX5_count_18 (by decide) ?_
    refine lv_istore_n (lv' := [(3, .int 0), (2, .int 0), (0, .ref (ad 0)), (1, .int p1)]) hx hb dX5_count_19 rfl hl (by decide) rfl (fun ls hl => ?_)
    exact L_20 11 0 0 σ3 _ _ ls (Nat.zero_le _) (by decide) hI1 hP hD hS (lv_sub hl [2, 3, 1, 0] rfl) hT
  · rw [if_pos c4] at hT
    refine lv_iconst (v := 0) hx hb dX5_count_14 (by decide) ?_
    rw [eQ]
    exact W.iret (v := 0) hx hb hr (fun t ht hW => ⟨⟨0, σ3, rfl, hT, by rw [ht]; exact hP, va_K.moved hW.alike hK, hD⟩, hS.F ht⟩) hS.2.2 dX5_count_15
set_option maxHeartbeats 4000000 in
set_option maxRecDepth 100000 in
theorem k_m_mayCome (l : Launch) (D : va_G) (ad : Nat → Nat) (kk : Nat → ClassId) (sz : Nat) (σ : St) (p1 : Int32) (p2 : Int32) (p3 : Int32) (hn1 : vp_in p1 10) (hn2 : vp_in p2 12) (hI : IM σ) : Met l yX5_mayCome wsX5_mayCome { frames := 1, cells := 0, slots := 0, locals := 25 } (va_Pc [.ref (ad 0), .int p1, .int p2, .int p3] (PM D ad kk sz σ)) (va_Qi (fun r u => r = M_m_mayCome σ p1 p2 p3 ∧ u = σ) (QM D ad kk sz) (aL 23 ad sz)) 0 0 (aL 23 ad sz) := by
  obtain ⟨j1, hj1, rfl⟩ := vp_in_of hn1 (by decide)
  obtain ⟨j2, hj2, rfl⟩ := vp_in_of hn2 (by decide)
  refine Met.ofW (cc := cX5_mayCome) (maxL := 7) (ret := (some .boolean)) (by decide) rfl ?_
  intro p e s m args below meth c s₁ B hml hv
  obtain ⟨rfl, hsz, hP, hK, hD0⟩ := hv
  have hx := B.exec
  have hb := B.bytes
  have hr := B.returns
  have hts := atoms_spec (ws := wsX5_mayCome) B.pre
  have hown : s.vm.findClass RX5 = some m.cls := findClass_of_methodNamed B.named
  have hlocks := B.notSynchronized
  subst hsz
  have hD : va_D (aL 23 ad s.heap.size) (wM ad kk σ) := aL_D hD0
  have hS : va_S (aL 23 ad s.heap.size) s.heap s.heap [] := va_S.rf
  have hl := lv_entry ([.ref (ad 0), .int (nI j1), .int (nI j2), .int p3]) (n := 7) (Nat.le_of_ble_eq_true rfl)
  rw [lg_entry_eq]
  generalize (lg_sl ([.ref (ad 0), .int (nI j1), .int (nI j2), .int p3]) ++ List.replicate (7 - (lg_sl ([.ref (ad 0), .int (nI j1), .int (nI j2), .int p3])).length) Slot.unset).toArray = ls at hl ⊢
  have hl : lv_has ls 7 [(0, .ref (ad 0)), (1, .int (nI j1)), (2, .int (nI j2)), (3, .int p3)] := hl
  have CF : CallFix p m c cX5_mayCome 7 s ([.ref (ad 0), .int (nI j1), .int (nI j2), .int p3] : List Value).toArray wsX5_mayCome RX5 := ⟨hx, hb, hml, hown, hts⟩
  have ht : ∀ w ∈ T0, w.before ([.ref (ad 0), .int (nI j1), .int (nI j2), .int p3] : List Value).toArray s = true := fun w h => hts w (List.mem_cons_of_mem _ h)
  generalize hT : M_m_mayCome σ (nI j1) (nI j2) p3 = T
  refine namedQ (fun Q eQ => ?_)
  have L_6 : ∀ (n i106 : Nat) (x6_4 : Int32) (H : Heap) (locs : List Loc) (ls : Array Slot), i106 ≤ 12 → 13 ≤ i106 + n → x6_4 = 0 ∨ x6_4 = 1 → va_P D vwCl (wM ad kk σ) H → va_D (aL 23 ad s.heap.size) (wM ad kk σ) → va_S (aL 23 ad s.heap.size) s.heap H locs → lv_has ls 7 [(0, .ref (ad 0)), (1, .int (nI j1)), (2, .int (nI j2)), (3, .int p3), (4, .int x6_4), (5, .int (nI i106))] → M_m_mayCome_h6 n i106 x6_4 p3 σ j1 j2 = T → W p l e (headSpec wsX5_mayCome { frames := 1, cells := 0, slots := 0, locals := 25 }).room s m ([.ref (ad 0), .int (nI j1), .int (nI j2), .int p3] : List Value).toArray below meth c H locs 0 0 Q (F0 m 6 ls []) := by
    intro n
    induction n with
    | zero =>
      intro i106 x6_4 H locs ls h_le h_fu hv0 hP hD hS hl hT
      exact absurd h_fu (by omega)
    | succ n ih =>
      intro i106 x6_4 H locs ls h_le h_fu hv0 hP hD hS hl hT
      rw [M_m_mayCome_h6] at hT
      refine lv_iload hx hb dX5_mayCome_6 (lv_at hl 5 rfl) ?_
      refine lv_bipush (v := 12) hx hb dX5_mayCome_8 (by decide) ?_
      refine lv_icmp_ge (tgt := 93) hx hb dX5_mayCome_10 (by decide) (fun c1 => ?_) (fun c1 => ?_)
      · rw [if_pos c1] at hT
        refine lv_iload hx hb dX5_mayCome_93 (lv_at hl 4 rfl) ?_
        rw [eQ]
        exact W.zret (v := x6_4) hx hb hr (nb01 hv0) (fun t ht hW => ⟨⟨x6_4, σ, rfl, ⟨hT, rfl⟩, by rw [ht]; exact hP, va_K.moved hW.alike hK, hD⟩, hS.F ht⟩) hS.2.2 dX5_mayCome_95
      · rw [if_neg c1] at hT
        have h_lt := lp_lt (N := 12) (by decide) (by decide) h_le c1
        refine lv_iload_n hx hb dX5_mayCome_13 rfl (lv_at hl 3 rfl) ?_
        refine lv_iload hx hb dX5_mayCome_14 (lv_at hl 5 rfl) ?_
        refine lv_ishr hx hb dX5_mayCome_16 ?_
        refine lv_iconst (v := 1) hx hb dX5_mayCome_17 (by decide) ?_
        refine lv_iand hx hb dX5_mayCome_18 ?_
        refine lv_iconst (v := 1) hx hb dX5_mayCome_19 (by decide) ?_
        refine jn (α := Int32) (E := (if ((p3 >>> ((nI i106) &&& 31)) &&& 1) = 1 then 1 else (if (M_m_latest σ (nI j1) (nI i106)) = (-1) then 0 else 1))) (Kp := fun y => ∀ (H : Heap) (locs : List Loc), va_P D vwCl (wM ad kk σ) H → va_D (aL 23 ad s.heap.size) (wM ad kk σ) → va_S (aL 23 ad s.heap.size) s.heap H locs → W p l e (headSpec wsX5_mayCome { frames := 1, cells := 0, slots := 0, locals := 25 }).room s m ([.ref (ad 0), .int (nI j1), .int (nI j2), .int p3] : List Value).toArray below meth c H locs 0 0 Q (F0 m 39 ls (.int y :: []))) (fun Vy2 hVy2 Ky2 => ?_) (fun y2 hy_y2 => ?_)
        · refine lv_icmp_eq (tgt := 34) hx hb dX5_mayCome_20 (by decide) (fun c3 => ?_) (fun c3 => ?_)
          · rw [if_pos c3] at hVy2
            refine lv_iconst (v := 1) hx hb dX5_mayCome_34 (by decide) ?_
            refine lv_goto (tgt := 39) hx hb dX5_mayCome_35 (by decide) ?_
            exact Ky2 1 hVy2 _ _ hP hD hS
          · rw [if_neg c3] at hVy2
            refine lv_aload_n hx hb dX5_mayCome_23 rfl (lv_at hl 0 rfl) ?_
            refine lv_iload_n hx hb dX5_mayCome_24 rfl (lv_at hl 1 rfl) ?_
            refine lv_iload hx hb dX5_mayCome_25 (lv_at hl 5 rfl) ?_
            refine kM_i (va_runV (As := [.int (nI j1), .int (nI i106)]) (rest := []) CF (k_m_latest l D ad kk _ σ (nI j1) (nI i106) (vp_in_nI (n := j1) (by omega) (by decide)) hI) ⟨callB_of 2 hts (gT mw_741) rfl rfl rfl (ht _ mw_6) (ht _ mw_738) (by decide +kernel) ⟨Nat.le_of_ble_eq_true rfl, Nat.le_of_ble_eq_true rfl⟩, (ht _ mw_740), (ht _ ms_31)⟩ (preV_M hK hP hD hS (ci := 5) rfl rfl g_Md) rfl rfl hl.1 rfl (lv_room (Nat.le_of_ble_eq_true rfl)) dX5_mayCome_27 ⟨Nat.le_of_ble_eq_true rfl, Nat.le_of_ble_eq_true rfl⟩) hS (fun r4 u9 H locs hw hP hD hS => ?_)
            obtain ⟨rfl, e9⟩ := hw
            rw [e9] at hP hD
            refine lv_iconst (v := (-1)) hx hb dX5_mayCome_30 (by decide) ?_
            refine lv_icmp_eq (tgt := 38) hx hb dX5_mayCome_31 (by decide) (fun c5 => ?_) (fun c5 => ?_)
            · rw [if_pos c5] at hVy2
              refine lv_iconst (v := 0) hx hb dX5_mayCome_38 (by decide) ?_
              exact Ky2 0 hVy2 _ _ hP hD hS
            · rw [if_neg c5] at hVy2
              refine lv_iconst (v := 1) hx hb dX5_mayCome_34 (by decide) ?_
              refine lv_goto (tgt := 39) hx hb dX5_mayCome_35 (by decide) ?_
              exact Ky2 1 hVy2 _ _ hP hD hS
        · intro H locs hP hD hS
          rw [← hy_y2, vb_eq] at hT
          have b_y2 : y2 = 0 ∨ y2 = 1 := by rw [hy_y2]; (repeat' split) <;> first | exact Or.inl rfl | exact Or.inr rfl
          refine lv_istore (lv' := [(6, .int y2), (0, .ref (ad 0)), (1, .int (nI j1)), (2, .int (nI j2)), (3, .int p3), (4, .int x6_4), (5, .int (nI i106))]) hx hb dX5_mayCome_39 hl (by decide) rfl (fun ls hl => ?_)
          refine lv_iload hx hb dX5_mayCome_41 (lv_at hl 5 rfl) ?_
          refine jn (α := Int32) (E := (if x6_4 = 0 then 0 else (if (M_m_has σ (nI j2) 97 (nI i106)) = 0 then (if (M_m_has σ (nI j2) 120 (nI i106)) = 0 then 1 else (if y2 = 0 then 1 else 0)) else (if y2 = 0 then 0 else (if (M_m_has σ (nI j2) 120 (nI i106)) = 0 then 1 else (if y2 = 0 then 1 else 0)))))) (Kp := fun y => ∀ (H : Heap) (locs : List Loc), va_P D vwCl (wM ad kk σ) H → va_D (aL 23 ad s.heap.size) (wM ad kk σ) → va_S (aL 23 ad s.heap.size) s.heap H locs → W p l e (headSpec wsX5_mayCome { frames := 1, cells := 0, slots := 0, locals := 25 }).room s m ([.ref (ad 0), .int (nI j1), .int (nI j2), .int p3] : List Value).toArray below meth c H locs 0 0 Q (F0 m 85 ls (.int y :: []))) (fun Vy6 hVy6 Ky6 => ?_) (fun y6 hy_y6 => ?_)
          · refine lv_if_eq (tgt := 84) hx hb dX5_mayCome_43 (by decide) (fun c7 => ?_) (fun c7 => ?_)
            · rw [if_pos c7] at hVy6
              refine lv_iconst (v := 0) hx hb dX5_mayCome_84 (by decide) ?_
              exact Ky6 0 hVy6 _ _ hP hD hS
            · rw [if_neg c7] at hVy6
              refine lv_aload_n hx hb dX5_mayCome_46 rfl (lv_at hl 1 rfl) ?_
              refine lv_iload_n hx hb dX5_mayCome_47 rfl (lv_at hl 3 rfl) ?_
              refine lv_bipush (v := 97) hx hb dX5_mayCome_48 (by decide) ?_
              refine lv_iload hx hb dX5_mayCome_50 (lv_at hl 6 rfl) ?_
              refine kM_i (va_runV (As := [.int (nI j2), .int 97, .int (nI i106)]) (rest := []) CF (k_m_has l D ad kk _ σ (nI j2) 97 (nI i106) (vp_in_nI (n := j2) (by omega) (by decide)) hI) ⟨callB_of 3 hts (gT mw_737) rfl rfl rfl (ht _ mw_6) (ht _ mw_734) (by decide +kernel) ⟨Nat.le_of_ble_eq_true rfl, Nat.le_of_ble_eq_true rfl⟩, (ht _ mw_736), (ht _ ms_30)⟩ (preV_M hK hP hD hS (ci := 5) rfl rfl g_Md) rfl rfl hl.1 rfl (lv_room (Nat.le_of_ble_eq_true rfl)) dX5_mayCome_52 ⟨Nat.le_of_ble_eq_true rfl, Nat.le_of_ble_eq_true rfl⟩) hS (fun r8 u9 H locs hw hP hD hS => ?_)
              obtain ⟨rfl, e9⟩ := hw
              rw [e9] at hP hD
              refine lv_if_eq (tgt := 63) hx hb dX5_mayCome_55 (by decide) (fun c9 => ?_) (fun c9 => ?_)
              · rw [if_pos c9] at hVy6
                refine lv_aload_n hx hb dX5_mayCome_63 rfl (lv_at hl 1 rfl) ?_
                refine lv_iload_n hx hb dX5_mayCome_64 rfl (lv_at hl 3 rfl) ?_
                refine lv_bipush (v := 120) hx hb dX5_mayCome_65 (by decide) ?_
                refine lv_iload hx hb dX5_mayCome_67 (lv_at hl 6 rfl) ?_
                refine kM_i (va_runV (As := [.int (nI j2), .int 120, .int (nI i106)]) (rest := []) CF (k_m_has l D ad kk _ σ (nI j2) 120 (nI i106) (vp_in_nI (n := j2) (by omega) (by decide)) hI) ⟨callB_of 3 hts (gT mw_737) rfl rfl rfl (ht _ mw_6) (ht _ mw_734) (by decide +kernel) ⟨Nat.le_of_ble_eq_true rfl, Nat.le_of_ble_eq_true rfl⟩, (ht _ mw_736), (ht _ ms_30)⟩ (preV_M hK hP hD hS (ci := 5) rfl rfl g_Md) rfl rfl hl.1 rfl (lv_room (Nat.le_of_ble_eq_true rfl)) dX5_mayCome_69 ⟨Nat.le_of_ble_eq_true rfl, Nat.le_of_ble_eq_true rfl⟩) hS (fun r10 u9 H locs hw hP hD hS => ?_)
                obtain ⟨rfl, e9⟩ := hw
                rw [e9] at hP hD
                refine lv_if_eq (tgt := 80) hx hb dX5_mayCome_72 (by decide) (fun c11 => ?_) (fun c11 => ?_)
                · rw [if_pos c11] at hVy6
                  refine lv_iconst (v := 1) hx hb dX5_mayCome_80 (by decide) ?_
                  refine lv_goto (tgt := 85) hx hb dX5_mayCome_81 (by decide) ?_
                  exact Ky6 1 hVy6 _ _ hP hD hS
                · rw [if_neg c11] at hVy6
                  refine lv_iload hx hb dX5_mayCome_75 (lv_at hl 0 rfl) ?_
                  refine lv_if_ne (tgt := 84) hx hb dX5_mayCome_77 (by decide) (fun c12 => ?_) (fun c12 => ?_)
                  · rw [if_neg c12] at hVy6
                    refine lv_iconst (v := 0) hx hb dX5_mayCome_84 (by decide) ?_
                    exact Ky6 0 hVy6 _ _ hP hD hS
                  · rw [if_pos c12] at hVy6
                    refine lv_iconst (v := 1) hx hb dX5_mayCome_80 (by decide) ?_
                    refine lv_goto (tgt := 85) hx hb dX5_mayCome_81 (by decide) ?_
                    exact Ky6 1 hVy6 _ _ hP hD hS
              · rw [if_neg c9] at hVy6
                refine lv_iload hx hb dX5_mayCome_58 (lv_at hl 0 rfl) ?_
                refine lv_if_eq (tgt := 84) hx hb dX5_mayCome_60 (by decide) (fun c13 => ?_) (fun c13 => ?_)
                · rw [if_pos c13] at hVy6
                  refine lv_iconst (v := 0) hx hb dX5_mayCome_84 (by decide) ?_
                  exact Ky6 0 hVy6 _ _ hP hD hS
                · rw [if_neg c13] at hVy6
                  refine lv_aload_n hx hb dX5_mayCome_63 rfl (lv_at hl 1 rfl) ?_
                  refine lv_iload_n hx hb dX5_mayCome_64 rfl (lv_at hl 3 rfl) ?_
                  refine lv_bipush (v := 120) hx hb dX5_mayCome_65 (by decide) ?_
                  refine lv_iload hx hb dX5_mayCome_67 (lv_at hl 6 rfl) ?_
                  refine kM_i (va_runV (As := [.int (nI j2), .int 120, .int (nI i106)]) (rest := []) CF (k_m_has l D ad kk _ σ (nI j2) 120 (nI i106) (vp_in_nI (n := j2) (by omega) (by decide)) hI) ⟨callB_of 3 hts (gT mw_737) rfl rfl rfl (ht _ mw_6) (ht _ mw_734) (by decide +kernel) ⟨Nat.le_of_ble_eq_true rfl, Nat.le_of_ble_eq_true rfl⟩, (ht _ mw_736), (ht _ ms_30)⟩ (preV_M hK hP hD hS (ci := 5) rfl rfl g_Md) rfl rfl hl.1 rfl (lv_room (Nat.le_of_ble_eq_true rfl)) dX5_mayCome_69 ⟨Nat.le_of_ble_eq_true rfl, Nat.le_of_ble_eq_true rfl⟩) hS (fun r14 u9 H locs hw hP hD hS => ?_)
                  obtain ⟨rfl, e9⟩ := hw
                  rw [e9] at hP hD
                  refine lv_if_eq (tgt := 80) hx hb dX5_mayCome_72 (by decide) (fun c15 => ?_) (fun c15 => ?_)
                  · rw [if_pos c15] at hVy6
                    refine lv_iconst (v := 1) hx hb dX5_mayCome_80 (by decide) ?_
                    refine lv_goto (tgt := 85) hx hb dX5_mayCome_81 (by decide) ?_
                    exact Ky6 1 hVy6 _ _ hP hD hS
                  · rw [if_neg c15] at hVy6
                    refine lv_iload hx hb dX5_mayCome_75 (lv_at hl 0 rfl) ?_
                    refine lv_if_ne (tgt := 84) hx hb dX5_mayCome_77 (by decide) (fun c16 => ?_) (fun c16 => ?_)
                    · rw [if_neg c16] at hVy6
                      refine lv_iconst (v := 0) hx hb dX5_mayCome_84 (by decide) ?_
                      exact Ky6 0 hVy6 _ _ hP hD hS
                    · rw [if_pos c16] at hVy6
                      refine lv_iconst (v := 1) hx hb dX5_mayCome_80 (by decide) ?_
                      refine lv_goto (tgt := 85) hx hb dX5_mayCome_81 (by decide) ?_
                      exact Ky6 1 hVy6 _ _ hP hD hS
          · intro H locs hP hD hS
            rw [← hy_y6, vb_eq] at hT
            have b_y6 : y6 = 0 ∨ y6 = 1 := by rw [hy_y6]; (repeat' split) <;> first | exact Or.inl rfl | exact Or.inr rfl
            refine lv_istore (lv' := [(4, .int y6), (6, .int y2), (0, .ref (ad 0)), (1, .int (nI j1)), (2, .int (nI j2)), (3, .int p3), (5, .int (nI i106))]) hx hb dX5_mayCome_85 hl (by decide) rfl (fun ls hl => ?_)
            refine lv_iinc (v := nI (i106 + 1)) (lv' := [(5, .int (nI (i106 + 1))), (4, .int y6), (6, .int y2), (0, .ref (ad 0)), (1, .int (nI j1)), (2, .int (nI j2)), (3, .int p3)]) hx hb dX5_mayCome_87 hl (k := 6) rfl (nI_1 i106) (by decide) rfl (fun ls hl => ?_)
            refine lv_goto (tgt := 6) hx hb dX5_mayCome_90 (by decide) ?_
            exact ih  (i106 + 1) y6 _ _ ls h_lt (by omega) b_y6 hP hD hS (lv_sub hl [3, 4, 5, 6, 1, 0] rfl) hT
  rw [M_m_mayCome, nI_clamp (n := j1) (by omega), nI_clamp (n := j2) (by omega), N_m_mayCome] at hT
  refine lv_iconst (v := 1) hx hb dX5_mayCome_0 (by decide) ?_
  refine lv_istore (lv' := [(4, .int 1), (0, .ref (ad 0)), (1, .int (nI j1)), (2, .int (nI j2)), (3, .int p3)]) hx hb dX5_mayCome_1 hl (by decide) rfl (fun ls hl => ?_)
  refine lv_iconst (v := 0) hx hb dX5_mayCome_3 (by decide) ?_
  refine lv_istore (lv' := [(5, .int 0), (4, .int 1), (0, .ref (ad 0)), (1, .int (nI j1)), (2, .int (nI j2)), (3, .int p3)]) hx hb dX5_mayCome_4 hl (by decide) rfl (fun ls hl => ?_)
  exact L_6 13 0 1 _ _ ls (Nat.zero_le _) (by decide) (Or.inr rfl) hP hD hS (lv_sub hl [2, 3, 4, 5, 1, 0] rfl) hT
set_option maxHeartbeats 4000000 in
set_option maxRecDepth 100000 in
theorem k_m_methodsOf (l : Launch) (D : va_G) (ad : Nat → Nat) (kk : Nat → ClassId) (sz : Nat) (σ : St) (p1 : Int32) (p2 : Int32) (hm : p2.toInt ≤ (10 : Nat)) : Met l yX5_methodsOf wsX5_methodsOf { frames := 0, cells := 0, slots := 0, locals := 0 } (va_Pc [.ref (ad 0), .int p1, .int p2] (PM D ad kk sz σ)) (va_Qi (fun r u => r = M_m_methodsOf σ p1 p2 ∧ u = σ) (QM D ad kk sz) (aL 23 ad sz)) 0 0 (aL 23 ad sz) := by
  refine Met.ofW (cc := cX5_methodsOf) (maxL := 5) (ret := (some .int)) (by decide) rfl ?_
  intro p e s m args below meth c s₁ B hml hv
  obtain ⟨rfl, hsz, hP, hK, hD0⟩ := hv
  have hx := B.exec
  have hb := B.bytes
  have hr := B.returns
  have hts := atoms_spec (ws := wsX5_methodsOf) B.pre
  have hown : s.vm.findClass RX5 = some m.cls := findClass_of_methodNamed B.named
  have hlocks := B.notSynchronized
  subst hsz
  have hD : va_D (aL 23 ad s.heap.size) (wM ad kk σ) := aL_D hD0
  have hS : va_S (aL 23 ad s.heap.size) s.heap s.heap [] := va_S.rf
  have hl := lv_entry ([.ref (ad 0), .int p1, .int p2]) (n := 5) (Nat.le_of_ble_eq_true rfl)
  rw [lg_entry_eq]
  generalize (lg_sl ([.ref (ad 0), .int p1, .int p2]) ++ List.replicate (5 - (lg_sl ([.ref (ad 0), .int p1, .int p2])).length) Slot.unset).toArray = ls at hl ⊢
  have hl : lv_has ls 5 [(0, .ref (ad 0)), (1, .int p1), (2, .int p2)] := hl
  have CF : CallFix p m c cX5_methodsOf 5 s ([.ref (ad 0), .int p1, .int p2] : List Value).toArray wsX5_methodsOf RX5 := ⟨hx, hb, hml, hown, hts⟩
  have ht : ∀ w ∈ T0, w.before ([.ref (ad 0), .int p1, .int p2] : List Value).toArray s = true := fun w h => hts w (List.mem_cons_of_mem _ h)
  generalize hT : M_m_methodsOf σ p1 p2 = T
  refine namedQ (fun Q eQ => ?_)
  have L_5 : ∀ (n i105 : Nat) (x5_3 : Int32) (H : Heap) (locs : List Loc) (ls : Array Slot), i105 ≤ 10 → 11 ≤ i105 + n → va_P D vwCl (wM ad kk σ) H → va_D (aL 23 ad s.heap.size) (wM ad kk σ) → va_S (aL 23 ad s.heap.size) s.heap H locs → lv_has ls 5 [(0, .ref (ad 0)), (1, .int p1), (2, .int p2), (3, .int x5_3), (4, .int (nI i105))] → M_m_methodsOf_h5 n i105 x5_3 p2 p1 σ = T → W p l e (headSpec wsX5_methodsOf { frames := 0, cells := 0, slots := 0, locals := 0 }).room s m ([.ref (ad 0), .int p1, .int p2] : List Value).toArray below meth c H locs 0 0 Q (F0 m 5 ls []) := by
    intro n
    induction n with
    | zero =>
      intro i105 x5_3 H locs ls h_le h_fu hP hD hS hl hT
      exact absurd h_fu (by omega)
    | succ n ih =>
      intro i105 x5_3 H locs ls h_le h_fu hP hD hS hl hT
      rw [M_m_methodsOf_h5] at hT
      refine lv_iload hx hb dX5_methodsOf_5 (lv_at hl 4 rfl) ?_
      refine lv_iload_n hx hb dX5_methodsOf_7 rfl (lv_at hl 2 rfl) ?_
      refine lv_icmp_ge (tgt := 43) hx hb dX5_methodsOf_8 (by decide) (fun c1 => ?_) (fun c1 => ?_)
      · rw [if_pos c1] at hT
        refine lv_iload_n hx hb dX5_methodsOf_43 rfl (lv_at hl 3 rfl) ?_
        rw [eQ]
        exact W.iret (v := x5_3) hx hb hr (fun t ht hW => ⟨⟨x5_3, σ, rfl, ⟨hT, rfl⟩, by rw [ht]; exact hP, va_K.moved hW.alike hK, hD⟩, hS.F ht⟩) hS.2.2 dX5_methodsOf_44
      · rw [if_neg c1] at hT
        have h_lt := lp_lt (N := 10) (by decide) hm h_le c1
        refine lv_iload_n hx hb dX5_methodsOf_11 rfl (lv_at hl 1 rfl) ?_
        refine lv_iload hx hb dX5_methodsOf_12 (lv_at hl 4 rfl) ?_
        refine lv_ishr hx hb dX5_methodsOf_14 ?_
        refine lv_iconst (v := 1) hx hb dX5_methodsOf_15 (by decide) ?_
        refine lv_iand hx hb dX5_methodsOf_16 ?_
        refine lv_iconst (v := 1) hx hb dX5_methodsOf_17 (by decide) ?_
        refine jn (α := Int32) (E := (if ((p1 >>> ((nI i105) &&& 31)) &&& 1) = 1 then (x5_3 ||| ((1 : Int32) <<< ((gA σ 21 i105) &&& 31))) else x5_3)) (Kp := fun y => ∀ (H : Heap) (locs : List Loc), va_P D vwCl (wM ad kk σ) H → va_D (aL 23 ad s.heap.size) (wM ad kk σ) → va_S (aL 23 ad s.heap.size) s.heap H locs → W p l e (headSpec wsX5_methodsOf { frames := 0, cells := 0, slots := 0, locals := 0 }).room s m ([.ref (ad 0), .int p1, .int p2] : List Value).toArray below meth c H locs 0 0 Q (F0 m 36 ls (.int y :: []))) (fun Vy2 hVy2 Ky2 => ?_) (fun y2 hy_y2 => ?_)
        · refine lv_icmp_ne (tgt := 35) hx hb dX5_methodsOf_18 (by decide) (fun c3 => ?_) (fun c3 => ?_)
          · rw [if_neg c3] at hVy2
            refine lv_iload_n hx hb dX5_methodsOf_35 rfl (lv_at hl 3 rfl) ?_
            exact Ky2 x5_3 hVy2 _ _ hP hD hS
          · rw [if_pos c3] at hVy2
            refine lv_iload_n hx hb dX5_methodsOf_21 rfl (lv_at hl 3 rfl) ?_
            refine lv_iconst (v := 1) hx hb dX5_methodsOf_22 (by decide) ?_
            refine lv_aload_n hx hb dX5_methodsOf_23 rfl (lv_at hl 0 rfl) ?_
            refine va_get (D := D) (ci := 5) (v := .ref (ad 21)) (C := RX5) (T := TX5) (N := 27) hx hb ht inX5 hown hK hP 0 g_Md rfl 25 (by decide) (ht _ mw_598) (fun _ h9 => h9) rfl dX5_methodsOf_24 ?_
            refine lv_iload hx hb dX5_methodsOf_27 (lv_at hl 4 rfl) ?_
            refine va_iald (i := nI i105) hx hb hK hP 21 0 g_m_chosen rfl (vp_in_nI (by omega) (by decide)) dX5_methodsOf_29 ?_
            rw [nI_clamp (n := i105) (by omega)]
            refine lv_ishl hx hb dX5_methodsOf_30 ?_
            refine lv_ior hx hb dX5_methodsOf_31 ?_
            refine lv_goto (tgt := 36) hx hb dX5_methodsOf_32 (by decide) ?_
            exact Ky2 (x5_3 ||| ((1 : Int32) <<< ((gA σ 21 i105) &&& 31))) hVy2 _ _ hP hD hS
        · intro H locs hP hD hS
          rw [← hy_y2, vb_eq] at hT
          refine lv_istore_n (lv' := [(3, .int y2), (0, .ref (ad 0)), (1, .int p1), (2, .int p2), (4, .int (nI i105))]) hx hb dX5_methodsOf_36 rfl hl (by decide) rfl (fun ls hl => ?_)
          refine lv_iinc (v := nI (i105 + 1)) (lv' := [(4, .int (nI (i105 + 1))), (3, .int y2), (0, .ref (ad 0)), (1, .int p1), (2, .int p2)]) hx hb dX5_methodsOf_37 hl (k := 4) rfl (nI_1 i105) (by decide) rfl (fun ls hl => ?_)
          refine lv_goto (tgt := 5) hx hb dX5_methodsOf_40 (by decide) ?_
          exact ih  (i105 + 1) y2 _ _ ls h_lt (by omega) hP hD hS (lv_sub hl [2, 3, 4, 1, 0] rfl) hT
  rw [M_m_methodsOf] at hT
  refine lv_iconst (v := 0) hx hb dX5_methodsOf_0 (by decide) ?_
  refine lv_istore_n (lv' := [(3, .int 0), (0, .ref (ad 0)), (1, .int p1), (2, .int p2)]) hx hb dX5_methodsOf_1 rfl hl (by decide) rfl (fun ls hl => ?_)
  refine lv_iconst (v := 0) hx hb dX5_methodsOf_2 (by decide) ?_
  refine lv_istore (lv' := [(4, .int 0), (3, .int 0), (0, .ref (ad 0)), (1, .int p1), (2, .int p2)]) hx hb dX5_methodsOf_3 hl (by decide) rfl (fun ls hl => ?_)
  exact L_5 11 0 0 _ _ ls (Nat.zero_le _) (by decide) hP hD hS (lv_sub hl [2, 3, 4, 1, 0] rfl) hT
set_option maxHeartbeats 4000000 in
set_option maxRecDepth 100000 in
theorem k_m_closed (l : Launch) (D : va_G) (ad : Nat → Nat) (kk : Nat → ClassId) (sz : Nat) (σ : St) (p1 : Int32) (hI : IM σ) : Met l yX5_closed wsX5_closed { frames := 1, cells := 0, slots := 0, locals := 25 } (va_Pc [.ref (ad 0), .int p1] (PM D ad kk sz σ)) (va_Qi (fun r u => r = M_m_closed σ p1 ∧ u = σ) (QM D ad kk sz) (aL 23 ad sz)) 0 0 (aL 23 ad sz) := by
  refine Met.ofW (cc := cX5_closed) (maxL := 6) (ret := (some .int)) (by decide) rfl ?_
  intro p e s m args below meth c s₁ B hml hv
  obtain ⟨rfl, hsz, hP, hK, hD0⟩ := hv
  have hx := B.exec
  have hb := B.bytes
  have hr := B.returns
  have hts := atoms_spec (ws := wsX5_closed) B.pre
  have hown : s.vm.findClass RX5 = some m.cls := findClass_of_methodNamed B.named
  have hlocks := B.notSynchronized
  subst hsz
  have hD : va_D (aL 23 ad s.heap.size) (wM ad kk σ) := aL_D hD0
  have hS : va_S (aL 23 ad s.heap.size) s.heap s.heap [] := va_S.rf
  have hl := lv_entry ([.ref (ad 0), .int p1]) (n := 6) (Nat.le_of_ble_eq_true rfl)
  rw [lg_entry_eq]
  generalize (lg_sl ([.ref (ad 0), .int p1]) ++ List.replicate (6 - (lg_sl ([.ref (ad 0), .int p1])).length) Slot.unset).toArray = ls at hl ⊢
  have hl : lv_has ls 6 [(0, .ref (ad 0)), (1, .int p1)] := hl
  have CF : CallFix p m c cX5_closed 6 s ([.ref (ad 0), .int p1] : List Value).toArray wsX5_closed RX5 := ⟨hx, hb, hml, hown, hts⟩
  have ht : ∀ w ∈ T0, w.before ([.ref (ad 0), .int p1] : List Value).toArray s = true := fun w h => hts w (List.mem_cons_of_mem _ h)
  generalize hT : M_m_closed σ p1 = T
  refine namedQ (fun Q eQ => ?_)
  have I_13 : ∀ (n i113 : Nat) (z13_3 : Int32) (x13_2 : Int32) (H : Heap) (locs : List Loc) (ls : Array Slot) (V : Int32), i113 ≤ 144 → 145 ≤ i113 + n → va_P D vwCl (wM ad kk σ) H → va_D (aL 23 ad s.heap.size) (wM ad kk σ) → va_S (aL 23 ad s.heap.size) s.heap H locs → lv_has ls 6 [(0, .ref (ad 0)), (1, .int p1), (2, .int x13_2), (3, .int z13_3), (4, .int (nI i113))] → M_m_closed_h13 n i113 x13_2 σ = V → (∀ (x13_2 : Int32) (H : Heap) (locs : List Loc) (ls : Array Slot), x13_2 = V → va_P D vwCl (wM ad kk σ) H → va_D (aL 23 ad s.heap.size) (wM ad kk σ) → va_S (aL 23 ad s.heap.size) s.heap H locs → lv_has ls 6 [(0, .ref (ad 0)), (1, .int p1), (2, .int x13_2), (3, .int z13_3)] → W p l e (headSpec wsX5_closed { frames := 1, cells := 0, slots := 0, locals := 25 }).room s m ([.ref (ad 0), .int p1] : List Value).toArray below meth c H locs 0 0 Q (F0 m 97 ls [])) → W p l e (headSpec wsX5_closed { frames := 1, cells := 0, slots := 0, locals := 25 }).room s m ([.ref (ad 0), .int p1] : List Value).toArray below meth c H locs 0 0 Q (F0 m 13 ls []) := by
    intro n
    induction n with
    | zero =>
      intro i113 z13_3 x13_2 H locs ls V h_le h_fu hP hD hS hl hT K
      exact absurd h_fu (by omega)
    | succ n ih =>
      intro i113 z13_3 x13_2 H locs ls V h_le h_fu hP hD hS hl hT K
      rw [M_m_closed_h13] at hT
      refine lv_iload hx hb dX5_closed_13 (lv_at hl 4 rfl) ?_
      refine lv_sipush (v := 144) hx hb dX5_closed_15 (by decide) ?_
      refine lv_icmp_ge (tgt := 97) hx hb dX5_closed_18 (by decide) (fun c2 => ?_) (fun c2 => ?_)
      · rw [if_pos c2] at hT
        exact K x13_2 H locs ls hT hP hD hS (lv_sub hl [0, 1, 2, 3] rfl)
      · rw [if_neg c2] at hT
        have h_lt := lp_lt (N := 144) (by decide) (by decide) h_le c2
        refine lv_iload_n hx hb dX5_closed_21 rfl (lv_at hl 2 rfl) ?_
        refine lv_iload hx hb dX5_closed_22 (lv_at hl 4 rfl) ?_
        refine lv_bipush (v := 12) hx hb dX5_closed_24 (by decide) ?_
        refine lv_idiv hx hb dX5_closed_26 (by decide) ?_
        refine lv_topE (pk_div (a := i113) (d := 12) (by omega) (by decide) (by decide)) ?_
        refine lv_ishr hx hb dX5_closed_27 ?_
        refine lv_iconst (v := 1) hx hb dX5_closed_28 (by decide) ?_
        refine lv_iand hx hb dX5_closed_29 ?_
        refine lv_iconst (v := 1) hx hb dX5_closed_30 (by decide) ?_
        refine jn (α := Int32) (E := (if ((x13_2 >>> ((nI (i113 / 12)) &&& 31)) &&& 1) = 1 then (if (gF σ 0 3) ≤ (nI (i113 / 12)) then 0 else (if (M_m_has σ (nI (i113 / 12)) 97 (nI (i113 % 12))) = 0 then 0 else 1)) else 0)) (Kp := fun y => ∀ (H : Heap) (locs : List Loc), va_P D vwCl (wM ad kk σ) H → va_D (aL 23 ad s.heap.size) (wM ad kk σ) → va_S (aL 23 ad s.heap.size) s.heap H locs → W p l e (headSpec wsX5_closed { frames := 1, cells := 0, slots := 0, locals := 25 }).room s m ([.ref (ad 0), .int p1] : List Value).toArray below meth c H locs 0 0 Q (F0 m 70 ls (.int y :: []))) (fun Vy3 hVy3 Ky3 => ?_) (fun y3 hy_y3 => ?_)
        · refine lv_icmp_ne (tgt := 69) hx hb dX5_closed_31 (by decide) (fun c4 => ?_) (fun c4 => ?_)
          · rw [if_neg c4] at hVy3
            refine lv_iconst (v := 0) hx hb dX5_closed_69 (by decide) ?_
            exact Ky3 0 hVy3 _ _ hP hD hS
          · rw [if_pos c4] at hVy3
            refine lv_iload hx hb dX5_closed_34 (lv_at hl 4 rfl) ?_
            refine lv_bipush (v := 12) hx hb dX5_closed_36 (by decide) ?_
            refine lv_idiv hx hb dX5_closed_38 (by decide) ?_
            refine lv_topE (pk_div (a := i113) (d := 12) (by omega) (by decide) (by decide)) ?_
            refine lv_aload_n hx hb dX5_closed_39 rfl (lv_at hl 0 rfl) ?_
            refine va_get (D := D) (ci := 5) (v := .int (gF σ 0 3)) (C := RX5) (T := TX5) (N := 27) hx hb ht inX5 hown hK hP 0 g_Md rfl 3 (by decide) (ht _ mw_576) (fun _ h9 => h9) rfl dX5_closed_40 ?_
            refine lv_icmp_ge (tgt := 69) hx hb dX5_closed_43 (by decide) (fun c5 => ?_) (fun c5 => ?_)
            · rw [if_pos c5] at hVy3
              refine lv_iconst (v := 0) hx hb dX5_closed_69 (by decide) ?_
              exact Ky3 0 hVy3 _ _ hP hD hS
            · rw [if_neg c5] at hVy3
              refine lv_aload_n hx hb dX5_closed_46 rfl (lv_at hl 0 rfl) ?_
              refine lv_iload hx hb dX5_closed_47 (lv_at hl 4 rfl) ?_
              refine lv_bipush (v := 12) hx hb dX5_closed_49 (by decide) ?_
              refine lv_idiv hx hb dX5_closed_51 (by decide) ?_
              refine lv_topE (pk_div (a := i113) (d := 12) (by omega) (by decide) (by decide)) ?_
              refine lv_bipush (v := 97) hx hb dX5_closed_52 (by decide) ?_
              refine lv_iload hx hb dX5_closed_54 (lv_at hl 4 rfl) ?_
              refine lv_bipush (v := 12) hx hb dX5_closed_56 (by decide) ?_
              refine lv_irem hx hb dX5_closed_58 (by decide) ?_
              refine lv_topE (pk_rem (a := i113) (d := 12) (by omega) (by decide) (by decide)) ?_
              refine kM_i (va_runV (As := [.int (nI (i113 / 12)), .int 97, .int (nI (i113 % 12))]) (rest := []) CF (k_m_has l D ad kk _ σ (nI (i113 / 12)) 97 (nI (i113 % 12)) (vp_in_nI (n := (i113 / 12)) (by omega) (by decide)) hI) ⟨callB_of 3 hts (gT mw_737) rfl rfl rfl (ht _ mw_6) (ht _ mw_734) (by decide +kernel) ⟨Nat.le_of_ble_eq_true rfl, Nat.le_of_ble_eq_true rfl⟩, (ht _ mw_736), (ht _ ms_30)⟩ (preV_M hK hP hD hS (ci := 5) rfl rfl g_Md) rfl rfl hl.1 rfl (lv_room (Nat.le_of_ble_eq_true rfl)) dX5_closed_59 ⟨Nat.le_of_ble_eq_true rfl, Nat.le_of_ble_eq_true rfl⟩) hS (fun r6 u9 H locs hw hP hD hS => ?_)
              obtain ⟨rfl, e9⟩ := hw
              rw [e9] at hP hD
              refine lv_if_eq (tgt := 69) hx hb dX5_closed_62 (by decide) (fun c7 => ?_) (fun c7 => ?_)
              · rw [if_pos c7] at hVy3
                refine lv_iconst (v := 0) hx hb dX5_closed_69 (by decide) ?_
                exact Ky3 0 hVy3 _ _ hP hD hS
              · rw [if_neg c7] at hVy3
                refine lv_iconst (v := 1) hx hb dX5_closed_65 (by decide) ?_
                refine lv_goto (tgt := 70) hx hb dX5_closed_66 (by decide) ?_
                exact Ky3 1 hVy3 _ _ hP hD hS
        · intro H locs hP hD hS
          rw [← hy_y3, vb_eq] at hT
          have b_y3 : y3 = 0 ∨ y3 = 1 := by rw [hy_y3]; (repeat' split) <;> first | exact Or.inl rfl | exact Or.inr rfl
          refine lv_istore (lv' := [(5, .int y3), (0, .ref (ad 0)), (1, .int p1), (2, .int x13_2), (3, .int z13_3), (4, .int (nI i113))]) hx hb dX5_closed_70 hl (by decide) rfl (fun ls hl => ?_)
          refine lv_iload hx hb dX5_closed_72 (lv_at hl 0 rfl) ?_
          refine jn (α := Int32) (E := (if y3 = 0 then x13_2 else (x13_2 ||| ((1 : Int32) <<< ((nI (i113 % 12)) &&& 31))))) (Kp := fun y => ∀ (H : Heap) (locs : List Loc), va_P D vwCl (wM ad kk σ) H → va_D (aL 23 ad s.heap.size) (wM ad kk σ) → va_S (aL 23 ad s.heap.size) s.heap H locs → W p l e (headSpec wsX5_closed { frames := 1, cells := 0, slots := 0, locals := 25 }).room s m ([.ref (ad 0), .int p1] : List Value).toArray below meth c H locs 0 0 Q (F0 m 90 ls (.int y :: []))) (fun Vy8 hVy8 Ky8 => ?_) (fun y8 hy_y8 => ?_)
          · refine lv_if_eq (tgt := 89) hx hb dX5_closed_74 (by decide) (fun c9 => ?_) (fun c9 => ?_)
            · rw [if_pos c9] at hVy8
              refine lv_iload_n hx hb dX5_closed_89 rfl (lv_at hl 3 rfl) ?_
              exact Ky8 x13_2 hVy8 _ _ hP hD hS
            · rw [if_neg c9] at hVy8
              refine lv_iload_n hx hb dX5_closed_77 rfl (lv_at hl 3 rfl) ?_
              refine lv_iconst (v := 1) hx hb dX5_closed_78 (by decide) ?_
              refine lv_iload hx hb dX5_closed_79 (lv_at hl 5 rfl) ?_
              refine lv_bipush (v := 12) hx hb dX5_closed_81 (by decide) ?_
              refine lv_irem hx hb dX5_closed_83 (by decide) ?_
              refine lv_topE (pk_rem (a := i113) (d := 12) (by omega) (by decide) (by decide)) ?_
              refine lv_ishl hx hb dX5_closed_84 ?_
              refine lv_ior hx hb dX5_closed_85 ?_
              refine lv_goto (tgt := 90) hx hb dX5_closed_86 (by decide) ?_
              exact Ky8 (x13_2 ||| ((1 : Int32) <<< ((nI (i113 % 12)) &&& 31))) hVy8 _ _ hP hD hS
          · intro H locs hP hD hS
            rw [← hy_y8, vb_eq] at hT
            refine lv_istore_n (lv' := [(2, .int y8), (5, .int y3), (0, .ref (ad 0)), (1, .int p1), (3, .int z13_3), (4, .int (nI i113))]) hx hb dX5_closed_90 rfl hl (by decide) rfl (fun ls hl => ?_)
            refine lv_iinc (v := nI (i113 + 1)) (lv' := [(4, .int (nI (i113 + 1))), (2, .int y8), (5, .int y3), (0, .ref (ad 0)), (1, .int p1), (3, .int z13_3)]) hx hb dX5_closed_91 hl (k := 5) rfl (nI_1 i113) (by decide) rfl (fun ls hl => ?_)
            refine lv_goto (tgt := 13) hx hb dX5_closed_94 (by decide) ?_
            exact ih  (i113 + 1) z13_3 y8 _ _ ls V h_lt (by omega) hP hD hS (lv_sub hl [3, 4, 1, 5, 0] rfl) hT K
  have L_4 : ∀ (n i104 : Nat) (x4_2 : Int32) (H : Heap) (locs : List Loc) (ls : Array Slot), i104 ≤ 12 → 13 ≤ i104 + n → va_P D vwCl (wM ad kk σ) H → va_D (aL 23 ad s.heap.size) (wM ad kk σ) → va_S (aL 23 ad s.heap.size) s.heap H locs → lv_has ls 6 [(0, .ref (ad 0)), (1, .int p1), (2, .int x4_2), (3, .int (nI i104))] → M_m_closed_h4 n i104 x4_2 σ = T → W p l e (headSpec wsX5_closed { frames := 1, cells := 0, slots := 0, locals := 25 }).room s m ([.ref (ad 0), .int p1] : List Value).toArray below meth c H locs 0 0 Q (F0 m 4 ls []) := by
    intro n
    induction n with
    | zero =>
      intro i104 x4_2 H locs ls h_le h_fu hP hD hS hl hT
      exact absurd h_fu (by omega)
    | succ n ih =>
      intro i104 x4_2 H locs ls h_le h_fu hP hD hS hl hT
      rw [M_m_closed_h4] at hT
      refine lv_iload_n hx hb dX5_closed_4 rfl (lv_at hl 3 rfl) ?_
      refine lv_bipush (v := 12) hx hb dX5_closed_5 (by decide) ?_
      refine lv_icmp_ge (tgt := 103) hx hb dX5_closed_7 (by decide) (fun c1 => ?_) (fun c1 => ?_)
      · rw [if_pos c1] at hT
        refine lv_iload_n hx hb dX5_closed_103 rfl (lv_at hl 2 rfl) ?_
        rw [eQ]
        exact W.iret (v := x4_2) hx hb hr (fun t ht hW => ⟨⟨x4_2, σ, rfl, ⟨hT, rfl⟩, by rw [ht]; exact hP, va_K.moved hW.alike hK, hD⟩, hS.F ht⟩) hS.2.2 dX5_closed_104
      · rw [if_neg c1] at hT
        have h_lt := lp_lt (N := 12) (by decide) (by decide) h_le c1
        refine lv_iconst (v := 0) hx hb dX5_closed_10 (by decide) ?_
        refine lv_istore (lv' := [(4, .int 0), (0, .ref (ad 0)), (1, .int p1), (2, .int x4_2), (3, .int (nI i104))]) hx hb dX5_closed_11 hl (by decide) rfl (fun ls hl => ?_)
        refine I_13 145 0 (nI i104) x4_2 _ _ ls _ (Nat.zero_le _) (by decide) hP hD hS (lv_sub hl [1, 2, 3, 4, 0] rfl) rfl (fun y2 H locs ls hTi hP hD hS hl => ?_)
        rw [← hTi, vb_eq] at hT
        refine lv_iinc (v := nI (i104 + 1)) (lv' := [(3, .int (nI (i104 + 1))), (0, .ref (ad 0)), (1, .int p1), (2, .int y2)]) hx hb dX5_closed_97 hl (k := 3) rfl (nI_1 i104) (by decide) rfl (fun ls hl => ?_)
        refine lv_goto (tgt := 4) hx hb dX5_closed_100 (by decide) ?_
        exact ih  (i104 + 1) y2 _ _ ls h_lt (by omega) hP hD hS (lv_sub hl [1, 2, 3, 0] rfl) hT
  rw [M_m_closed] at hT
  refine lv_iload_n hx hb dX5_closed_0 rfl (lv_at hl 1 rfl) ?_
  refine lv_istore_n (lv' := [(2, .int p1), (0, .ref (ad 0)), (1, .int p1)]) hx hb dX5_closed_1 rfl hl (by decide) rfl (fun ls hl => ?_)
  refine lv_iconst (v := 0) hx hb dX5_closed_2 (by decide) ?_
  refine lv_istore_n (lv' := [(3, .int 0), (2, .int p1), (0, .ref (ad 0)), (1, .int p1)]) hx hb dX5_closed_3 rfl hl (by decide) rfl (fun ls hl => ?_)
  exact L_4 13 0 p1 _ _ ls (Nat.zero_le _) (by decide) hP hD hS (lv_sub hl [2, 3, 1, 0] rfl) hT
set_option maxHeartbeats 4000000 in
set_option maxRecDepth 100000 in
theorem k_m_done (l : Launch) (D : va_G) (ad : Nat → Nat) (kk : Nat → ClassId) (sz : Nat) (σ : St) (p1 : Int32) (p2 : Int32) (p3 : Int32) (p4 : Int32) (p5 : Int32) (hI : IM σ) : Met l yX5_done wsX5_done { frames := 3, cells := 0, slots := 0, locals := 76 } (va_Pc [.ref (ad 0), .int p1, .int p2, .int p3, .int p4, .int p5] (PM D ad kk sz σ)) (va_Qi (fun r u => (r, u) = M_m_done σ p1 p2 p3 p4 p5) (QM D ad kk sz) (aL 23 ad sz)) 0 0 (aL 23 ad sz) := by
  refine Met.ofW (cc := cX5_done) (maxL := 12) (ret := (some .int)) (by decide) rfl ?_
  intro p e s m args below meth c s₁ B hml hv
  obtain ⟨rfl, hsz, hP, hK, hD0⟩ := hv
  have hx := B.exec
  have hb := B.bytes
  have hr := B.returns
  have hts := atoms_spec (ws := wsX5_done) B.pre
  have hown : s.vm.findClass RX5 = some m.cls := findClass_of_methodNamed B.named
  have hlocks := B.notSynchronized
  subst hsz
  have hD : va_D (aL 23 ad s.heap.size) (wM ad kk σ) := aL_D hD0
  have hS : va_S (aL 23 ad s.heap.size) s.heap s.heap [] := va_S.rf
  have hl := lv_entry ([.ref (ad 0), .int p1, .int p2, .int p3, .int p4, .int p5]) (n := 12) (Nat.le_of_ble_eq_true rfl)
  rw [lg_entry_eq]
  generalize (lg_sl ([.ref (ad 0), .int p1, .int p2, .int p3, .int p4, .int p5]) ++ List.replicate (12 - (lg_sl ([.ref (ad 0), .int p1, .int p2, .int p3, .int p4, .int p5])).length) Slot.unset).toArray = ls at hl ⊢
  have hl : lv_has ls 12 [(0, .ref (ad 0)), (1, .int p1), (2, .int p2), (3, .int p3), (4, .int p4), (5, .int p5)] := hl
  have CF : CallFix p m c cX5_done 12 s ([.ref (ad 0), .int p1, .int p2, .int p3, .int p4, .int p5] : List Value).toArray wsX5_done RX5 := ⟨hx, hb, hml, hown, hts⟩
  have ht : ∀ w ∈ T0, w.before ([.ref (ad 0), .int p1, .int p2, .int p3, .int p4, .int p5] : List Value).toArray s = true := fun w h => hts w (List.mem_cons_of_mem _ h)
  generalize hT : M_m_done σ p1 p2 p3 p4 p5 = T
  refine namedQ (fun Q eQ => ?_)
  have L_198 : ∀ (n i298 : Nat) (x198_7 : Int32) (x198_10 : Int32) (τ198 : St) (H : Heap) (locs : List Loc) (ls : Array Slot), i298 ≤ 12 → 13 ≤ i298 + n → IM τ198 → vp_in p2 12 → vp_in p1 10 → vp_in (30 * p1 + x198_7) 300 → va_P D vwCl (wM ad kk τ198) H → va_D (aL 23 ad s.heap.size) (wM ad kk τ198) → va_S (aL 23 ad s.heap.size) s.heap H locs → lv_has ls 12 [(0, .ref (ad 0)), (1, .int p1), (2, .int p2), (3, .int p3), (4, .int p4), (5, .int p5), (7, .int x198_7), (10, .int x198_10), (11, .int (nI i298))] → M_m_done_h198 n i298 x198_7 x198_10 τ198 p4 p1 p2 p5 p3 = T → W p l e (headSpec wsX5_done { frames := 3, cells := 0, slots := 0, locals := 76 }).room s m ([.ref (ad 0), .int p1, .int p2, .int p3, .int p4, .int p5] : List Value).toArray below meth c H locs 0 0 Q (F0 m 198 ls []) := by
    intro n
    induction n with
    | zero =>
      intro i298 x198_7 x198_10 τ198 H locs ls h_le h_fu hv0 hv1 hv2 hv3 hP hD hS hl hT
      exact absurd h_fu (by omega)
    | succ n ih =>
      intro i298 x198_7 x198_10 τ198 H locs ls h_le h_fu hv0 hv1 hv2 hv3 hP hD hS hl hT
      rw [M_m_done_h198] at hT
      refine lv_iload hx hb dX5_done_198 (lv_at hl 8 rfl) ?_
      refine lv_bipush (v := 12) hx hb dX5_done_200 (by decide) ?_
      refine lv_icmp_ge (tgt := 256) hx hb dX5_done_202 (by decide) (fun c29 => ?_) (fun c29 => ?_)
      · rw [if_pos c29] at hT
        refine lv_bipush (v := 30) hx hb dX5_done_256 (by decide) ?_
        refine lv_iload_n hx hb dX5_done_258 rfl (lv_at hl 1 rfl) ?_
        refine lv_imul hx hb dX5_done_259 ?_
        refine lv_iload hx hb dX5_done_260 (lv_at hl 6 rfl) ?_
        refine lv_iadd hx hb dX5_done_262 ?_
        refine lv_istore (lv' := [(11, .int ((30 * p1) + x198_7)), (0, .ref (ad 0)), (1, .int p1), (2, .int p2), (3, .int p3), (4, .int p4), (5, .int p5), (7, .int x198_7), (10, .int x198_10)]) hx hb dX5_done_263 hl (by decide) rfl (fun ls hl => ?_)
        refine lv_aload_n hx hb dX5_done_265 rfl (lv_at hl 1 rfl) ?_
        refine va_get (D := D) (ci := 5) (v := .ref (ad 11)) (C := RX5) (T := TX5) (N := 27) hx hb ht inX5 hown hK hP 0 g_Md rfl 14 (by decide) (ht _ mw_587) (fun _ h9 => h9) rfl dX5_done_266 ?_
        refine lv_iload hx hb dX5_done_269 (lv_at hl 0 rfl) ?_
        refine lv_iload_n hx hb dX5_done_271 rfl (lv_at hl 3 rfl) ?_
        refine va_iast (i := (30 * p1) + x198_7) (x := p2) hx hb hK hP hD hS 11 0 g_m_rowMethods rfl hv3 dX5_done_272 (fun H locs hP hD hS => ?_)
        rw [s_m_rowMethods] at hP hD
        refine lv_aload_n hx hb dX5_done_273 rfl (lv_at hl 1 rfl) ?_
        refine va_get (D := D) (ci := 5) (v := .ref (ad 12)) (C := RX5) (T := TX5) (N := 27) hx hb ht inX5 hown hK hP 0 g_Md rfl 15 (by decide) (ht _ mw_588) (fun _ h9 => h9) rfl dX5_done_274 ?_
        refine lv_iload hx hb dX5_done_277 (lv_at hl 0 rfl) ?_
        refine lv_iload hx hb dX5_done_279 (lv_at hl 6 rfl) ?_
        refine va_iast (i := (30 * p1) + x198_7) (x := p5) hx hb hK hP hD hS 12 0 g_m_rowHours rfl hv3 dX5_done_281 (fun H locs hP hD hS => ?_)
        rw [s_m_rowHours] at hP hD
        refine lv_aload_n hx hb dX5_done_282 rfl (lv_at hl 1 rfl) ?_
        refine va_get (D := D) (ci := 5) (v := .ref (ad 13)) (C := RX5) (T := TX5) (N := 27) hx hb ht inX5 hown hK hP 0 g_Md rfl 16 (by decide) (ht _ mw_589) (fun _ h9 => h9) rfl dX5_done_283 ?_
        refine lv_iload hx hb dX5_done_286 (lv_at hl 0 rfl) ?_
        refine lv_iload_n hx hb dX5_done_288 rfl (lv_at hl 4 rfl) ?_
        refine va_iast (i := (30 * p1) + x198_7) (x := p3) hx hb hK hP hD hS 13 0 g_m_rowPersons rfl hv3 dX5_done_289 (fun H locs hP hD hS => ?_)
        rw [s_m_rowPersons] at hP hD
        refine lv_aload_n hx hb dX5_done_290 rfl (lv_at hl 1 rfl) ?_
        refine va_get (D := D) (ci := 5) (v := .ref (ad 14)) (C := RX5) (T := TX5) (N := 27) hx hb ht inX5 hown hK hP 0 g_Md rfl 17 (by decide) (ht _ mw_590) (fun _ h9 => h9) rfl dX5_done_291 ?_
        refine lv_iload hx hb dX5_done_294 (lv_at hl 0 rfl) ?_
        refine lv_iload hx hb dX5_done_296 (lv_at hl 8 rfl) ?_
        refine jn (α := Int32) (E := (if x198_10 = 0 then (-1) else p4)) (Kp := fun y => ∀ (H : Heap) (locs : List Loc), va_P D vwCl (wM ad kk (sA (sA (sA τ198 11 ((30 * p1) + x198_7).toNatClampNeg p2) 12 ((30 * p1) + x198_7).toNatClampNeg p5) 13 ((30 * p1) + x198_7).toNatClampNeg p3)) H → va_D (aL 23 ad s.heap.size) (wM ad kk (sA (sA (sA τ198 11 ((30 * p1) + x198_7).toNatClampNeg p2) 12 ((30 * p1) + x198_7).toNatClampNeg p5) 13 ((30 * p1) + x198_7).toNatClampNeg p3)) → va_S (aL 23 ad s.heap.size) s.heap H locs → W p l e (headSpec wsX5_done { frames := 3, cells := 0, slots := 0, locals := 76 }).room s m ([.ref (ad 0), .int p1, .int p2, .int p3, .int p4, .int p5] : List Value).toArray below meth c H locs 0 0 Q (F0 m 307 ls (.int y :: .int ((30 * p1) + x198_7) :: .ref (ad 14) :: []))) (fun Vy30 hVy30 Ky30 => ?_) (fun y30 hy_y30 => ?_)
        · refine lv_if_eq (tgt := 306) hx hb dX5_done_298 (by decide) (fun c31 => ?_) (fun c31 => ?_)
          · rw [if_pos c31] at hVy30
            refine lv_iconst (v := (-1)) hx hb dX5_done_306 (by decide) ?_
            exact Ky30 (-1) hVy30 _ _ hP hD hS
          · rw [if_neg c31] at hVy30
            refine lv_iload hx hb dX5_done_301 (lv_at hl 5 rfl) ?_
            refine lv_goto (tgt := 307) hx hb dX5_done_303 (by decide) ?_
            exact Ky30 p4 hVy30 _ _ hP hD hS
        · intro H locs hP hD hS
          rw [← hy_y30, vb_eq] at hT
          refine va_iast (i := (30 * p1) + x198_7) (x := y30) hx hb hK hP hD hS 14 0 g_m_rowSeconds rfl hv3 dX5_done_307 (fun H locs hP hD hS => ?_)
          rw [s_m_rowSeconds] at hP hD
          refine lv_aload_n hx hb dX5_done_308 rfl (lv_at hl 1 rfl) ?_
          refine va_get (D := D) (ci := 5) (v := .ref (ad 10)) (C := RX5) (T := TX5) (N := 27) hx hb ht inX5 hown hK hP 0 g_Md rfl 13 (by decide) (ht _ mw_586) (fun _ h9 => h9) rfl dX5_done_309 ?_
          refine lv_iload_n hx hb dX5_done_312 rfl (lv_at hl 2 rfl) ?_
          refine lv_dup2_11 hx hb dX5_done_313 rfl rfl ?_
          refine va_iald (i := p1) hx hb hK hP 10 0 g_m_rows rfl hv2 dX5_done_314 ?_
          refine lv_iconst (v := 1) hx hb dX5_done_315 (by decide) ?_
          refine lv_iadd hx hb dX5_done_316 ?_
          refine va_iast (i := p1) (x := (gA (sA (sA (sA (sA τ198 11 ((30 * p1) + x198_7).toNatClampNeg p2) 12 ((30 * p1) + x198_7).toNatClampNeg p5) 13 ((30 * p1) + x198_7).toNatClampNeg p3) 14 ((30 * p1) + x198_7).toNatClampNeg y30) 10 p1.toNatClampNeg) + 1) hx hb hK hP hD hS 10 0 g_m_rows rfl hv2 dX5_done_317 (fun H locs hP hD hS => ?_)
          rw [s_m_rows] at hP hD
          refine lv_iconst (v := 0) hx hb dX5_done_318 (by decide) ?_
          rw [eQ]
          exact W.iret (v := 0) hx hb hr (fun t ht hW => ⟨⟨0, (sA (sA (sA (sA (sA τ198 11 ((30 * p1) + x198_7).toNatClampNeg p2) 12 ((30 * p1) + x198_7).toNatClampNeg p5) 13 ((30 * p1) + x198_7).toNatClampNeg p3) 14 ((30 * p1) + x198_7).toNatClampNeg y30) 10 p1.toNatClampNeg ((gA (sA (sA (sA (sA τ198 11 ((30 * p1) + x198_7).toNatClampNeg p2) 12 ((30 * p1) + x198_7).toNatClampNeg p5) 13 ((30 * p1) + x198_7).toNatClampNeg p3) 14 ((30 * p1) + x198_7).toNatClampNeg y30) 10 p1.toNatClampNeg) + 1)), rfl, hT, by rw [ht]; exact hP, va_K.moved hW.alike hK, hD⟩, hS.F ht⟩) hS.2.2 dX5_done_319
      · rw [if_neg c29] at hT
        have h_lt := lp_lt (N := 12) (by decide) (by decide) h_le c29
        refine lv_aload_n hx hb dX5_done_205 rfl (lv_at hl 0 rfl) ?_
        refine va_get (D := D) (ci := 5) (v := .ref (ad 15)) (C := RX5) (T := TX5) (N := 27) hx hb ht inX5 hown hK hP 0 g_Md rfl 18 (by decide) (ht _ mw_591) (fun _ h9 => h9) rfl dX5_done_206 ?_
        refine lv_iload hx hb dX5_done_209 (lv_at hl 8 rfl) ?_
        refine lv_aload_n hx hb dX5_done_211 rfl (lv_at hl 0 rfl) ?_
        refine va_get (D := D) (ci := 5) (v := .ref (ad 15)) (C := RX5) (T := TX5) (N := 27) hx hb ht inX5 hown hK hP 0 g_Md rfl 18 (by decide) (ht _ mw_591) (fun _ h9 => h9) rfl dX5_done_212 ?_
        refine lv_iload hx hb dX5_done_215 (lv_at hl 8 rfl) ?_
        refine va_iald (i := nI i298) hx hb hK hP 15 0 g_m_stocks rfl (vp_in_nI (by omega) (by decide)) dX5_done_217 ?_
        rw [nI_clamp (n := i298) (by omega)]
        refine lv_aload_n hx hb dX5_done_218 rfl (lv_at hl 0 rfl) ?_
        refine lv_iload_n hx hb dX5_done_219 rfl (lv_at hl 2 rfl) ?_
        refine lv_iload hx hb dX5_done_220 (lv_at hl 8 rfl) ?_
        refine kM_i (va_runV (As := [.int p2, .int (nI i298)]) (rest := [.int (gA τ198 15 i298), .int (nI i298), .ref (ad 15)]) CF (k_m_used l D ad kk _ τ198 p2 (nI i298) hv1 hv0) ⟨callB_of 2 hts (gT mw_697) rfl rfl rfl (ht _ mw_6) (ht _ mw_694) (by decide +kernel) ⟨Nat.le_of_ble_eq_true rfl, Nat.le_of_ble_eq_true rfl⟩, (ht _ mw_696), (ht _ ms_26)⟩ (preV_M hK hP hD hS (ci := 5) rfl rfl g_Md) rfl rfl hl.1 rfl (lv_room (Nat.le_of_ble_eq_true rfl)) dX5_done_222 ⟨Nat.le_of_ble_eq_true rfl, Nat.le_of_ble_eq_true rfl⟩) hS (fun r32 u9 H locs hw hP hD hS => ?_)
        obtain ⟨rfl, e9⟩ := hw
        rw [e9] at hP hD
        refine lv_isub hx hb dX5_done_225 ?_
        refine va_iast (i := nI i298) (x := (gA τ198 15 i298) - (M_m_used τ198 p2 (nI i298))) hx hb hK hP hD hS 15 0 g_m_stocks rfl (vp_in_nI (by omega) (by decide)) dX5_done_226 (fun H locs hP hD hS => ?_)
        rw [nI_clamp (n := i298) (by omega)] at hP hD
        rw [s_m_stocks] at hP hD
        refine lv_aload_n hx hb dX5_done_227 rfl (lv_at hl 0 rfl) ?_
        refine va_get (D := D) (ci := 5) (v := .ref (ad 17)) (C := RX5) (T := TX5) (N := 27) hx hb ht inX5 hown hK hP 0 g_Md rfl 20 (by decide) (ht _ mw_593) (fun _ h9 => h9) rfl dX5_done_228 ?_
        refine lv_iload hx hb dX5_done_231 (lv_at hl 8 rfl) ?_
        refine lv_aload_n hx hb dX5_done_233 rfl (lv_at hl 0 rfl) ?_
        refine va_get (D := D) (ci := 5) (v := .ref (ad 17)) (C := RX5) (T := TX5) (N := 27) hx hb ht inX5 hown hK hP 0 g_Md rfl 20 (by decide) (ht _ mw_593) (fun _ h9 => h9) rfl dX5_done_234 ?_
        refine lv_iload hx hb dX5_done_237 (lv_at hl 8 rfl) ?_
        refine va_lald (i := nI i298) hx hb hK hP 17 2 g_m_went rfl (vp_in_nI (by omega) (by decide)) dX5_done_239 ?_
        rw [nI_clamp (n := i298) (by omega)]
        refine lv_aload_n hx hb dX5_done_240 rfl (lv_at hl 0 rfl) ?_
        refine lv_iload_n hx hb dX5_done_241 rfl (lv_at hl 2 rfl) ?_
        refine lv_iload hx hb dX5_done_242 (lv_at hl 8 rfl) ?_
        refine kM_i (va_runV (As := [.int p2, .int (nI i298)]) (rest := [.long (gL (sA τ198 15 i298 ((gA τ198 15 i298) - (M_m_used τ198 p2 (nI i298)))) 17 i298), .int (nI i298), .ref (ad 17)]) CF (k_m_used l D ad kk _ (sA τ198 15 i298 ((gA τ198 15 i298) - (M_m_used τ198 p2 (nI i298)))) p2 (nI i298) hv1 (IM.k15 hv0)) ⟨callB_of 2 hts (gT mw_697) rfl rfl rfl (ht _ mw_6) (ht _ mw_694) (by decide +kernel) ⟨Nat.le_of_ble_eq_true rfl, Nat.le_of_ble_eq_true rfl⟩, (ht _ mw_696), (ht _ ms_26)⟩ (preV_M hK hP hD hS (ci := 5) rfl rfl g_Md) rfl rfl hl.1 rfl (lv_room (Nat.le_of_ble_eq_true rfl)) dX5_done_244 ⟨Nat.le_of_ble_eq_true rfl, Nat.le_of_ble_eq_true rfl⟩) hS (fun r33 u9 H locs hw hP hD hS => ?_)
        obtain ⟨rfl, e9⟩ := hw
        rw [e9] at hP hD
        refine lv_i2l hx hb dX5_done_247 rfl ?_
        refine lv_ladd hx hb dX5_done_248 ?_
        refine va_last (i := nI i298) (x := (gL (sA τ198 15 i298 ((gA τ198 15 i298) - (M_m_used τ198 p2 (nI i298)))) 17 i298) + ((M_m_used (sA τ198 15 i298 ((gA τ198 15 i298) - (M_m_used τ198 p2 (nI i298)))) p2 (nI i298)).toInt64)) hx hb hK hP hD hS 17 2 g_m_went rfl (vp_in_nI (by omega) (by decide)) dX5_done_249 (fun H locs hP hD hS => ?_)
        rw [nI_clamp (n := i298) (by omega)] at hP hD
        rw [s_m_went] at hP hD
        refine lv_iinc (v := nI (i298 + 1)) (lv' := [(11, .int (nI (i298 + 1))), (0, .ref (ad 0)), (1, .int p1), (2, .int p2), (3, .int p3), (4, .int p4), (5, .int p5), (7, .int x198_7), (10, .int x198_10)]) hx hb dX5_done_250 hl (k := 8) rfl (nI_1 i298) (by decide) rfl (fun ls hl => ?_)
        refine lv_goto (tgt := 198) hx hb dX5_done_253 (by decide) ?_
        exact ih  (i298 + 1) x198_7 x198_10 (sL (sA τ198 15 i298 ((gA τ198 15 i298) - (M_m_used τ198 p2 (nI i298)))) 17 i298 ((gL (sA τ198 15 i298 ((gA τ198 15 i298) - (M_m_used τ198 p2 (nI i298)))) 17 i298) + ((M_m_used (sA τ198 15 i298 ((gA τ198 15 i298) - (M_m_used τ198 p2 (nI i298)))) p2 (nI i298)).toInt64))) _ _ ls h_lt (by omega) (IM.kL (IM.k15 hv0)) hv1 hv2 hv3 hP hD hS (lv_sub hl [1, 2, 3, 4, 5, 6, 7, 8, 0] rfl) hT
  rw [M_m_done] at hT
  refine lv_aload_n hx hb dX5_done_0 rfl (lv_at hl 0 rfl) ?_
  refine lv_iload_n hx hb dX5_done_1 rfl (lv_at hl 1 rfl) ?_
  refine kM_i (va_runV (As := [.int p1]) (rest := []) CF (k_m_isObject l D ad kk _ σ p1) ⟨callB_of 1 hts (gT mw_709) rfl rfl rfl (ht _ mw_6) (ht _ mw_706) (by decide +kernel) ⟨Nat.le_of_ble_eq_true rfl, Nat.le_of_ble_eq_true rfl⟩, (ht _ mw_708), (ht _ ms_27)⟩ (preV_M hK hP hD hS (ci := 5) rfl rfl g_Md) rfl rfl hl.1 rfl (lv_room (Nat.le_of_ble_eq_true rfl)) dX5_done_2 ⟨Nat.le_of_ble_eq_true rfl, Nat.le_of_ble_eq_true rfl⟩) hS (fun r1 u9 H locs hw hP hD hS => ?_)
  obtain ⟨rfl, e9⟩ := hw
  rw [e9] at hP hD
  refine jn (α := Int32) (E := (if (M_m_isObject σ p1) = 0 then 0 else (if (M_m_isMethod σ p2) = 0 then 0 else (if (M_m_below p3 8) = 0 then 0 else (if (M_m_below p4 8) = 0 then 0 else 1))))) (Kp := fun y => ∀ (H : Heap) (locs : List Loc), va_P D vwCl (wM ad kk σ) H → va_D (aL 23 ad s.heap.size) (wM ad kk σ) → va_S (aL 23 ad s.heap.size) s.heap H locs → W p l e (headSpec wsX5_done { frames := 3, cells := 0, slots := 0, locals := 76 }).room s m ([.ref (ad 0), .int p1, .int p2, .int p3, .int p4, .int p5] : List Value).toArray below meth c H locs 0 0 Q (F0 m 40 ls (.int y :: []))) (fun Vy2 hVy2 Ky2 => ?_) (fun y2 hy_y2 => ?_)
  · refine lv_if_eq (tgt := 39) hx hb dX5_done_5 (by decide) (fun c3 => ?_) (fun c3 => ?_)
    · rw [if_pos c3] at hVy2
      refine lv_iconst (v := 0) hx hb dX5_done_39 (by decide) ?_
      exact Ky2 0 hVy2 _ _ hP hD hS
    · rw [if_neg c3] at hVy2
      refine lv_aload_n hx hb dX5_done_8 rfl (lv_at hl 0 rfl) ?_
      refine lv_iload_n hx hb dX5_done_9 rfl (lv_at hl 2 rfl) ?_
      refine kM_i (va_runV (As := [.int p2]) (rest := []) CF (k_m_isMethod l D ad kk _ σ p2) ⟨callB_of 1 hts (gT mw_690) rfl rfl rfl (ht _ mw_6) (ht _ mw_687) (by decide +kernel) ⟨Nat.le_of_ble_eq_true rfl, Nat.le_of_ble_eq_true rfl⟩, (ht _ mw_689), (ht _ ms_25)⟩ (preV_M hK hP hD hS (ci := 5) rfl rfl g_Md) rfl rfl hl.1 rfl (lv_room (Nat.le_of_ble_eq_true rfl)) dX5_done_10 ⟨Nat.le_of_ble_eq_true rfl, Nat.le_of_ble_eq_true rfl⟩) hS (fun r4 u9 H locs hw hP hD hS => ?_)
      obtain ⟨rfl, e9⟩ := hw
      rw [e9] at hP hD
      refine lv_if_eq (tgt := 39) hx hb dX5_done_13 (by decide) (fun c5 => ?_) (fun c5 => ?_)
      · rw [if_pos c5] at hVy2
        refine lv_iconst (v := 0) hx hb dX5_done_39 (by decide) ?_
        exact Ky2 0 hVy2 _ _ hP hD hS
      · rw [if_neg c5] at hVy2
        refine lv_iload_n hx hb dX5_done_16 rfl (lv_at hl 3 rfl) ?_
        refine lv_bipush (v := 8) hx hb dX5_done_17 (by decide) ?_
        refine vp_callSi (W.runS (As := [.int p3, .int 8]) (rest := []) CF (k_m_below l p3 8) ⟨callB_of 2 hts (gT mw_693) rfl rfl rfl (ht _ mw_6) (ht _ mw_691) (by decide +kernel) ⟨Nat.le_of_ble_eq_true rfl, Nat.le_of_ble_eq_true rfl⟩, (ht _ mw_692)⟩ preEq rfl rfl hl.1 rfl (lv_room (Nat.le_of_ble_eq_true rfl)) dX5_done_19 ⟨Nat.le_of_ble_eq_true rfl, Nat.le_of_ble_eq_true rfl⟩) (fun r6 h_r6 => ?_)
        obtain rfl := h_r6
        refine lv_if_eq (tgt := 39) hx hb dX5_done_22 (by decide) (fun c7 => ?_) (fun c7 => ?_)
        · rw [if_pos c7] at hVy2
          refine lv_iconst (v := 0) hx hb dX5_done_39 (by decide) ?_
          exact Ky2 0 hVy2 _ _ hP hD hS
        · rw [if_neg c7] at hVy2
          refine lv_iload hx hb dX5_done_25 (lv_at hl 4 rfl) ?_
          refine lv_bipush (v := 8) hx hb dX5_done_27 (by decide) ?_
          refine vp_callSi (W.runS (As := [.int p4, .int 8]) (rest := []) CF (k_m_below l p4 8) ⟨callB_of 2 hts (gT mw_693) rfl rfl rfl (ht _ mw_6) (ht _ mw_691) (by decide +kernel) ⟨Nat.le_of_ble_eq_true rfl, Nat.le_of_ble_eq_true rfl⟩, (ht _ mw_692)⟩ preEq rfl rfl hl.1 rfl (lv_room (Nat.le_of_ble_eq_true rfl)) dX5_done_29 ⟨Nat.le_of_ble_eq_true rfl, Nat.le_of_ble_eq_true rfl⟩) (fun r8 h_r8 => ?_)
          obtain rfl := h_r8
          refine lv_if_eq (tgt := 39) hx hb dX5_done_32 (by decide) (fun c9 => ?_) (fun c9 => ?_)
          · rw [if_pos c9] at hVy2
            refine lv_iconst (v := 0) hx hb dX5_done_39 (by decide) ?_
            exact Ky2 0 hVy2 _ _ hP hD hS
          · rw [if_neg c9] at hVy2
            refine lv_iconst (v := 1) hx hb dX5_done_35 (by decide) ?_
            refine lv_goto (tgt := 40) hx hb dX5_done_36 (by decide) ?_
            exact Ky2 1 hVy2 _ _ hP hD hS
  · intro H locs hP hD hS
    rw [← hy_y2, vb_eq] at hT
    have h1 := hy_y2
    have b_y2 : y2 = 0 ∨ y2 = 1 := by rw [hy_y2]; (repeat' split) <;> first | exact Or.inl rfl | exact Or.inr rfl
    refine lv_istore (lv' := [(6, .int y2), (0, .ref (ad 0)), (1, .int p1), (2, .int p2), (3, .int p3), (4, .int p4), (5, .int p5)]) hx hb dX5_done_40 hl (by decide) rfl (fun ls hl => ?_)
    refine lv_iload hx hb dX5_done_42 (lv_at hl 0 rfl) ?_
    refine jn (α := Int32) (E := (if y2 = 0 then 0 else (gA σ 10 p1.toNatClampNeg))) (Kp := fun y => ∀ (H : Heap) (locs : List Loc), va_P D vwCl (wM ad kk σ) H → va_D (aL 23 ad s.heap.size) (wM ad kk σ) → va_S (aL 23 ad s.heap.size) s.heap H locs → W p l e (headSpec wsX5_done { frames := 3, cells := 0, slots := 0, locals := 76 }).room s m ([.ref (ad 0), .int p1, .int p2, .int p3, .int p4, .int p5] : List Value).toArray below meth c H locs 0 0 Q (F0 m 57 ls (.int y :: []))) (fun Vy10 hVy10 Ky10 => ?_) (fun y10 hy_y10 => ?_)
    · refine lv_if_eq (tgt := 56) hx hb dX5_done_44 (by decide) (fun c11 => ?_) (fun c11 => ?_)
      · rw [if_pos c11] at hVy10
        refine lv_iconst (v := 0) hx hb dX5_done_56 (by decide) ?_
        exact Ky10 0 hVy10 _ _ hP hD hS
      · rw [if_neg c11] at hVy10
        have hk := and4 h1 c11
        refine lv_aload_n hx hb dX5_done_47 rfl (lv_at hl 1 rfl) ?_
        refine va_get (D := D) (ci := 5) (v := .ref (ad 10)) (C := RX5) (T := TX5) (N := 27) hx hb ht inX5 hown hK hP 0 g_Md rfl 13 (by decide) (ht _ mw_586) (fun _ h9 => h9) rfl dX5_done_48 ?_
        refine lv_iload_n hx hb dX5_done_51 rfl (lv_at hl 2 rfl) ?_
        refine va_iald (i := p1) hx hb hK hP 10 0 g_m_rows rfl (isO_in hI hk.1) dX5_done_52 ?_
        refine lv_goto (tgt := 57) hx hb dX5_done_53 (by decide) ?_
        exact Ky10 (gA σ 10 p1.toNatClampNeg) hVy10 _ _ hP hD hS
    · intro H locs hP hD hS
      rw [← hy_y10, vb_eq] at hT
      have h2 := hy_y10
      refine lv_istore (lv' := [(7, .int y10), (6, .int y2), (0, .ref (ad 0)), (1, .int p1), (2, .int p2), (3, .int p3), (4, .int p4), (5, .int p5)]) hx hb dX5_done_57 hl (by decide) rfl (fun ls hl => ?_)
      refine lv_iload hx hb dX5_done_59 (lv_at hl 1 rfl) ?_
      refine jn (α := Int32) (E := (if y2 = 0 then 0 else (if y10 = 0 then 1 else (if p5 < (gA σ 12 (((30 * p1) + y10) - 1).toNatClampNeg) then 0 else 1)))) (Kp := fun y => ∀ (H : Heap) (locs : List Loc), va_P D vwCl (wM ad kk σ) H → va_D (aL 23 ad s.heap.size) (wM ad kk σ) → va_S (aL 23 ad s.heap.size) s.heap H locs → W p l e (headSpec wsX5_done { frames := 3, cells := 0, slots := 0, locals := 76 }).room s m ([.ref (ad 0), .int p1, .int p2, .int p3, .int p4, .int p5] : List Value).toArray below meth c H locs 0 0 Q (F0 m 93 ls (.int y :: []))) (fun Vy12 hVy12 Ky12 => ?_) (fun y12 hy_y12 => ?_)
      · refine lv_if_eq (tgt := 92) hx hb dX5_done_61 (by decide) (fun c13 => ?_) (fun c13 => ?_)
        · rw [if_pos c13] at hVy12
          refine lv_iconst (v := 0) hx hb dX5_done_92 (by decide) ?_
          exact Ky12 0 hVy12 _ _ hP hD hS
        · rw [if_neg c13] at hVy12
          have hk := and4 h1 c13
          have hky := c13
          refine lv_iload hx hb dX5_done_64 (lv_at hl 0 rfl) ?_
          refine lv_if_eq (tgt := 88) hx hb dX5_done_66 (by decide) (fun c14 => ?_) (fun c14 => ?_)
          · rw [if_pos c14] at hVy12
            refine lv_iconst (v := 1) hx hb dX5_done_88 (by decide) ?_
            refine lv_goto (tgt := 93) hx hb dX5_done_89 (by decide) ?_
            exact Ky12 1 hVy12 _ _ hP hD hS
          · rw [if_neg c14] at hVy12
            have hn0 := c14
            refine lv_iload hx hb dX5_done_69 (lv_at hl 7 rfl) ?_
            refine lv_aload_n hx hb dX5_done_71 rfl (lv_at hl 2 rfl) ?_
            refine va_get (D := D) (ci := 5) (v := .ref (ad 12)) (C := RX5) (T := TX5) (N := 27) hx hb ht inX5 hown hK hP 0 g_Md rfl 15 (by decide) (ht _ mw_588) (fun _ h9 => h9) rfl dX5_done_72 ?_
            refine lv_bipush (v := 30) hx hb dX5_done_75 (by decide) ?_
            refine lv_iload_n hx hb dX5_done_77 rfl (lv_at hl 3 rfl) ?_
            refine lv_imul hx hb dX5_done_78 ?_
            refine lv_iload hx hb dX5_done_79 (lv_at hl 0 rfl) ?_
            refine lv_iadd hx hb dX5_done_81 ?_
            refine lv_iconst (v := 1) hx hb dX5_done_82 (by decide) ?_
            refine lv_isub hx hb dX5_done_83 ?_
            refine va_iald (i := ((30 * p1) + y10) - 1) hx hb hK hP 12 0 g_m_rowHours rfl (late_in hI hk.1 h2 hky hn0) dX5_done_84 ?_
            refine lv_icmp_lt (tgt := 92) hx hb dX5_done_85 (by decide) (fun c15 => ?_) (fun c15 => ?_)
            · rw [if_pos c15] at hVy12
              refine lv_iconst (v := 0) hx hb dX5_done_92 (by decide) ?_
              exact Ky12 0 hVy12 _ _ hP hD hS
            · rw [if_neg c15] at hVy12
              refine lv_iconst (v := 1) hx hb dX5_done_88 (by decide) ?_
              refine lv_goto (tgt := 93) hx hb dX5_done_89 (by decide) ?_
              exact Ky12 1 hVy12 _ _ hP hD hS
      · intro H locs hP hD hS
        rw [← hy_y12, vb_eq] at hT
        have b_y12 : y12 = 0 ∨ y12 = 1 := by rw [hy_y12]; (repeat' split) <;> first | exact Or.inl rfl | exact Or.inr rfl
        refine lv_istore (lv' := [(8, .int y12), (7, .int y10), (6, .int y2), (0, .ref (ad 0)), (1, .int p1), (2, .int p2), (3, .int p3), (4, .int p4), (5, .int p5)]) hx hb dX5_done_93 hl (by decide) rfl (fun ls hl => ?_)
        refine lv_aload_n hx hb dX5_done_95 rfl (lv_at hl 3 rfl) ?_
        refine lv_iload hx hb dX5_done_96 (lv_at hl 2 rfl) ?_
        refine lv_iload hx hb dX5_done_98 (lv_at hl 1 rfl) ?_
        refine lv_bipush (v := 30) hx hb dX5_done_100 (by decide) ?_
        refine jn (α := Int32) (E := (if 30 ≤ y10 then 0 else 1)) (Kp := fun y => ∀ (H : Heap) (locs : List Loc), va_P D vwCl (wM ad kk σ) H → va_D (aL 23 ad s.heap.size) (wM ad kk σ) → va_S (aL 23 ad s.heap.size) s.heap H locs → W p l e (headSpec wsX5_done { frames := 3, cells := 0, slots := 0, locals := 76 }).room s m ([.ref (ad 0), .int p1, .int p2, .int p3, .int p4, .int p5] : List Value).toArray below meth c H locs 0 0 Q (F0 m 110 ls (.int y :: .int y2 :: .ref (ad 0) :: []))) (fun Vy16 hVy16 Ky16 => ?_) (fun y16 hy_y16 => ?_)
        · refine lv_icmp_ge (tgt := 109) hx hb dX5_done_102 (by decide) (fun c17 => ?_) (fun c17 => ?_)
          · rw [if_pos c17] at hVy16
            refine lv_iconst (v := 0) hx hb dX5_done_109 (by decide) ?_
            exact Ky16 0 hVy16 _ _ hP hD hS
          · rw [if_neg c17] at hVy16
            refine lv_iconst (v := 1) hx hb dX5_done_105 (by decide) ?_
            refine lv_goto (tgt := 110) hx hb dX5_done_106 (by decide) ?_
            exact Ky16 1 hVy16 _ _ hP hD hS
        · intro H locs hP hD hS
          rw [← hy_y16, vb_eq] at hT
          have h3 := hy_y16
          have b_y16 : y16 = 0 ∨ y16 = 1 := by rw [hy_y16]; (repeat' split) <;> first | exact Or.inl rfl | exact Or.inr rfl
          refine lv_iload hx hb dX5_done_110 (lv_at hl 8 rfl) ?_
          refine vp_callSi (W.runS (As := [.int p5]) (rest := [.int y16, .int y2, .ref (ad 0)]) CF (k_m_isHour l p5) ⟨callB_of 1 hts (gT mw_724) rfl rfl rfl (ht _ mw_6) (ht _ mw_722) (by decide +kernel) ⟨Nat.le_of_ble_eq_true rfl, Nat.le_of_ble_eq_true rfl⟩, (ht _ mw_723)⟩ preEq rfl rfl hl.1 rfl (lv_room (Nat.le_of_ble_eq_true rfl)) dX5_done_112 ⟨Nat.le_of_ble_eq_true rfl, Nat.le_of_ble_eq_true rfl⟩) (fun r18 h_r18 => ?_)
          obtain rfl := h_r18
          refine jn (α := Int32) (E := (if (M_m_isHour p5) = 0 then 0 else (if y12 = 0 then 0 else 1))) (Kp := fun y => ∀ (H : Heap) (locs : List Loc), va_P D vwCl (wM ad kk σ) H → va_D (aL 23 ad s.heap.size) (wM ad kk σ) → va_S (aL 23 ad s.heap.size) s.heap H locs → W p l e (headSpec wsX5_done { frames := 3, cells := 0, slots := 0, locals := 76 }).room s m ([.ref (ad 0), .int p1, .int p2, .int p3, .int p4, .int p5] : List Value).toArray below meth c H locs 0 0 Q (F0 m 128 ls (.int y :: .int y16 :: .int y2 :: .ref (ad 0) :: []))) (fun Vy19 hVy19 Ky19 => ?_) (fun y19 hy_y19 => ?_)
          · refine lv_if_eq (tgt := 127) hx hb dX5_done_115 (by decide) (fun c20 => ?_) (fun c20 => ?_)
            · rw [if_pos c20] at hVy19
              refine lv_iconst (v := 0) hx hb dX5_done_127 (by decide) ?_
              exact Ky19 0 hVy19 _ _ hP hD hS
            · rw [if_neg c20] at hVy19
              refine lv_iload hx hb dX5_done_118 (lv_at hl 0 rfl) ?_
              refine lv_if_eq (tgt := 127) hx hb dX5_done_120 (by decide) (fun c21 => ?_) (fun c21 => ?_)
              · rw [if_pos c21] at hVy19
                refine lv_iconst (v := 0) hx hb dX5_done_127 (by decide) ?_
                exact Ky19 0 hVy19 _ _ hP hD hS
              · rw [if_neg c21] at hVy19
                refine lv_iconst (v := 1) hx hb dX5_done_123 (by decide) ?_
                refine lv_goto (tgt := 128) hx hb dX5_done_124 (by decide) ?_
                exact Ky19 1 hVy19 _ _ hP hD hS
          · intro H locs hP hD hS
            rw [← hy_y19, vb_eq] at hT
            have b_y19 : y19 = 0 ∨ y19 = 1 := by rw [hy_y19]; (repeat' split) <;> first | exact Or.inl rfl | exact Or.inr rfl
            refine kM_i (va_runV (As := [.int y2, .int y16, .int y19]) (rest := []) CF (k_m_goes l D ad kk _ σ y2 y16 y19) ⟨callB_of 3 hts (gT mw_668) rfl rfl rfl (ht _ mw_6) (ht _ mw_665) (by decide +kernel) ⟨Nat.le_of_ble_eq_true rfl, Nat.le_of_ble_eq_true rfl⟩, (ht _ mw_667), (ht _ ms_23)⟩ (preV_M hK hP hD hS (ci := 5) rfl rfl g_Md) rfl rfl hl.1 rfl (lv_room (Nat.le_of_ble_eq_true rfl)) dX5_done_128 ⟨Nat.le_of_ble_eq_true rfl, Nat.le_of_ble_eq_true rfl⟩) hS (fun r22 σ23 H locs hw hP hD hS => ?_)
            rw [← hw, pb_mk] at hT
            have h_r22 := hw
            have hg := h_r22
            have hI1 := IM.goes hI h_r22
            refine lv_if_ne (tgt := 136) hx hb dX5_done_131 (by decide) (fun c24 => ?_) (fun c24 => ?_)
            · rw [if_neg c24] at hT
              have hok := goes_ok hg c24
              have hv := and4 h1 hok.1
              refine lv_aload_n hx hb dX5_done_136 rfl (lv_at hl 3 rfl) ?_
              refine lv_iload_n hx hb dX5_done_137 rfl (lv_at hl 4 rfl) ?_
              refine lv_iload_n hx hb dX5_done_138 rfl (lv_at hl 5 rfl) ?_
              refine lv_iload_n hx hb dX5_done_139 rfl (lv_at hl 6 rfl) ?_
              refine lv_iload hx hb dX5_done_140 (lv_at hl 8 rfl) ?_
              refine kM_i (va_runV (As := [.int p1, .int p2, .int p3, .int p5]) (rest := []) CF (k_m_why l D ad kk _ σ23 p1 p2 p3 p5 (isO_in hI hv.1) (isM_in hI hv.2.1) (below_in (N := 8) hv.2.2.1 (by decide)) hI1) ⟨callB_of 4 hts (gT mw_729) rfl rfl rfl (ht _ mw_6) (ht _ mw_726) (by decide +kernel) ⟨Nat.le_of_ble_eq_true rfl, Nat.le_of_ble_eq_true rfl⟩, (ht _ mw_728), (ht _ ms_28)⟩ (preV_M hK hP hD hS (ci := 5) rfl rfl g_Md) rfl rfl hl.1 rfl (lv_room (Nat.le_of_ble_eq_true rfl)) dX5_done_142 ⟨Nat.le_of_ble_eq_true rfl, Nat.le_of_ble_eq_true rfl⟩) hS (fun r25 u9 H locs hw hP hD hS => ?_)
              obtain ⟨rfl, e9⟩ := hw
              rw [e9] at hP hD
              refine lv_istore (lv' := [(9, .int (M_m_why σ23 p1 p2 p3 p5)), (8, .int y12), (7, .int y10), (6, .int y2), (0, .ref (ad 0)), (1, .int p1), (2, .int p2), (3, .int p3), (4, .int p4), (5, .int p5)]) hx hb dX5_done_145 hl (by decide) rfl (fun ls hl => ?_)
              refine lv_aload_n hx hb dX5_done_147 rfl (lv_at hl 4 rfl) ?_
              refine lv_iload_n hx hb dX5_done_148 rfl (lv_at hl 6 rfl) ?_
              refine lv_bipush (v := 105) hx hb dX5_done_149 (by decide) ?_
              refine lv_iconst (v := (-1)) hx hb dX5_done_151 (by decide) ?_
              refine kM_i (va_runV (As := [.int p2, .int 105, .int (-1)]) (rest := []) CF (k_m_has l D ad kk _ σ23 p2 105 (-1) (isM_in hI hv.2.1) hI1) ⟨callB_of 3 hts (gT mw_737) rfl rfl rfl (ht _ mw_6) (ht _ mw_734) (by decide +kernel) ⟨Nat.le_of_ble_eq_true rfl, Nat.le_of_ble_eq_true rfl⟩, (ht _ mw_736), (ht _ ms_30)⟩ (preV_M hK hP hD hS (ci := 5) rfl rfl g_Md) rfl rfl hl.1 rfl (lv_room (Nat.le_of_ble_eq_true rfl)) dX5_done_152 ⟨Nat.le_of_ble_eq_true rfl, Nat.le_of_ble_eq_true rfl⟩) hS (fun r26 u9 H locs hw hP hD hS => ?_)
              obtain ⟨rfl, e9⟩ := hw
              rw [e9] at hP hD
              refine lv_istore (lv' := [(10, .int (M_m_has σ23 p2 105 (-1))), (9, .int (M_m_why σ23 p1 p2 p3 p5)), (8, .int y12), (7, .int y10), (6, .int y2), (0, .ref (ad 0)), (1, .int p1), (2, .int p2), (3, .int p3), (4, .int p4), (5, .int p5)]) hx hb dX5_done_155 hl (by decide) rfl (fun ls hl => ?_)
              refine lv_iload hx hb dX5_done_157 (lv_at hl 1 rfl) ?_
              refine lv_if_eq (tgt := 165) hx hb dX5_done_159 (by decide) (fun c27 => ?_) (fun c27 => ?_)
              · rw [if_pos c27] at hT
                refine lv_iload hx hb dX5_done_165 (lv_at hl 0 rfl) ?_
                refine lv_if_eq (tgt := 195) hx hb dX5_done_167 (by decide) (fun c28 => ?_) (fun c28 => ?_)
                · rw [if_pos c28] at hT
                  refine lv_iconst (v := 0) hx hb dX5_done_195 (by decide) ?_
                  refine lv_istore (lv' := [(11, .int 0), (10, .int (M_m_has σ23 p2 105 (-1))), (9, .int (M_m_why σ23 p1 p2 p3 p5)), (8, .int y12), (7, .int y10), (6, .int y2), (0, .ref (ad 0)), (1, .int p1), (2, .int p2), (3, .int p3), (4, .int p4), (5, .int p5)]) hx hb dX5_done_196 hl (by decide) rfl (fun ls hl => ?_)
                  exact L_198 13 0 y10 (M_m_has σ23 p2 105 (-1)) σ23 _ _ ls (Nat.zero_le _) (by decide) hI1 (isM_in hI hv.2.1) (isO_in hI hv.1) (done_in hI hv.1 h2 hok.1 h3 hok.2.1) hP hD hS (lv_sub hl [6, 7, 8, 9, 10, 11, 4, 1, 0] rfl) hT
                · rw [if_neg c28] at hT
                  refine lv_iload hx hb dX5_done_170 (lv_at hl 9 rfl) ?_
                  refine lv_iload_n hx hb dX5_done_172 rfl (lv_at hl 8 rfl) ?_
                  refine lv_icmp_eq (tgt := 191) hx hb dX5_done_173 (by decide) (fun c34 => ?_) (fun c34 => ?_)
                  · rw [if_pos c34] at hT
                    refine lv_sipush (v := 700) hx hb dX5_done_191 (by decide) ?_
                    rw [eQ]
                    exact W.iret (v := 700) hx hb hr (fun t ht hW => ⟨⟨700, σ23, rfl, hT, by rw [ht]; exact hP, va_K.moved hW.alike hK, hD⟩, hS.F ht⟩) hS.2.2 dX5_done_194
                  · rw [if_neg c34] at hT
                    refine lv_aload_n hx hb dX5_done_176 rfl (lv_at hl 5 rfl) ?_
                    refine va_get (D := D) (ci := 5) (v := .ref (ad 7)) (C := RX5) (T := TX5) (N := 27) hx hb ht inX5 hown hK hP 0 g_Md rfl 9 (by decide) (ht _ mw_582) (fun _ h9 => h9) rfl dX5_done_177 ?_
                    refine lv_bipush (v := 12) hx hb dX5_done_180 (by decide) ?_
                    refine lv_iload hx hb dX5_done_182 (lv_at hl 9 rfl) ?_
                    refine lv_imul hx hb dX5_done_184 ?_
                    refine lv_iload_n hx hb dX5_done_185 rfl (lv_at hl 7 rfl) ?_
                    refine lv_iadd hx hb dX5_done_186 ?_
                    refine va_zald (i := (12 * p4) + p2) hx hb hK hP 7 1 g_m_rights rfl (ix_in (A := 8) (B := 12) (N := 96) (k := 12) (below_in (N := 8) hv.2.2.2 (by decide)) (isM_in hI hv.2.1) (by decide) (by decide) (by decide)) dX5_done_187 ?_
                    refine lv_if_ne (tgt := 195) hx hb dX5_done_188 (by decide) (fun c35 => ?_) (fun c35 => ?_)
                    · rw [if_neg c35] at hT
                      refine lv_iconst (v := 0) hx hb dX5_done_195 (by decide) ?_
                      refine lv_istore (lv' := [(11, .int 0), (10, .int (M_m_has σ23 p2 105 (-1))), (9, .int (M_m_why σ23 p1 p2 p3 p5)), (8, .int y12), (7, .int y10), (6, .int y2), (0, .ref (ad 0)), (1, .int p1), (2, .int p2), (3, .int p3), (4, .int p4), (5, .int p5)]) hx hb dX5_done_196 hl (by decide) rfl (fun ls hl => ?_)
                      exact L_198 13 0 y10 (M_m_has σ23 p2 105 (-1)) σ23 _ _ ls (Nat.zero_le _) (by decide) hI1 (isM_in hI hv.2.1) (isO_in hI hv.1) (done_in hI hv.1 h2 hok.1 h3 hok.2.1) hP hD hS (lv_sub hl [6, 7, 8, 9, 10, 11, 4, 1, 0] rfl) hT
                    · rw [if_pos c35] at hT
                      refine lv_sipush (v := 700) hx hb dX5_done_191 (by decide) ?_
                      rw [eQ]
                      exact W.iret (v := 700) hx hb hr (fun t ht hW => ⟨⟨700, σ23, rfl, hT, by rw [ht]; exact hP, va_K.moved hW.alike hK, hD⟩, hS.F ht⟩) hS.2.2 dX5_done_194
              · rw [if_neg c27] at hT
                refine lv_iload hx hb dX5_done_162 (lv_at hl 1 rfl) ?_
                rw [eQ]
                exact W.iret (v := M_m_why σ23 p1 p2 p3 p5) hx hb hr (fun t ht hW => ⟨⟨M_m_why σ23 p1 p2 p3 p5, σ23, rfl, hT, by rw [ht]; exact hP, va_K.moved hW.alike hK, hD⟩, hS.F ht⟩) hS.2.2 dX5_done_164
            · rw [if_pos c24] at hT
              refine lv_iconst (v := 0) hx hb dX5_done_134 (by decide) ?_
              rw [eQ]
              exact W.iret (v := 0) hx hb hr (fun t ht hW => ⟨⟨0, σ23, rfl, hT, by rw [ht]; exact hP, va_K.moved hW.alike hK, hD⟩, hS.F ht⟩) hS.2.2 dX5_done_135

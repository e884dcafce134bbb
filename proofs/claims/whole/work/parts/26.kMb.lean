set_option maxHeartbeats 4000000 in
set_option maxRecDepth 100000 in
theorem k_m_unit (l : Launch) (D : va_G) (ad : Nat → Nat) (kk : Nat → ClassId) (sz : Nat) (σ : St) (p1 : Int32) (hI : IM σ) : Met l yX5_unit wsX5_unit { frames := 1, cells := 0, slots := 0, locals := 23 } (va_Pc [.ref (ad 0), .int p1] (PM D ad kk sz σ)) (va_Qi (fun r u => (r, u) = M_m_unit σ p1) (QM D ad kk sz) (aL 23 ad sz)) 0 0 (aL 23 ad sz) := by
  refine Met.ofW (cc := cX5_unit) (maxL := 2) (ret := (some .int)) (by decide) rfl ?_
  intro p e s m args below meth c s₁ B hml hv
  obtain ⟨rfl, hsz, hP, hK, hD0⟩ := hv
  have hx := B.exec
  have hb := B.bytes
  have hr := B.returns
  have hts := atoms_spec (ws := wsX5_unit) B.pre
  have hown : s.vm.findClass RX5 = some m.cls := findClass_of_methodNamed B.named
  have hlocks := B.notSynchronized
  subst hsz
  have hD : va_D (aL 23 ad s.heap.size) (wM ad kk σ) := aL_D hD0
  have hS : va_S (aL 23 ad s.heap.size) s.heap s.heap [] := va_S.rf
  have hl := lv_entry ([.ref (ad 0), .int p1]) (n := 2) (Nat.le_of_ble_eq_true rfl)
  rw [lg_entry_eq]
  generalize (lg_sl ([.ref (ad 0), .int p1]) ++ List.replicate (2 - (lg_sl ([.ref (ad 0), .int p1])).length) Slot.unset).toArray = ls at hl ⊢
  have hl : lv_has ls 2 [(0, .ref (ad 0)), (1, .int p1)] := hl
  have CF : CallFix p m c cX5_unit 2 s ([.ref (ad 0), .int p1] : List Value).toArray wsX5_unit RX5 := ⟨hx, hb, hml, hown, hts⟩
  have ht : ∀ w ∈ T0, w.before ([.ref (ad 0), .int p1] : List Value).toArray s = true := fun w h => hts w (List.mem_cons_of_mem _ h)
  generalize hT : M_m_unit σ p1 = T
  refine namedQ (fun Q eQ => ?_)
  rw [M_m_unit] at hT
  refine lv_aload_n hx hb dX5_unit_0 rfl (lv_at hl 0 rfl) ?_
  refine lv_aload_n hx hb dX5_unit_1 rfl (lv_at hl 0 rfl) ?_
  refine va_get (D := D) (ci := 5) (v := .int (gF σ 0 1)) (C := RX5) (T := TX5) (N := 27) hx hb ht inX5 hown hK hP 0 g_Md rfl 1 (by decide) (ht _ mw_574) (fun _ h9 => h9) rfl dX5_unit_2 ?_
  refine lv_bipush (v := 50) hx hb dX5_unit_5 (by decide) ?_
  refine jn (α := Int32) (E := (if 50 ≤ (gF σ 0 1) then 0 else 1)) (Kp := fun y => ∀ (H : Heap) (locs : List Loc), va_P D vwCl (wM ad kk σ) H → va_D (aL 23 ad s.heap.size) (wM ad kk σ) → va_S (aL 23 ad s.heap.size) s.heap H locs → W p l e (headSpec wsX5_unit { frames := 1, cells := 0, slots := 0, locals := 23 }).room s m ([.ref (ad 0), .int p1] : List Value).toArray below meth c H locs 0 0 Q (F0 m 15 ls (.int y :: .ref (ad 0) :: []))) (fun Vy1 hVy1 Ky1 => ?_) (fun y1 hy_y1 => ?_)
  · refine lv_icmp_ge (tgt := 14) hx hb dX5_unit_7 (by decide) (fun c2 => ?_) (fun c2 => ?_)
    · rw [if_pos c2] at hVy1
      refine lv_iconst (v := 0) hx hb dX5_unit_14 (by decide) ?_
      exact Ky1 0 hVy1 _ _ hP hD hS
    · rw [if_neg c2] at hVy1
      refine lv_iconst (v := 1) hx hb dX5_unit_10 (by decide) ?_
      refine lv_goto (tgt := 15) hx hb dX5_unit_11 (by decide) ?_
      exact Ky1 1 hVy1 _ _ hP hD hS
  · intro H locs hP hD hS
    rw [← hy_y1, vb_eq] at hT
    have h1 := hy_y1
    have b_y1 : y1 = 0 ∨ y1 = 1 := by rw [hy_y1]; (repeat' split) <;> first | exact Or.inl rfl | exact Or.inr rfl
    refine lv_iload_n hx hb dX5_unit_15 rfl (lv_at hl 1 rfl) ?_
    refine lv_bipush (v := 33) hx hb dX5_unit_16 (by decide) ?_
    refine jn (α := Int32) (E := (if p1 < 33 then 0 else (if 126 < p1 then 0 else 1))) (Kp := fun y => ∀ (H : Heap) (locs : List Loc), va_P D vwCl (wM ad kk σ) H → va_D (aL 23 ad s.heap.size) (wM ad kk σ) → va_S (aL 23 ad s.heap.size) s.heap H locs → W p l e (headSpec wsX5_unit { frames := 1, cells := 0, slots := 0, locals := 23 }).room s m ([.ref (ad 0), .int p1] : List Value).toArray below meth c H locs 0 0 Q (F0 m 32 ls (.int y :: .int y1 :: .ref (ad 0) :: []))) (fun Vy3 hVy3 Ky3 => ?_) (fun y3 hy_y3 => ?_)
    · refine lv_icmp_lt (tgt := 31) hx hb dX5_unit_18 (by decide) (fun c4 => ?_) (fun c4 => ?_)
      · rw [if_pos c4] at hVy3
        refine lv_iconst (v := 0) hx hb dX5_unit_31 (by decide) ?_
        exact Ky3 0 hVy3 _ _ hP hD hS
      · rw [if_neg c4] at hVy3
        refine lv_iload_n hx hb dX5_unit_21 rfl (lv_at hl 1 rfl) ?_
        refine lv_bipush (v := 126) hx hb dX5_unit_22 (by decide) ?_
        refine lv_icmp_gt (tgt := 31) hx hb dX5_unit_24 (by decide) (fun c5 => ?_) (fun c5 => ?_)
        · rw [if_pos c5] at hVy3
          refine lv_iconst (v := 0) hx hb dX5_unit_31 (by decide) ?_
          exact Ky3 0 hVy3 _ _ hP hD hS
        · rw [if_neg c5] at hVy3
          refine lv_iconst (v := 1) hx hb dX5_unit_27 (by decide) ?_
          refine lv_goto (tgt := 32) hx hb dX5_unit_28 (by decide) ?_
          exact Ky3 1 hVy3 _ _ hP hD hS
    · intro H locs hP hD hS
      rw [← hy_y3, vb_eq] at hT
      have b_y3 : y3 = 0 ∨ y3 = 1 := by rw [hy_y3]; (repeat' split) <;> first | exact Or.inl rfl | exact Or.inr rfl
      refine lv_iconst (v := 1) hx hb dX5_unit_32 (by decide) ?_
      refine kM_i (va_runV (As := [.int y1, .int y3, .int 1]) (rest := []) CF (k_m_goes l D ad kk _ σ y1 y3 1) ⟨callB_of 3 hts (gT mw_668) rfl rfl rfl (ht _ mw_6) (ht _ mw_665) (by decide +kernel) ⟨Nat.le_of_ble_eq_true rfl, Nat.le_of_ble_eq_true rfl⟩, (ht _ mw_667), (ht _ ms_23)⟩ (preV_M hK hP hD hS (ci := 5) rfl rfl g_Md) rfl rfl hl.1 rfl (lv_room (Nat.le_of_ble_eq_true rfl)) dX5_unit_33 ⟨Nat.le_of_ble_eq_true rfl, Nat.le_of_ble_eq_true rfl⟩) hS (fun r6 σ7 H locs hw hP hD hS => ?_)
      rw [← hw, pb_mk] at hT
      have h_r6 := hw
      have hg := h_r6
      have hI1 := IM.goes hI h_r6
      refine lv_if_ne (tgt := 41) hx hb dX5_unit_36 (by decide) (fun c8 => ?_) (fun c8 => ?_)
      · rw [if_neg c8] at hT
        have hok := goes_ok hg c8
        refine lv_aload_n hx hb dX5_unit_41 rfl (lv_at hl 0 rfl) ?_
        refine va_get (D := D) (ci := 5) (v := .ref (ad 1)) (C := RX5) (T := TX5) (N := 27) hx hb ht inX5 hown hK hP 0 g_Md rfl 2 (by decide) (ht _ mw_575) (fun _ h9 => h9) rfl dX5_unit_42 ?_
        refine lv_aload_n hx hb dX5_unit_45 rfl (lv_at hl 0 rfl) ?_
        refine va_get (D := D) (ci := 5) (v := .int (gF σ7 0 1)) (C := RX5) (T := TX5) (N := 27) hx hb ht inX5 hown hK hP 0 g_Md rfl 1 (by decide) (ht _ mw_574) (fun _ h9 => h9) rfl dX5_unit_46 ?_
        refine lv_iload_n hx hb dX5_unit_49 rfl (lv_at hl 1 rfl) ?_
        refine va_iast (i := gF σ7 0 1) (x := p1) hx hb hK hP hD hS 1 0 g_m_pad rfl (unit_in hI hg h1 hok.1) dX5_unit_50 (fun H locs hP hD hS => ?_)
        rw [s_m_pad] at hP hD
        refine lv_aload_n hx hb dX5_unit_51 rfl (lv_at hl 0 rfl) ?_
        refine lv_dup hx hb dX5_unit_52 rfl ?_
        refine va_get (D := D) (ci := 5) (v := .int (gF (sA σ7 1 (gF σ7 0 1).toNatClampNeg p1) 0 1)) (C := RX5) (T := TX5) (N := 27) hx hb ht inX5 hown hK hP 0 g_Md rfl 1 (by decide) (ht _ mw_574) (fun _ h9 => h9) rfl dX5_unit_53 ?_
        refine lv_iconst (v := 1) hx hb dX5_unit_56 (by decide) ?_
        refine lv_iadd hx hb dX5_unit_57 ?_
        refine va_put (D := D) (ci := 5) (v := .int ((gF (sA σ7 1 (gF σ7 0 1).toNatClampNeg p1) 0 1) + 1)) (ty := .int) (C := RX5) (T := TX5) (N := 27) hx hb ht inX5 tyX5 tyX5_ok nmX5 hown hK hP hD hS 0 g_Md rfl 1 (by decide) (ht _ mw_574) (fun _ h9 => h9) rfl (by decide +kernel) rfl rfl (Nat.le_of_ble_eq_true rfl) dX5_unit_58 (fun H locs hP hD hS => ?_)
        rw [s_Md_1] at hP hD
        refine lv_aload_n hx hb dX5_unit_61 rfl (lv_at hl 0 rfl) ?_
        refine va_get (D := D) (ci := 5) (v := .int (gF (sF (sA σ7 1 (gF σ7 0 1).toNatClampNeg p1) 0 1 ((gF (sA σ7 1 (gF σ7 0 1).toNatClampNeg p1) 0 1) + 1)) 0 1)) (C := RX5) (T := TX5) (N := 27) hx hb ht inX5 hown hK hP 0 g_Md rfl 1 (by decide) (ht _ mw_574) (fun _ h9 => h9) rfl dX5_unit_62 ?_
        rw [eQ]
        exact W.iret (v := gF (sF (sA σ7 1 (gF σ7 0 1).toNatClampNeg p1) 0 1 ((gF (sA σ7 1 (gF σ7 0 1).toNatClampNeg p1) 0 1) + 1)) 0 1) hx hb hr (fun t ht hW => ⟨⟨gF (sF (sA σ7 1 (gF σ7 0 1).toNatClampNeg p1) 0 1 ((gF (sA σ7 1 (gF σ7 0 1).toNatClampNeg p1) 0 1) + 1)) 0 1, (sF (sA σ7 1 (gF σ7 0 1).toNatClampNeg p1) 0 1 ((gF (sA σ7 1 (gF σ7 0 1).toNatClampNeg p1) 0 1) + 1)), rfl, hT, by rw [ht]; exact hP, va_K.moved hW.alike hK, hD⟩, hS.F ht⟩) hS.2.2 dX5_unit_65
      · rw [if_pos c8] at hT
        refine lv_iconst (v := 0) hx hb dX5_unit_39 (by decide) ?_
        rw [eQ]
        exact W.iret (v := 0) hx hb hr (fun t ht hW => ⟨⟨0, σ7, rfl, hT, by rw [ht]; exact hP, va_K.moved hW.alike hK, hD⟩, hS.F ht⟩) hS.2.2 dX5_unit_40
set_option maxHeartbeats 4000000 in
set_option maxRecDepth 100000 in
theorem k_m_uses (l : Launch) (D : va_G) (ad : Nat → Nat) (kk : Nat → ClassId) (sz : Nat) (σ : St) (p1 : Int32) (p2 : Int32) (hI : IM σ) : Met l yX5_uses wsX5_uses { frames := 2, cells := 0, slots := 0, locals := 42 } (va_Pc [.ref (ad 0), .int p1, .int p2] (PM D ad kk sz σ)) (va_Qi (fun r u => (r, u) = M_m_uses σ p1 p2) (QM D ad kk sz) (aL 23 ad sz)) 0 0 (aL 23 ad sz) := by
  refine Met.ofW (cc := cX5_uses) (maxL := 3) (ret := (some .int)) (by decide) rfl ?_
  intro p e s m args below meth c s₁ B hml hv
  obtain ⟨rfl, hsz, hP, hK, hD0⟩ := hv
  have hx := B.exec
  have hb := B.bytes
  have hr := B.returns
  have hts := atoms_spec (ws := wsX5_uses) B.pre
  have hown : s.vm.findClass RX5 = some m.cls := findClass_of_methodNamed B.named
  have hlocks := B.notSynchronized
  subst hsz
  have hD : va_D (aL 23 ad s.heap.size) (wM ad kk σ) := aL_D hD0
  have hS : va_S (aL 23 ad s.heap.size) s.heap s.heap [] := va_S.rf
  have hl := lv_entry ([.ref (ad 0), .int p1, .int p2]) (n := 3) (Nat.le_of_ble_eq_true rfl)
  rw [lg_entry_eq]
  generalize (lg_sl ([.ref (ad 0), .int p1, .int p2]) ++ List.replicate (3 - (lg_sl ([.ref (ad 0), .int p1, .int p2])).length) Slot.unset).toArray = ls at hl ⊢
  have hl : lv_has ls 3 [(0, .ref (ad 0)), (1, .int p1), (2, .int p2)] := hl
  have CF : CallFix p m c cX5_uses 3 s ([.ref (ad 0), .int p1, .int p2] : List Value).toArray wsX5_uses RX5 := ⟨hx, hb, hml, hown, hts⟩
  have ht : ∀ w ∈ T0, w.before ([.ref (ad 0), .int p1, .int p2] : List Value).toArray s = true := fun w h => hts w (List.mem_cons_of_mem _ h)
  generalize hT : M_m_uses σ p1 p2 = T
  refine namedQ (fun Q eQ => ?_)
  rw [M_m_uses] at hT
  refine lv_aload_n hx hb dX5_uses_0 rfl (lv_at hl 0 rfl) ?_
  refine lv_aload_n hx hb dX5_uses_1 rfl (lv_at hl 0 rfl) ?_
  refine lv_iload_n hx hb dX5_uses_2 rfl (lv_at hl 1 rfl) ?_
  refine kM_i (va_runV (As := [.int p1]) (rest := [.ref (ad 0)]) CF (k_m_isMethod l D ad kk _ σ p1) ⟨callB_of 1 hts (gT mw_690) rfl rfl rfl (ht _ mw_6) (ht _ mw_687) (by decide +kernel) ⟨Nat.le_of_ble_eq_true rfl, Nat.le_of_ble_eq_true rfl⟩, (ht _ mw_689), (ht _ ms_25)⟩ (preV_M hK hP hD hS (ci := 5) rfl rfl g_Md) rfl rfl hl.1 rfl (lv_room (Nat.le_of_ble_eq_true rfl)) dX5_uses_3 ⟨Nat.le_of_ble_eq_true rfl, Nat.le_of_ble_eq_true rfl⟩) hS (fun r1 u9 H locs hw hP hD hS => ?_)
  obtain ⟨rfl, e9⟩ := hw
  rw [e9] at hP hD
  refine jn (α := Int32) (E := (if (M_m_isMethod σ p1) = 0 then 0 else (if (M_m_below p2 12) = 0 then 0 else 1))) (Kp := fun y => ∀ (H : Heap) (locs : List Loc), va_P D vwCl (wM ad kk σ) H → va_D (aL 23 ad s.heap.size) (wM ad kk σ) → va_S (aL 23 ad s.heap.size) s.heap H locs → W p l e (headSpec wsX5_uses { frames := 2, cells := 0, slots := 0, locals := 42 }).room s m ([.ref (ad 0), .int p1, .int p2] : List Value).toArray below meth c H locs 0 0 Q (F0 m 23 ls (.int y :: .ref (ad 0) :: []))) (fun Vy2 hVy2 Ky2 => ?_) (fun y2 hy_y2 => ?_)
  · refine lv_if_eq (tgt := 22) hx hb dX5_uses_6 (by decide) (fun c3 => ?_) (fun c3 => ?_)
    · rw [if_pos c3] at hVy2
      refine lv_iconst (v := 0) hx hb dX5_uses_22 (by decide) ?_
      exact Ky2 0 hVy2 _ _ hP hD hS
    · rw [if_neg c3] at hVy2
      refine lv_iload_n hx hb dX5_uses_9 rfl (lv_at hl 2 rfl) ?_
      refine lv_bipush (v := 12) hx hb dX5_uses_10 (by decide) ?_
      refine vp_callSi (W.runS (As := [.int p2, .int 12]) (rest := [.ref (ad 0)]) CF (k_m_below l p2 12) ⟨callB_of 2 hts (gT mw_693) rfl rfl rfl (ht _ mw_6) (ht _ mw_691) (by decide +kernel) ⟨Nat.le_of_ble_eq_true rfl, Nat.le_of_ble_eq_true rfl⟩, (ht _ mw_692)⟩ preEq rfl rfl hl.1 rfl (lv_room (Nat.le_of_ble_eq_true rfl)) dX5_uses_12 ⟨Nat.le_of_ble_eq_true rfl, Nat.le_of_ble_eq_true rfl⟩) (fun r4 h_r4 => ?_)
      obtain rfl := h_r4
      refine lv_if_eq (tgt := 22) hx hb dX5_uses_15 (by decide) (fun c5 => ?_) (fun c5 => ?_)
      · rw [if_pos c5] at hVy2
        refine lv_iconst (v := 0) hx hb dX5_uses_22 (by decide) ?_
        exact Ky2 0 hVy2 _ _ hP hD hS
      · rw [if_neg c5] at hVy2
        refine lv_iconst (v := 1) hx hb dX5_uses_18 (by decide) ?_
        refine lv_goto (tgt := 23) hx hb dX5_uses_19 (by decide) ?_
        exact Ky2 1 hVy2 _ _ hP hD hS
  · intro H locs hP hD hS
    rw [← hy_y2, vb_eq] at hT
    have h1 := hy_y2
    have b_y2 : y2 = 0 ∨ y2 = 1 := by rw [hy_y2]; (repeat' split) <;> first | exact Or.inl rfl | exact Or.inr rfl
    refine lv_iconst (v := 1) hx hb dX5_uses_23 (by decide) ?_
    refine lv_iconst (v := 1) hx hb dX5_uses_24 (by decide) ?_
    refine kM_i (va_runV (As := [.int y2, .int 1, .int 1]) (rest := []) CF (k_m_goes l D ad kk _ σ y2 1 1) ⟨callB_of 3 hts (gT mw_668) rfl rfl rfl (ht _ mw_6) (ht _ mw_665) (by decide +kernel) ⟨Nat.le_of_ble_eq_true rfl, Nat.le_of_ble_eq_true rfl⟩, (ht _ mw_667), (ht _ ms_23)⟩ (preV_M hK hP hD hS (ci := 5) rfl rfl g_Md) rfl rfl hl.1 rfl (lv_room (Nat.le_of_ble_eq_true rfl)) dX5_uses_25 ⟨Nat.le_of_ble_eq_true rfl, Nat.le_of_ble_eq_true rfl⟩) hS (fun r6 σ7 H locs hw hP hD hS => ?_)
    rw [← hw, pb_mk] at hT
    have h_r6 := hw
    have hg := h_r6
    have hI1 := IM.goes hI h_r6
    refine jn (α := Int32) (E := (if r6 = 0 then 0 else (M_m_used σ7 p1 p2))) (Kp := fun y => ∀ (H : Heap) (locs : List Loc), va_P D vwCl (wM ad kk σ7) H → va_D (aL 23 ad s.heap.size) (wM ad kk σ7) → va_S (aL 23 ad s.heap.size) s.heap H locs → W p l e (headSpec wsX5_uses { frames := 2, cells := 0, slots := 0, locals := 42 }).room s m ([.ref (ad 0), .int p1, .int p2] : List Value).toArray below meth c H locs 0 0 Q (F0 m 41 ls (.int y :: []))) (fun Vy8 hVy8 Ky8 => ?_) (fun y8 hy_y8 => ?_)
    · refine lv_if_eq (tgt := 40) hx hb dX5_uses_28 (by decide) (fun c9 => ?_) (fun c9 => ?_)
      · rw [if_pos c9] at hVy8
        refine lv_iconst (v := 0) hx hb dX5_uses_40 (by decide) ?_
        exact Ky8 0 hVy8 _ _ hP hD hS
      · rw [if_neg c9] at hVy8
        have hv := and2 h1 (goes_ok hg c9).1
        refine lv_aload_n hx hb dX5_uses_31 rfl (lv_at hl 0 rfl) ?_
        refine lv_iload_n hx hb dX5_uses_32 rfl (lv_at hl 1 rfl) ?_
        refine lv_iload_n hx hb dX5_uses_33 rfl (lv_at hl 2 rfl) ?_
        refine kM_i (va_runV (As := [.int p1, .int p2]) (rest := []) CF (k_m_used l D ad kk _ σ7 p1 p2 (isM_in hI hv.1) hI1) ⟨callB_of 2 hts (gT mw_697) rfl rfl rfl (ht _ mw_6) (ht _ mw_694) (by decide +kernel) ⟨Nat.le_of_ble_eq_true rfl, Nat.le_of_ble_eq_true rfl⟩, (ht _ mw_696), (ht _ ms_26)⟩ (preV_M hK hP hD hS (ci := 5) rfl rfl g_Md) rfl rfl hl.1 rfl (lv_room (Nat.le_of_ble_eq_true rfl)) dX5_uses_34 ⟨Nat.le_of_ble_eq_true rfl, Nat.le_of_ble_eq_true rfl⟩) hS (fun r10 u9 H locs hw hP hD hS => ?_)
        obtain ⟨rfl, e9⟩ := hw
        rw [e9] at hP hD
        refine lv_goto (tgt := 41) hx hb dX5_uses_37 (by decide) ?_
        exact Ky8 (M_m_used σ7 p1 p2) hVy8 _ _ hP hD hS
    · intro H locs hP hD hS
      rw [← hy_y8, vb_eq] at hT
      rw [eQ]
      exact W.iret (v := y8) hx hb hr (fun t ht hW => ⟨⟨y8, σ7, rfl, hT, by rw [ht]; exact hP, va_K.moved hW.alike hK, hD⟩, hS.F ht⟩) hS.2.2 dX5_uses_41
set_option maxHeartbeats 4000000 in
set_option maxRecDepth 100000 in
theorem k_m_object (l : Launch) (D : va_G) (ad : Nat → Nat) (kk : Nat → ClassId) (sz : Nat) (σ : St) : Met l yX5_object wsX5_object { frames := 1, cells := 0, slots := 0, locals := 23 } (va_Pc [.ref (ad 0)] (PM D ad kk sz σ)) (va_Qi (fun r u => (r, u) = M_m_object σ) (QM D ad kk sz) (aL 23 ad sz)) 0 0 (aL 23 ad sz) := by
  refine Met.ofW (cc := cX5_object) (maxL := 1) (ret := (some .int)) (by decide) rfl ?_
  intro p e s m args below meth c s₁ B hml hv
  obtain ⟨rfl, hsz, hP, hK, hD0⟩ := hv
  have hx := B.exec
  have hb := B.bytes
  have hr := B.returns
  have hts := atoms_spec (ws := wsX5_object) B.pre
  have hown : s.vm.findClass RX5 = some m.cls := findClass_of_methodNamed B.named
  have hlocks := B.notSynchronized
  subst hsz
  have hD : va_D (aL 23 ad s.heap.size) (wM ad kk σ) := aL_D hD0
  have hS : va_S (aL 23 ad s.heap.size) s.heap s.heap [] := va_S.rf
  have hl := lv_entry ([.ref (ad 0)]) (n := 1) (Nat.le_of_ble_eq_true rfl)
  rw [lg_entry_eq]
  generalize (lg_sl ([.ref (ad 0)]) ++ List.replicate (1 - (lg_sl ([.ref (ad 0)])).length) Slot.unset).toArray = ls at hl ⊢
  have hl : lv_has ls 1 [(0, .ref (ad 0))] := hl
  have CF : CallFix p m c cX5_object 1 s ([.ref (ad 0)] : List Value).toArray wsX5_object RX5 := ⟨hx, hb, hml, hown, hts⟩
  have ht : ∀ w ∈ T0, w.before ([.ref (ad 0)] : List Value).toArray s = true := fun w h => hts w (List.mem_cons_of_mem _ h)
  generalize hT : M_m_object σ = T
  refine namedQ (fun Q eQ => ?_)
  rw [M_m_object] at hT
  refine lv_aload_n hx hb dX5_object_0 rfl (lv_at hl 0 rfl) ?_
  refine lv_aload_n hx hb dX5_object_1 rfl (lv_at hl 0 rfl) ?_
  refine va_get (D := D) (ci := 5) (v := .int (gF σ 0 10)) (C := RX5) (T := TX5) (N := 27) hx hb ht inX5 hown hK hP 0 g_Md rfl 10 (by decide) (ht _ mw_583) (fun _ h9 => h9) rfl dX5_object_2 ?_
  refine lv_bipush (v := 10) hx hb dX5_object_5 (by decide) ?_
  refine jn (α := Int32) (E := (if 10 ≤ (gF σ 0 10) then 0 else 1)) (Kp := fun y => ∀ (H : Heap) (locs : List Loc), va_P D vwCl (wM ad kk σ) H → va_D (aL 23 ad s.heap.size) (wM ad kk σ) → va_S (aL 23 ad s.heap.size) s.heap H locs → W p l e (headSpec wsX5_object { frames := 1, cells := 0, slots := 0, locals := 23 }).room s m ([.ref (ad 0)] : List Value).toArray below meth c H locs 0 0 Q (F0 m 15 ls (.int y :: .ref (ad 0) :: []))) (fun Vy1 hVy1 Ky1 => ?_) (fun y1 hy_y1 => ?_)
  · refine lv_icmp_ge (tgt := 14) hx hb dX5_object_7 (by decide) (fun c2 => ?_) (fun c2 => ?_)
    · rw [if_pos c2] at hVy1
      refine lv_iconst (v := 0) hx hb dX5_object_14 (by decide) ?_
      exact Ky1 0 hVy1 _ _ hP hD hS
    · rw [if_neg c2] at hVy1
      refine lv_iconst (v := 1) hx hb dX5_object_10 (by decide) ?_
      refine lv_goto (tgt := 15) hx hb dX5_object_11 (by decide) ?_
      exact Ky1 1 hVy1 _ _ hP hD hS
  · intro H locs hP hD hS
    rw [← hy_y1, vb_eq] at hT
    have b_y1 : y1 = 0 ∨ y1 = 1 := by rw [hy_y1]; (repeat' split) <;> first | exact Or.inl rfl | exact Or.inr rfl
    refine lv_iconst (v := 1) hx hb dX5_object_15 (by decide) ?_
    refine lv_iconst (v := 1) hx hb dX5_object_16 (by decide) ?_
    refine kM_i (va_runV (As := [.int y1, .int 1, .int 1]) (rest := []) CF (k_m_goes l D ad kk _ σ y1 1 1) ⟨callB_of 3 hts (gT mw_668) rfl rfl rfl (ht _ mw_6) (ht _ mw_665) (by decide +kernel) ⟨Nat.le_of_ble_eq_true rfl, Nat.le_of_ble_eq_true rfl⟩, (ht _ mw_667), (ht _ ms_23)⟩ (preV_M hK hP hD hS (ci := 5) rfl rfl g_Md) rfl rfl hl.1 rfl (lv_room (Nat.le_of_ble_eq_true rfl)) dX5_object_17 ⟨Nat.le_of_ble_eq_true rfl, Nat.le_of_ble_eq_true rfl⟩) hS (fun r3 σ4 H locs hw hP hD hS => ?_)
    rw [← hw, pb_mk] at hT
    have h_r3 := hw
    refine lv_if_ne (tgt := 25) hx hb dX5_object_20 (by decide) (fun c5 => ?_) (fun c5 => ?_)
    · rw [if_neg c5] at hT
      refine lv_aload_n hx hb dX5_object_25 rfl (lv_at hl 0 rfl) ?_
      refine lv_dup hx hb dX5_object_26 rfl ?_
      refine va_get (D := D) (ci := 5) (v := .int (gF σ4 0 10)) (C := RX5) (T := TX5) (N := 27) hx hb ht inX5 hown hK hP 0 g_Md rfl 10 (by decide) (ht _ mw_583) (fun _ h9 => h9) rfl dX5_object_27 ?_
      refine lv_iconst (v := 1) hx hb dX5_object_30 (by decide) ?_
      refine lv_iadd hx hb dX5_object_31 ?_
      refine va_put (D := D) (ci := 5) (v := .int ((gF σ4 0 10) + 1)) (ty := .int) (C := RX5) (T := TX5) (N := 27) hx hb ht inX5 tyX5 tyX5_ok nmX5 hown hK hP hD hS 0 g_Md rfl 10 (by decide) (ht _ mw_583) (fun _ h9 => h9) rfl (by decide +kernel) rfl rfl (Nat.le_of_ble_eq_true rfl) dX5_object_32 (fun H locs hP hD hS => ?_)
      rw [s_Md_10] at hP hD
      refine lv_aload_n hx hb dX5_object_35 rfl (lv_at hl 0 rfl) ?_
      refine va_get (D := D) (ci := 5) (v := .int (gF (sF σ4 0 10 ((gF σ4 0 10) + 1)) 0 10)) (C := RX5) (T := TX5) (N := 27) hx hb ht inX5 hown hK hP 0 g_Md rfl 10 (by decide) (ht _ mw_583) (fun _ h9 => h9) rfl dX5_object_36 ?_
      refine lv_iconst (v := 1) hx hb dX5_object_39 (by decide) ?_
      refine lv_isub hx hb dX5_object_40 ?_
      rw [eQ]
      exact W.iret (v := (gF (sF σ4 0 10 ((gF σ4 0 10) + 1)) 0 10) - 1) hx hb hr (fun t ht hW => ⟨⟨(gF (sF σ4 0 10 ((gF σ4 0 10) + 1)) 0 10) - 1, (sF σ4 0 10 ((gF σ4 0 10) + 1)), rfl, hT, by rw [ht]; exact hP, va_K.moved hW.alike hK, hD⟩, hS.F ht⟩) hS.2.2 dX5_object_41
    · rw [if_pos c5] at hT
      refine lv_iconst (v := 0) hx hb dX5_object_23 (by decide) ?_
      rw [eQ]
      exact W.iret (v := 0) hx hb hr (fun t ht hW => ⟨⟨0, σ4, rfl, hT, by rw [ht]; exact hP, va_K.moved hW.alike hK, hD⟩, hS.F ht⟩) hS.2.2 dX5_object_24
set_option maxHeartbeats 4000000 in
set_option maxRecDepth 100000 in
theorem k_m_part (l : Launch) (D : va_G) (ad : Nat → Nat) (kk : Nat → ClassId) (sz : Nat) (σ : St) (p1 : Int32) (p2 : Int32) (hI : IM σ) : Met l yX5_part wsX5_part { frames := 2, cells := 0, slots := 0, locals := 42 } (va_Pc [.ref (ad 0), .int p1, .int p2] (PM D ad kk sz σ)) (va_Qi (fun r u => (r, u) = M_m_part σ p1 p2) (QM D ad kk sz) (aL 23 ad sz)) 0 0 (aL 23 ad sz) := by
  refine Met.ofW (cc := cX5_part) (maxL := 4) (ret := (some .int)) (by decide) rfl ?_
  intro p e s m args below meth c s₁ B hml hv
  obtain ⟨rfl, hsz, hP, hK, hD0⟩ := hv
  have hx := B.exec
  have hb := B.bytes
  have hr := B.returns
  have hts := atoms_spec (ws := wsX5_part) B.pre
  have hown : s.vm.findClass RX5 = some m.cls := findClass_of_methodNamed B.named
  have hlocks := B.notSynchronized
  subst hsz
  have hD : va_D (aL 23 ad s.heap.size) (wM ad kk σ) := aL_D hD0
  have hS : va_S (aL 23 ad s.heap.size) s.heap s.heap [] := va_S.rf
  have hl := lv_entry ([.ref (ad 0), .int p1, .int p2]) (n := 4) (Nat.le_of_ble_eq_true rfl)
  rw [lg_entry_eq]
  generalize (lg_sl ([.ref (ad 0), .int p1, .int p2]) ++ List.replicate (4 - (lg_sl ([.ref (ad 0), .int p1, .int p2])).length) Slot.unset).toArray = ls at hl ⊢
  have hl : lv_has ls 4 [(0, .ref (ad 0)), (1, .int p1), (2, .int p2)] := hl
  have CF : CallFix p m c cX5_part 4 s ([.ref (ad 0), .int p1, .int p2] : List Value).toArray wsX5_part RX5 := ⟨hx, hb, hml, hown, hts⟩
  have ht : ∀ w ∈ T0, w.before ([.ref (ad 0), .int p1, .int p2] : List Value).toArray s = true := fun w h => hts w (List.mem_cons_of_mem _ h)
  generalize hT : M_m_part σ p1 p2 = T
  refine namedQ (fun Q eQ => ?_)
  rw [M_m_part] at hT
  refine lv_aload_n hx hb dX5_part_0 rfl (lv_at hl 0 rfl) ?_
  refine lv_iload_n hx hb dX5_part_1 rfl (lv_at hl 1 rfl) ?_
  refine kM_i (va_runV (As := [.int p1]) (rest := []) CF (k_m_isObject l D ad kk _ σ p1) ⟨callB_of 1 hts (gT mw_709) rfl rfl rfl (ht _ mw_6) (ht _ mw_706) (by decide +kernel) ⟨Nat.le_of_ble_eq_true rfl, Nat.le_of_ble_eq_true rfl⟩, (ht _ mw_708), (ht _ ms_27)⟩ (preV_M hK hP hD hS (ci := 5) rfl rfl g_Md) rfl rfl hl.1 rfl (lv_room (Nat.le_of_ble_eq_true rfl)) dX5_part_2 ⟨Nat.le_of_ble_eq_true rfl, Nat.le_of_ble_eq_true rfl⟩) hS (fun r1 u9 H locs hw hP hD hS => ?_)
  obtain ⟨rfl, e9⟩ := hw
  rw [e9] at hP hD
  refine jn (α := Int32) (E := (if (M_m_isObject σ p1) = 0 then 0 else (if (M_m_below p2 10) = 0 then 0 else 1))) (Kp := fun y => ∀ (H : Heap) (locs : List Loc), va_P D vwCl (wM ad kk σ) H → va_D (aL 23 ad s.heap.size) (wM ad kk σ) → va_S (aL 23 ad s.heap.size) s.heap H locs → W p l e (headSpec wsX5_part { frames := 2, cells := 0, slots := 0, locals := 42 }).room s m ([.ref (ad 0), .int p1, .int p2] : List Value).toArray below meth c H locs 0 0 Q (F0 m 22 ls (.int y :: []))) (fun Vy2 hVy2 Ky2 => ?_) (fun y2 hy_y2 => ?_)
  · refine lv_if_eq (tgt := 21) hx hb dX5_part_5 (by decide) (fun c3 => ?_) (fun c3 => ?_)
    · rw [if_pos c3] at hVy2
      refine lv_iconst (v := 0) hx hb dX5_part_21 (by decide) ?_
      exact Ky2 0 hVy2 _ _ hP hD hS
    · rw [if_neg c3] at hVy2
      refine lv_iload_n hx hb dX5_part_8 rfl (lv_at hl 2 rfl) ?_
      refine lv_bipush (v := 10) hx hb dX5_part_9 (by decide) ?_
      refine vp_callSi (W.runS (As := [.int p2, .int 10]) (rest := []) CF (k_m_below l p2 10) ⟨callB_of 2 hts (gT mw_693) rfl rfl rfl (ht _ mw_6) (ht _ mw_691) (by decide +kernel) ⟨Nat.le_of_ble_eq_true rfl, Nat.le_of_ble_eq_true rfl⟩, (ht _ mw_692)⟩ preEq rfl rfl hl.1 rfl (lv_room (Nat.le_of_ble_eq_true rfl)) dX5_part_11 ⟨Nat.le_of_ble_eq_true rfl, Nat.le_of_ble_eq_true rfl⟩) (fun r4 h_r4 => ?_)
      obtain rfl := h_r4
      refine lv_if_eq (tgt := 21) hx hb dX5_part_14 (by decide) (fun c5 => ?_) (fun c5 => ?_)
      · rw [if_pos c5] at hVy2
        refine lv_iconst (v := 0) hx hb dX5_part_21 (by decide) ?_
        exact Ky2 0 hVy2 _ _ hP hD hS
      · rw [if_neg c5] at hVy2
        refine lv_iconst (v := 1) hx hb dX5_part_17 (by decide) ?_
        refine lv_goto (tgt := 22) hx hb dX5_part_18 (by decide) ?_
        exact Ky2 1 hVy2 _ _ hP hD hS
  · intro H locs hP hD hS
    rw [← hy_y2, vb_eq] at hT
    have h1 := hy_y2
    have b_y2 : y2 = 0 ∨ y2 = 1 := by rw [hy_y2]; (repeat' split) <;> first | exact Or.inl rfl | exact Or.inr rfl
    refine lv_istore_n (lv' := [(3, .int y2), (0, .ref (ad 0)), (1, .int p1), (2, .int p2)]) hx hb dX5_part_22 rfl hl (by decide) rfl (fun ls hl => ?_)
    refine lv_aload_n hx hb dX5_part_23 rfl (lv_at hl 1 rfl) ?_
    refine lv_iload_n hx hb dX5_part_24 rfl (lv_at hl 0 rfl) ?_
    refine lv_iload_n hx hb dX5_part_25 rfl (lv_at hl 0 rfl) ?_
    refine jn (α := Int32) (E := (if y2 = 0 then 0 else (if 8 ≤ (gA σ 8 p1.toNatClampNeg) then 0 else 1))) (Kp := fun y => ∀ (H : Heap) (locs : List Loc), va_P D vwCl (wM ad kk σ) H → va_D (aL 23 ad s.heap.size) (wM ad kk σ) → va_S (aL 23 ad s.heap.size) s.heap H locs → W p l e (headSpec wsX5_part { frames := 2, cells := 0, slots := 0, locals := 42 }).room s m ([.ref (ad 0), .int p1, .int p2] : List Value).toArray below meth c H locs 0 0 Q (F0 m 45 ls (.int y :: .int y2 :: .ref (ad 0) :: []))) (fun Vy6 hVy6 Ky6 => ?_) (fun y6 hy_y6 => ?_)
    · refine lv_if_eq (tgt := 44) hx hb dX5_part_26 (by decide) (fun c7 => ?_) (fun c7 => ?_)
      · rw [if_pos c7] at hVy6
        refine lv_iconst (v := 0) hx hb dX5_part_44 (by decide) ?_
        exact Ky6 0 hVy6 _ _ hP hD hS
      · rw [if_neg c7] at hVy6
        have hk := and2 h1 c7
        refine lv_aload_n hx hb dX5_part_29 rfl (lv_at hl 1 rfl) ?_
        refine va_get (D := D) (ci := 5) (v := .ref (ad 8)) (C := RX5) (T := TX5) (N := 27) hx hb ht inX5 hown hK hP 0 g_Md rfl 11 (by decide) (ht _ mw_584) (fun _ h9 => h9) rfl dX5_part_30 ?_
        refine lv_iload_n hx hb dX5_part_33 rfl (lv_at hl 2 rfl) ?_
        refine va_iald (i := p1) hx hb hK hP 8 0 g_m_parts rfl (isO_in hI hk.1) dX5_part_34 ?_
        refine lv_bipush (v := 8) hx hb dX5_part_35 (by decide) ?_
        refine lv_icmp_ge (tgt := 44) hx hb dX5_part_37 (by decide) (fun c8 => ?_) (fun c8 => ?_)
        · rw [if_pos c8] at hVy6
          refine lv_iconst (v := 0) hx hb dX5_part_44 (by decide) ?_
          exact Ky6 0 hVy6 _ _ hP hD hS
        · rw [if_neg c8] at hVy6
          refine lv_iconst (v := 1) hx hb dX5_part_40 (by decide) ?_
          refine lv_goto (tgt := 45) hx hb dX5_part_41 (by decide) ?_
          exact Ky6 1 hVy6 _ _ hP hD hS
    · intro H locs hP hD hS
      rw [← hy_y6, vb_eq] at hT
      have h2 := hy_y6
      have b_y6 : y6 = 0 ∨ y6 = 1 := by rw [hy_y6]; (repeat' split) <;> first | exact Or.inl rfl | exact Or.inr rfl
      refine lv_iconst (v := 1) hx hb dX5_part_45 (by decide) ?_
      refine kM_i (va_runV (As := [.int y2, .int y6, .int 1]) (rest := []) CF (k_m_goes l D ad kk _ σ y2 y6 1) ⟨callB_of 3 hts (gT mw_668) rfl rfl rfl (ht _ mw_6) (ht _ mw_665) (by decide +kernel) ⟨Nat.le_of_ble_eq_true rfl, Nat.le_of_ble_eq_true rfl⟩, (ht _ mw_667), (ht _ ms_23)⟩ (preV_M hK hP hD hS (ci := 5) rfl rfl g_Md) rfl rfl hl.1 rfl (lv_room (Nat.le_of_ble_eq_true rfl)) dX5_part_46 ⟨Nat.le_of_ble_eq_true rfl, Nat.le_of_ble_eq_true rfl⟩) hS (fun r9 σ10 H locs hw hP hD hS => ?_)
      rw [← hw, pb_mk] at hT
      have h_r9 := hw
      have hg := h_r9
      have hI1 := IM.goes hI h_r9
      refine lv_if_ne (tgt := 54) hx hb dX5_part_49 (by decide) (fun c11 => ?_) (fun c11 => ?_)
      · rw [if_neg c11] at hT
        have hok := goes_ok hg c11
        have hv := and2 h1 hok.1
        refine lv_aload_n hx hb dX5_part_54 rfl (lv_at hl 1 rfl) ?_
        refine va_get (D := D) (ci := 5) (v := .ref (ad 9)) (C := RX5) (T := TX5) (N := 27) hx hb ht inX5 hown hK hP 0 g_Md rfl 12 (by decide) (ht _ mw_585) (fun _ h9 => h9) rfl dX5_part_55 ?_
        refine lv_bipush (v := 8) hx hb dX5_part_58 (by decide) ?_
        refine lv_iload_n hx hb dX5_part_60 rfl (lv_at hl 2 rfl) ?_
        refine lv_imul hx hb dX5_part_61 ?_
        refine lv_aload_n hx hb dX5_part_62 rfl (lv_at hl 1 rfl) ?_
        refine va_get (D := D) (ci := 5) (v := .ref (ad 8)) (C := RX5) (T := TX5) (N := 27) hx hb ht inX5 hown hK hP 0 g_Md rfl 11 (by decide) (ht _ mw_584) (fun _ h9 => h9) rfl dX5_part_63 ?_
        refine lv_iload_n hx hb dX5_part_66 rfl (lv_at hl 2 rfl) ?_
        refine va_iald (i := p1) hx hb hK hP 8 0 g_m_parts rfl (isO_in hI hv.1) dX5_part_67 ?_
        refine lv_iadd hx hb dX5_part_68 ?_
        refine lv_iload_n hx hb dX5_part_69 rfl (lv_at hl 3 rfl) ?_
        refine va_iast (i := (8 * p1) + (gA σ10 8 p1.toNatClampNeg)) (x := p2) hx hb hK hP hD hS 9 0 g_m_materials rfl (part_in hI hg hv.1 h2 hok.2.1) dX5_part_70 (fun H locs hP hD hS => ?_)
        rw [s_m_materials] at hP hD
        refine lv_aload_n hx hb dX5_part_71 rfl (lv_at hl 1 rfl) ?_
        refine va_get (D := D) (ci := 5) (v := .ref (ad 8)) (C := RX5) (T := TX5) (N := 27) hx hb ht inX5 hown hK hP 0 g_Md rfl 11 (by decide) (ht _ mw_584) (fun _ h9 => h9) rfl dX5_part_72 ?_
        refine lv_iload_n hx hb dX5_part_75 rfl (lv_at hl 2 rfl) ?_
        refine lv_dup2_11 hx hb dX5_part_76 rfl rfl ?_
        refine va_iald (i := p1) hx hb hK hP 8 0 g_m_parts rfl (isO_in hI hv.1) dX5_part_77 ?_
        refine lv_iconst (v := 1) hx hb dX5_part_78 (by decide) ?_
        refine lv_iadd hx hb dX5_part_79 ?_
        refine va_iast (i := p1) (x := (gA (sA σ10 9 ((8 * p1) + (gA σ10 8 p1.toNatClampNeg)).toNatClampNeg p2) 8 p1.toNatClampNeg) + 1) hx hb hK hP hD hS 8 0 g_m_parts rfl (isO_in hI hv.1) dX5_part_80 (fun H locs hP hD hS => ?_)
        rw [s_m_parts] at hP hD
        refine lv_aload_n hx hb dX5_part_81 rfl (lv_at hl 1 rfl) ?_
        refine va_get (D := D) (ci := 5) (v := .ref (ad 8)) (C := RX5) (T := TX5) (N := 27) hx hb ht inX5 hown hK hP 0 g_Md rfl 11 (by decide) (ht _ mw_584) (fun _ h9 => h9) rfl dX5_part_82 ?_
        refine lv_iload_n hx hb dX5_part_85 rfl (lv_at hl 2 rfl) ?_
        refine va_iald (i := p1) hx hb hK hP 8 0 g_m_parts rfl (isO_in hI hv.1) dX5_part_86 ?_
        refine lv_iconst (v := 1) hx hb dX5_part_87 (by decide) ?_
        refine lv_isub hx hb dX5_part_88 ?_
        rw [eQ]
        exact W.iret (v := (gA (sA (sA σ10 9 ((8 * p1) + (gA σ10 8 p1.toNatClampNeg)).toNatClampNeg p2) 8 p1.toNatClampNeg ((gA (sA σ10 9 ((8 * p1) + (gA σ10 8 p1.toNatClampNeg)).toNatClampNeg p2) 8 p1.toNatClampNeg) + 1)) 8 p1.toNatClampNeg) - 1) hx hb hr (fun t ht hW => ⟨⟨(gA (sA (sA σ10 9 ((8 * p1) + (gA σ10 8 p1.toNatClampNeg)).toNatClampNeg p2) 8 p1.toNatClampNeg ((gA (sA σ10 9 ((8 * p1) + (gA σ10 8 p1.toNatClampNeg)).toNatClampNeg p2) 8 p1.toNatClampNeg) + 1)) 8 p1.toNatClampNeg) - 1, (sA (sA σ10 9 ((8 * p1) + (gA σ10 8 p1.toNatClampNeg)).toNatClampNeg p2) 8 p1.toNatClampNeg ((gA (sA σ10 9 ((8 * p1) + (gA σ10 8 p1.toNatClampNeg)).toNatClampNeg p2) 8 p1.toNatClampNeg) + 1)), rfl, hT, by rw [ht]; exact hP, va_K.moved hW.alike hK, hD⟩, hS.F ht⟩) hS.2.2 dX5_part_89
      · rw [if_pos c11] at hT
        refine lv_iconst (v := 0) hx hb dX5_part_52 (by decide) ?_
        rw [eQ]
        exact W.iret (v := 0) hx hb hr (fun t ht hW => ⟨⟨0, σ10, rfl, hT, by rw [ht]; exact hP, va_K.moved hW.alike hK, hD⟩, hS.F ht⟩) hS.2.2 dX5_part_53
set_option maxHeartbeats 4000000 in
set_option maxRecDepth 100000 in
theorem k_m_right (l : Launch) (D : va_G) (ad : Nat → Nat) (kk : Nat → ClassId) (sz : Nat) (σ : St) (p1 : Int32) (p2 : Int32) (p3 : Int32) (hI : IM σ) (hb3 : p3 = 0 ∨ p3 = 1) : Met l yX5_right wsX5_right { frames := 2, cells := 0, slots := 0, locals := 42 } (va_Pc [.ref (ad 0), .int p1, .int p2, .int p3] (PM D ad kk sz σ)) (va_Qi (fun r u => (r, u) = M_m_right σ p1 p2 p3) (QM D ad kk sz) (aL 23 ad sz)) 0 0 (aL 23 ad sz) := by
  refine Met.ofW (cc := cX5_right) (maxL := 5) (ret := (some .boolean)) (by decide) rfl ?_
  intro p e s m args below meth c s₁ B hml hv
  obtain ⟨rfl, hsz, hP, hK, hD0⟩ := hv
  have hx := B.exec
  have hb := B.bytes
  have hr := B.returns
  have hts := atoms_spec (ws := wsX5_right) B.pre
  have hown : s.vm.findClass RX5 = some m.cls := findClass_of_methodNamed B.named
  have hlocks := B.notSynchronized
  subst hsz
  have hD : va_D (aL 23 ad s.heap.size) (wM ad kk σ) := aL_D hD0
  have hS : va_S (aL 23 ad s.heap.size) s.heap s.heap [] := va_S.rf
  have hl := lv_entry ([.ref (ad 0), .int p1, .int p2, .int p3]) (n := 5) (Nat.le_of_ble_eq_true rfl)
  rw [lg_entry_eq]
  generalize (lg_sl ([.ref (ad 0), .int p1, .int p2, .int p3]) ++ List.replicate (5 - (lg_sl ([.ref (ad 0), .int p1, .int p2, .int p3])).length) Slot.unset).toArray = ls at hl ⊢
  have hl : lv_has ls 5 [(0, .ref (ad 0)), (1, .int p1), (2, .int p2), (3, .int p3)] := hl
  have CF : CallFix p m c cX5_right 5 s ([.ref (ad 0), .int p1, .int p2, .int p3] : List Value).toArray wsX5_right RX5 := ⟨hx, hb, hml, hown, hts⟩
  have ht : ∀ w ∈ T0, w.before ([.ref (ad 0), .int p1, .int p2, .int p3] : List Value).toArray s = true := fun w h => hts w (List.mem_cons_of_mem _ h)
  generalize hT : M_m_right σ p1 p2 p3 = T
  refine namedQ (fun Q eQ => ?_)
  rw [M_m_right] at hT
  refine lv_aload_n hx hb dX5_right_0 rfl (lv_at hl 0 rfl) ?_
  refine lv_iload_n hx hb dX5_right_1 rfl (lv_at hl 1 rfl) ?_
  refine lv_bipush (v := 8) hx hb dX5_right_2 (by decide) ?_
  refine vp_callSi (W.runS (As := [.int p1, .int 8]) (rest := [.ref (ad 0)]) CF (k_m_below l p1 8) ⟨callB_of 2 hts (gT mw_693) rfl rfl rfl (ht _ mw_6) (ht _ mw_691) (by decide +kernel) ⟨Nat.le_of_ble_eq_true rfl, Nat.le_of_ble_eq_true rfl⟩, (ht _ mw_692)⟩ preEq rfl rfl hl.1 rfl (lv_room (Nat.le_of_ble_eq_true rfl)) dX5_right_4 ⟨Nat.le_of_ble_eq_true rfl, Nat.le_of_ble_eq_true rfl⟩) (fun r1 h_r1 => ?_)
  obtain rfl := h_r1
  refine jn (α := Int32) (E := (if (M_m_below p1 8) = 0 then 0 else (if (M_m_isMethod σ p2) = 0 then 0 else 1))) (Kp := fun y => ∀ (H : Heap) (locs : List Loc), va_P D vwCl (wM ad kk σ) H → va_D (aL 23 ad s.heap.size) (wM ad kk σ) → va_S (aL 23 ad s.heap.size) s.heap H locs → W p l e (headSpec wsX5_right { frames := 2, cells := 0, slots := 0, locals := 42 }).room s m ([.ref (ad 0), .int p1, .int p2, .int p3] : List Value).toArray below meth c H locs 0 0 Q (F0 m 23 ls (.int y :: .ref (ad 0) :: []))) (fun Vy2 hVy2 Ky2 => ?_) (fun y2 hy_y2 => ?_)
  · refine lv_if_eq (tgt := 22) hx hb dX5_right_7 (by decide) (fun c3 => ?_) (fun c3 => ?_)
    · rw [if_pos c3] at hVy2
      refine lv_iconst (v := 0) hx hb dX5_right_22 (by decide) ?_
      exact Ky2 0 hVy2 _ _ hP hD hS
    · rw [if_neg c3] at hVy2
      refine lv_aload_n hx hb dX5_right_10 rfl (lv_at hl 0 rfl) ?_
      refine lv_iload_n hx hb dX5_right_11 rfl (lv_at hl 2 rfl) ?_
      refine kM_i (va_runV (As := [.int p2]) (rest := [.ref (ad 0)]) CF (k_m_isMethod l D ad kk _ σ p2) ⟨callB_of 1 hts (gT mw_690) rfl rfl rfl (ht _ mw_6) (ht _ mw_687) (by decide +kernel) ⟨Nat.le_of_ble_eq_true rfl, Nat.le_of_ble_eq_true rfl⟩, (ht _ mw_689), (ht _ ms_25)⟩ (preV_M hK hP hD hS (ci := 5) rfl rfl g_Md) rfl rfl hl.1 rfl (lv_room (Nat.le_of_ble_eq_true rfl)) dX5_right_12 ⟨Nat.le_of_ble_eq_true rfl, Nat.le_of_ble_eq_true rfl⟩) hS (fun r4 u9 H locs hw hP hD hS => ?_)
      obtain ⟨rfl, e9⟩ := hw
      rw [e9] at hP hD
      refine lv_if_eq (tgt := 22) hx hb dX5_right_15 (by decide) (fun c5 => ?_) (fun c5 => ?_)
      · rw [if_pos c5] at hVy2
        refine lv_iconst (v := 0) hx hb dX5_right_22 (by decide) ?_
        exact Ky2 0 hVy2 _ _ hP hD hS
      · rw [if_neg c5] at hVy2
        refine lv_iconst (v := 1) hx hb dX5_right_18 (by decide) ?_
        refine lv_goto (tgt := 23) hx hb dX5_right_19 (by decide) ?_
        exact Ky2 1 hVy2 _ _ hP hD hS
  · intro H locs hP hD hS
    rw [← hy_y2, vb_eq] at hT
    have h1 := hy_y2
    have b_y2 : y2 = 0 ∨ y2 = 1 := by rw [hy_y2]; (repeat' split) <;> first | exact Or.inl rfl | exact Or.inr rfl
    refine lv_iconst (v := 1) hx hb dX5_right_23 (by decide) ?_
    refine lv_iconst (v := 1) hx hb dX5_right_24 (by decide) ?_
    refine kM_i (va_runV (As := [.int y2, .int 1, .int 1]) (rest := []) CF (k_m_goes l D ad kk _ σ y2 1 1) ⟨callB_of 3 hts (gT mw_668) rfl rfl rfl (ht _ mw_6) (ht _ mw_665) (by decide +kernel) ⟨Nat.le_of_ble_eq_true rfl, Nat.le_of_ble_eq_true rfl⟩, (ht _ mw_667), (ht _ ms_23)⟩ (preV_M hK hP hD hS (ci := 5) rfl rfl g_Md) rfl rfl hl.1 rfl (lv_room (Nat.le_of_ble_eq_true rfl)) dX5_right_25 ⟨Nat.le_of_ble_eq_true rfl, Nat.le_of_ble_eq_true rfl⟩) hS (fun r6 σ7 H locs hw hP hD hS => ?_)
    rw [← hw, pb_mk] at hT
    have h_r6 := hw
    have hg := h_r6
    have hI1 := IM.goes hI h_r6
    refine lv_if_ne (tgt := 33) hx hb dX5_right_28 (by decide) (fun c8 => ?_) (fun c8 => ?_)
    · rw [if_neg c8] at hT
      have hok := goes_ok hg c8
      have hv := and2 h1 hok.1
      refine lv_aload_n hx hb dX5_right_33 rfl (lv_at hl 0 rfl) ?_
      refine va_get (D := D) (ci := 5) (v := .ref (ad 7)) (C := RX5) (T := TX5) (N := 27) hx hb ht inX5 hown hK hP 0 g_Md rfl 9 (by decide) (ht _ mw_582) (fun _ h9 => h9) rfl dX5_right_34 ?_
      refine lv_bipush (v := 12) hx hb dX5_right_37 (by decide) ?_
      refine lv_iload_n hx hb dX5_right_39 rfl (lv_at hl 1 rfl) ?_
      refine lv_imul hx hb dX5_right_40 ?_
      refine lv_iload_n hx hb dX5_right_41 rfl (lv_at hl 2 rfl) ?_
      refine lv_iadd hx hb dX5_right_42 ?_
      refine va_zald (i := (12 * p1) + p2) hx hb hK hP 7 1 g_m_rights rfl (ix_in (A := 8) (B := 12) (N := 96) (k := 12) (below_in (N := 8) hv.1 (by decide)) (isM_in hI hv.2) (by decide) (by decide) (by decide)) dX5_right_43 ?_
      refine lv_istore (lv' := [(4, .int (gA σ7 7 ((12 * p1) + p2).toNatClampNeg)), (0, .ref (ad 0)), (1, .int p1), (2, .int p2), (3, .int p3)]) hx hb dX5_right_44 hl (by decide) rfl (fun ls hl => ?_)
      refine lv_aload_n hx hb dX5_right_46 rfl (lv_at hl 1 rfl) ?_
      refine va_get (D := D) (ci := 5) (v := .ref (ad 7)) (C := RX5) (T := TX5) (N := 27) hx hb ht inX5 hown hK hP 0 g_Md rfl 9 (by decide) (ht _ mw_582) (fun _ h9 => h9) rfl dX5_right_47 ?_
      refine lv_bipush (v := 12) hx hb dX5_right_50 (by decide) ?_
      refine lv_iload_n hx hb dX5_right_52 rfl (lv_at hl 2 rfl) ?_
      refine lv_imul hx hb dX5_right_53 ?_
      refine lv_iload_n hx hb dX5_right_54 rfl (lv_at hl 3 rfl) ?_
      refine lv_iadd hx hb dX5_right_55 ?_
      refine lv_iload_n hx hb dX5_right_56 rfl (lv_at hl 4 rfl) ?_
      refine va_zast (i := (12 * p1) + p2) (x := p3) hx hb hK hP hD hS 7 1 g_m_rights rfl (ix_in (A := 8) (B := 12) (N := 96) (k := 12) (below_in (N := 8) hv.1 (by decide)) (isM_in hI hv.2) (by decide) (by decide) (by decide)) dX5_right_57 (fun H locs hP hD hS => ?_)
      rw [nz01 hb3] at hP hD
      rw [s_m_rights] at hP hD
      refine lv_iload hx hb dX5_right_58 (lv_at hl 0 rfl) ?_
      refine lv_iload_n hx hb dX5_right_60 rfl (lv_at hl 4 rfl) ?_
      refine jn (α := Int32) (E := (if (gA σ7 7 ((12 * p1) + p2).toNatClampNeg) = p3 then 0 else 1)) (Kp := fun y => ∀ (H : Heap) (locs : List Loc), va_P D vwCl (wM ad kk (sA σ7 7 ((12 * p1) + p2).toNatClampNeg p3)) H → va_D (aL 23 ad s.heap.size) (wM ad kk (sA σ7 7 ((12 * p1) + p2).toNatClampNeg p3)) → va_S (aL 23 ad s.heap.size) s.heap H locs → W p l e (headSpec wsX5_right { frames := 2, cells := 0, slots := 0, locals := 42 }).room s m ([.ref (ad 0), .int p1, .int p2, .int p3] : List Value).toArray below meth c H locs 0 0 Q (F0 m 69 ls (.int y :: []))) (fun Vy9 hVy9 Ky9 => ?_) (fun y9 hy_y9 => ?_)
      · refine lv_icmp_eq (tgt := 68) hx hb dX5_right_61 (by decide) (fun c10 => ?_) (fun c10 => ?_)
        · rw [if_pos c10] at hVy9
          refine lv_iconst (v := 0) hx hb dX5_right_68 (by decide) ?_
          exact Ky9 0 hVy9 _ _ hP hD hS
        · rw [if_neg c10] at hVy9
          refine lv_iconst (v := 1) hx hb dX5_right_64 (by decide) ?_
          refine lv_goto (tgt := 69) hx hb dX5_right_65 (by decide) ?_
          exact Ky9 1 hVy9 _ _ hP hD hS
      · intro H locs hP hD hS
        rw [← hy_y9, vb_eq] at hT
        have b_y9 : y9 = 0 ∨ y9 = 1 := by rw [hy_y9]; (repeat' split) <;> first | exact Or.inl rfl | exact Or.inr rfl
        rw [eQ]
        exact W.zret (v := y9) hx hb hr (nb01 b_y9) (fun t ht hW => ⟨⟨y9, (sA σ7 7 ((12 * p1) + p2).toNatClampNeg p3), rfl, hT, by rw [ht]; exact hP, va_K.moved hW.alike hK, hD⟩, hS.F ht⟩) hS.2.2 dX5_right_69
    · rw [if_pos c8] at hT
      refine lv_iconst (v := 0) hx hb dX5_right_31 (by decide) ?_
      rw [eQ]
      exact W.zret (v := 0) hx hb hr rfl (fun t ht hW => ⟨⟨0, σ7, rfl, hT, by rw [ht]; exact hP, va_K.moved hW.alike hK, hD⟩, hS.F ht⟩) hS.2.2 dX5_right_32
set_option maxHeartbeats 4000000 in
set_option maxRecDepth 100000 in
theorem k_m_trial (l : Launch) (D : va_G) (ad : Nat → Nat) (kk : Nat → ClassId) (sz : Nat) (σ : St) (p1 : Int32) (p2 : Int32) (p3 : Int32) (hI : IM σ) (hb3 : p3 = 0 ∨ p3 = 1) : Met l yX5_trial wsX5_trial { frames := 2, cells := 0, slots := 0, locals := 42 } (va_Pc [.ref (ad 0), .int p1, .int p2, .int p3] (PM D ad kk sz σ)) (va_Qi (fun r u => (r, u) = M_m_trial σ p1 p2 p3) (QM D ad kk sz) (aL 23 ad sz)) 0 0 (aL 23 ad sz) := by
  refine Met.ofW (cc := cX5_trial) (maxL := 5) (ret := (some .boolean)) (by decide) rfl ?_
  intro p e s m args below meth c s₁ B hml hv
  obtain ⟨rfl, hsz, hP, hK, hD0⟩ := hv
  have hx := B.exec
  have hb := B.bytes
  have hr := B.returns
  have hts := atoms_spec (ws := wsX5_trial) B.pre
  have hown : s.vm.findClass RX5 = some m.cls := findClass_of_methodNamed B.named
  have hlocks := B.notSynchronized
  subst hsz
  have hD : va_D (aL 23 ad s.heap.size) (wM ad kk σ) := aL_D hD0
  have hS : va_S (aL 23 ad s.heap.size) s.heap s.heap [] := va_S.rf
  have hl := lv_entry ([.ref (ad 0), .int p1, .int p2, .int p3]) (n := 5) (Nat.le_of_ble_eq_true rfl)
  rw [lg_entry_eq]
  generalize (lg_sl ([.ref (ad 0), .int p1, .int p2, .int p3]) ++ List.replicate (5 - (lg_sl ([.ref (ad 0), .int p1, .int p2, .int p3])).length) Slot.unset).toArray = ls at hl ⊢
  have hl : lv_has ls 5 [(0, .ref (ad 0)), (1, .int p1), (2, .int p2), (3, .int p3)] := hl
  have CF : CallFix p m c cX5_trial 5 s ([.ref (ad 0), .int p1, .int p2, .int p3] : List Value).toArray wsX5_trial RX5 := ⟨hx, hb, hml, hown, hts⟩
  have ht : ∀ w ∈ T0, w.before ([.ref (ad 0), .int p1, .int p2, .int p3] : List Value).toArray s = true := fun w h => hts w (List.mem_cons_of_mem _ h)
  generalize hT : M_m_trial σ p1 p2 p3 = T
  refine namedQ (fun Q eQ => ?_)
  rw [M_m_trial] at hT
  refine lv_aload_n hx hb dX5_trial_0 rfl (lv_at hl 0 rfl) ?_
  refine lv_aload_n hx hb dX5_trial_1 rfl (lv_at hl 0 rfl) ?_
  refine lv_iload_n hx hb dX5_trial_2 rfl (lv_at hl 1 rfl) ?_
  refine kM_i (va_runV (As := [.int p1]) (rest := [.ref (ad 0)]) CF (k_m_isMethod l D ad kk _ σ p1) ⟨callB_of 1 hts (gT mw_690) rfl rfl rfl (ht _ mw_6) (ht _ mw_687) (by decide +kernel) ⟨Nat.le_of_ble_eq_true rfl, Nat.le_of_ble_eq_true rfl⟩, (ht _ mw_689), (ht _ ms_25)⟩ (preV_M hK hP hD hS (ci := 5) rfl rfl g_Md) rfl rfl hl.1 rfl (lv_room (Nat.le_of_ble_eq_true rfl)) dX5_trial_3 ⟨Nat.le_of_ble_eq_true rfl, Nat.le_of_ble_eq_true rfl⟩) hS (fun r1 u9 H locs hw hP hD hS => ?_)
  obtain ⟨rfl, e9⟩ := hw
  rw [e9] at hP hD
  refine jn (α := Int32) (E := (if (M_m_isMethod σ p1) = 0 then 0 else (if (M_m_below p2 10) = 0 then 0 else 1))) (Kp := fun y => ∀ (H : Heap) (locs : List Loc), va_P D vwCl (wM ad kk σ) H → va_D (aL 23 ad s.heap.size) (wM ad kk σ) → va_S (aL 23 ad s.heap.size) s.heap H locs → W p l e (headSpec wsX5_trial { frames := 2, cells := 0, slots := 0, locals := 42 }).room s m ([.ref (ad 0), .int p1, .int p2, .int p3] : List Value).toArray below meth c H locs 0 0 Q (F0 m 23 ls (.int y :: .ref (ad 0) :: []))) (fun Vy2 hVy2 Ky2 => ?_) (fun y2 hy_y2 => ?_)
  · refine lv_if_eq (tgt := 22) hx hb dX5_trial_6 (by decide) (fun c3 => ?_) (fun c3 => ?_)
    · rw [if_pos c3] at hVy2
      refine lv_iconst (v := 0) hx hb dX5_trial_22 (by decide) ?_
      exact Ky2 0 hVy2 _ _ hP hD hS
    · rw [if_neg c3] at hVy2
      refine lv_iload_n hx hb dX5_trial_9 rfl (lv_at hl 2 rfl) ?_
      refine lv_bipush (v := 10) hx hb dX5_trial_10 (by decide) ?_
      refine vp_callSi (W.runS (As := [.int p2, .int 10]) (rest := [.ref (ad 0)]) CF (k_m_below l p2 10) ⟨callB_of 2 hts (gT mw_693) rfl rfl rfl (ht _ mw_6) (ht _ mw_691) (by decide +kernel) ⟨Nat.le_of_ble_eq_true rfl, Nat.le_of_ble_eq_true rfl⟩, (ht _ mw_692)⟩ preEq rfl rfl hl.1 rfl (lv_room (Nat.le_of_ble_eq_true rfl)) dX5_trial_12 ⟨Nat.le_of_ble_eq_true rfl, Nat.le_of_ble_eq_true rfl⟩) (fun r4 h_r4 => ?_)
      obtain rfl := h_r4
      refine lv_if_eq (tgt := 22) hx hb dX5_trial_15 (by decide) (fun c5 => ?_) (fun c5 => ?_)
      · rw [if_pos c5] at hVy2
        refine lv_iconst (v := 0) hx hb dX5_trial_22 (by decide) ?_
        exact Ky2 0 hVy2 _ _ hP hD hS
      · rw [if_neg c5] at hVy2
        refine lv_iconst (v := 1) hx hb dX5_trial_18 (by decide) ?_
        refine lv_goto (tgt := 23) hx hb dX5_trial_19 (by decide) ?_
        exact Ky2 1 hVy2 _ _ hP hD hS
  · intro H locs hP hD hS
    rw [← hy_y2, vb_eq] at hT
    have h1 := hy_y2
    have b_y2 : y2 = 0 ∨ y2 = 1 := by rw [hy_y2]; (repeat' split) <;> first | exact Or.inl rfl | exact Or.inr rfl
    refine lv_iconst (v := 1) hx hb dX5_trial_23 (by decide) ?_
    refine lv_iconst (v := 1) hx hb dX5_trial_24 (by decide) ?_
    refine kM_i (va_runV (As := [.int y2, .int 1, .int 1]) (rest := []) CF (k_m_goes l D ad kk _ σ y2 1 1) ⟨callB_of 3 hts (gT mw_668) rfl rfl rfl (ht _ mw_6) (ht _ mw_665) (by decide +kernel) ⟨Nat.le_of_ble_eq_true rfl, Nat.le_of_ble_eq_true rfl⟩, (ht _ mw_667), (ht _ ms_23)⟩ (preV_M hK hP hD hS (ci := 5) rfl rfl g_Md) rfl rfl hl.1 rfl (lv_room (Nat.le_of_ble_eq_true rfl)) dX5_trial_25 ⟨Nat.le_of_ble_eq_true rfl, Nat.le_of_ble_eq_true rfl⟩) hS (fun r6 σ7 H locs hw hP hD hS => ?_)
    rw [← hw, pb_mk] at hT
    have h_r6 := hw
    have hg := h_r6
    have hI1 := IM.goes hI h_r6
    refine lv_if_ne (tgt := 33) hx hb dX5_trial_28 (by decide) (fun c8 => ?_) (fun c8 => ?_)
    · rw [if_neg c8] at hT
      have hok := goes_ok hg c8
      have hv := and2 h1 hok.1
      refine lv_aload_n hx hb dX5_trial_33 rfl (lv_at hl 0 rfl) ?_
      refine va_get (D := D) (ci := 5) (v := .ref (ad 6)) (C := RX5) (T := TX5) (N := 27) hx hb ht inX5 hown hK hP 0 g_Md rfl 8 (by decide) (ht _ mw_581) (fun _ h9 => h9) rfl dX5_trial_34 ?_
      refine lv_bipush (v := 10) hx hb dX5_trial_37 (by decide) ?_
      refine lv_iload_n hx hb dX5_trial_39 rfl (lv_at hl 1 rfl) ?_
      refine lv_imul hx hb dX5_trial_40 ?_
      refine lv_iload_n hx hb dX5_trial_41 rfl (lv_at hl 2 rfl) ?_
      refine lv_iadd hx hb dX5_trial_42 ?_
      refine va_zald (i := (10 * p1) + p2) hx hb hK hP 6 1 g_m_trials rfl (ix_in (A := 12) (B := 10) (N := 120) (k := 10) (isM_in hI hv.1) (below_in (N := 10) hv.2 (by decide)) (by decide) (by decide) (by decide)) dX5_trial_43 ?_
      refine lv_istore (lv' := [(4, .int (gA σ7 6 ((10 * p1) + p2).toNatClampNeg)), (0, .ref (ad 0)), (1, .int p1), (2, .int p2), (3, .int p3)]) hx hb dX5_trial_44 hl (by decide) rfl (fun ls hl => ?_)
      refine lv_aload_n hx hb dX5_trial_46 rfl (lv_at hl 1 rfl) ?_
      refine va_get (D := D) (ci := 5) (v := .ref (ad 6)) (C := RX5) (T := TX5) (N := 27) hx hb ht inX5 hown hK hP 0 g_Md rfl 8 (by decide) (ht _ mw_581) (fun _ h9 => h9) rfl dX5_trial_47 ?_
      refine lv_bipush (v := 10) hx hb dX5_trial_50 (by decide) ?_
      refine lv_iload_n hx hb dX5_trial_52 rfl (lv_at hl 2 rfl) ?_
      refine lv_imul hx hb dX5_trial_53 ?_
      refine lv_iload_n hx hb dX5_trial_54 rfl (lv_at hl 3 rfl) ?_
      refine lv_iadd hx hb dX5_trial_55 ?_
      refine lv_iload_n hx hb dX5_trial_56 rfl (lv_at hl 4 rfl) ?_
      refine va_zast (i := (10 * p1) + p2) (x := p3) hx hb hK hP hD hS 6 1 g_m_trials rfl (ix_in (A := 12) (B := 10) (N := 120) (k := 10) (isM_in hI hv.1) (below_in (N := 10) hv.2 (by decide)) (by decide) (by decide) (by decide)) dX5_trial_57 (fun H locs hP hD hS => ?_)
      rw [nz01 hb3] at hP hD
      rw [s_m_trials] at hP hD
      refine lv_iload hx hb dX5_trial_58 (lv_at hl 0 rfl) ?_
      rw [eQ]
      exact W.zret (v := gA σ7 6 ((10 * p1) + p2).toNatClampNeg) hx hb hr (nb01 (hI1.2.2.2.2.2.2.1 _)) (fun t ht hW => ⟨⟨gA σ7 6 ((10 * p1) + p2).toNatClampNeg, (sA σ7 6 ((10 * p1) + p2).toNatClampNeg p3), rfl, hT, by rw [ht]; exact hP, va_K.moved hW.alike hK, hD⟩, hS.F ht⟩) hS.2.2 dX5_trial_60
    · rw [if_pos c8] at hT
      refine lv_iconst (v := 0) hx hb dX5_trial_31 (by decide) ?_
      rw [eQ]
      exact W.zret (v := 0) hx hb hr rfl (fun t ht hW => ⟨⟨0, σ7, rfl, hT, by rw [ht]; exact hP, va_K.moved hW.alike hK, hD⟩, hS.F ht⟩) hS.2.2 dX5_trial_32
set_option maxHeartbeats 4000000 in
set_option maxRecDepth 100000 in
theorem k_m_reason (l : Launch) (D : va_G) (ad : Nat → Nat) (kk : Nat → ClassId) (sz : Nat) (σ : St) (p1 : Int32) (p2 : Int32) (p3 : Int32) (p4 : Int32) (hI : IM σ) : Met l yX5_reason wsX5_reason { frames := 3, cells := 0, slots := 0, locals := 76 } (va_Pc [.ref (ad 0), .int p1, .int p2, .int p3, .int p4] (PM D ad kk sz σ)) (va_Qi (fun r u => (r, u) = M_m_reason σ p1 p2 p3 p4) (QM D ad kk sz) (aL 23 ad sz)) 0 0 (aL 23 ad sz) := by
  refine Met.ofW (cc := cX5_reason) (maxL := 5) (ret := (some .int)) (by decide) rfl ?_
  intro p e s m args below meth c s₁ B hml hv
  obtain ⟨rfl, hsz, hP, hK, hD0⟩ := hv
  have hx := B.exec
  have hb := B.bytes
  have hr := B.returns
  have hts := atoms_spec (ws := wsX5_reason) B.pre
  have hown : s.vm.findClass RX5 = some m.cls := findClass_of_methodNamed B.named
  have hlocks := B.notSynchronized
  subst hsz
  have hD : va_D (aL 23 ad s.heap.size) (wM ad kk σ) := aL_D hD0
  have hS : va_S (aL 23 ad s.heap.size) s.heap s.heap [] := va_S.rf
  have hl := lv_entry ([.ref (ad 0), .int p1, .int p2, .int p3, .int p4]) (n := 5) (Nat.le_of_ble_eq_true rfl)
  rw [lg_entry_eq]
  generalize (lg_sl ([.ref (ad 0), .int p1, .int p2, .int p3, .int p4]) ++ List.replicate (5 - (lg_sl ([.ref (ad 0), .int p1, .int p2, .int p3, .int p4])).length) Slot.unset).toArray = ls at hl ⊢
  have hl : lv_has ls 5 [(0, .ref (ad 0)), (1, .int p1), (2, .int p2), (3, .int p3), (4, .int p4)] := hl
  have CF : CallFix p m c cX5_reason 5 s ([.ref (ad 0), .int p1, .int p2, .int p3, .int p4] : List Value).toArray wsX5_reason RX5 := ⟨hx, hb, hml, hown, hts⟩
  have ht : ∀ w ∈ T0, w.before ([.ref (ad 0), .int p1, .int p2, .int p3, .int p4] : List Value).toArray s = true := fun w h => hts w (List.mem_cons_of_mem _ h)
  generalize hT : M_m_reason σ p1 p2 p3 p4 = T
  refine namedQ (fun Q eQ => ?_)
  rw [M_m_reason] at hT
  refine lv_aload_n hx hb dX5_reason_0 rfl (lv_at hl 0 rfl) ?_
  refine lv_aload_n hx hb dX5_reason_1 rfl (lv_at hl 0 rfl) ?_
  refine lv_iload_n hx hb dX5_reason_2 rfl (lv_at hl 1 rfl) ?_
  refine kM_i (va_runV (As := [.int p1]) (rest := [.ref (ad 0)]) CF (k_m_isObject l D ad kk _ σ p1) ⟨callB_of 1 hts (gT mw_709) rfl rfl rfl (ht _ mw_6) (ht _ mw_706) (by decide +kernel) ⟨Nat.le_of_ble_eq_true rfl, Nat.le_of_ble_eq_true rfl⟩, (ht _ mw_708), (ht _ ms_27)⟩ (preV_M hK hP hD hS (ci := 5) rfl rfl g_Md) rfl rfl hl.1 rfl (lv_room (Nat.le_of_ble_eq_true rfl)) dX5_reason_3 ⟨Nat.le_of_ble_eq_true rfl, Nat.le_of_ble_eq_true rfl⟩) hS (fun r1 u9 H locs hw hP hD hS => ?_)
  obtain ⟨rfl, e9⟩ := hw
  rw [e9] at hP hD
  refine jn (α := Int32) (E := (if (M_m_isObject σ p1) = 0 then 0 else (if (M_m_isMethod σ p2) = 0 then 0 else (if (M_m_below p3 8) = 0 then 0 else 1)))) (Kp := fun y => ∀ (H : Heap) (locs : List Loc), va_P D vwCl (wM ad kk σ) H → va_D (aL 23 ad s.heap.size) (wM ad kk σ) → va_S (aL 23 ad s.heap.size) s.heap H locs → W p l e (headSpec wsX5_reason { frames := 3, cells := 0, slots := 0, locals := 76 }).room s m ([.ref (ad 0), .int p1, .int p2, .int p3, .int p4] : List Value).toArray below meth c H locs 0 0 Q (F0 m 31 ls (.int y :: .ref (ad 0) :: []))) (fun Vy2 hVy2 Ky2 => ?_) (fun y2 hy_y2 => ?_)
  · refine lv_if_eq (tgt := 30) hx hb dX5_reason_6 (by decide) (fun c3 => ?_) (fun c3 => ?_)
    · rw [if_pos c3] at hVy2
      refine lv_iconst (v := 0) hx hb dX5_reason_30 (by decide) ?_
      exact Ky2 0 hVy2 _ _ hP hD hS
    · rw [if_neg c3] at hVy2
      refine lv_aload_n hx hb dX5_reason_9 rfl (lv_at hl 0 rfl) ?_
      refine lv_iload_n hx hb dX5_reason_10 rfl (lv_at hl 2 rfl) ?_
      refine kM_i (va_runV (As := [.int p2]) (rest := [.ref (ad 0)]) CF (k_m_isMethod l D ad kk _ σ p2) ⟨callB_of 1 hts (gT mw_690) rfl rfl rfl (ht _ mw_6) (ht _ mw_687) (by decide +kernel) ⟨Nat.le_of_ble_eq_true rfl, Nat.le_of_ble_eq_true rfl⟩, (ht _ mw_689), (ht _ ms_25)⟩ (preV_M hK hP hD hS (ci := 5) rfl rfl g_Md) rfl rfl hl.1 rfl (lv_room (Nat.le_of_ble_eq_true rfl)) dX5_reason_11 ⟨Nat.le_of_ble_eq_true rfl, Nat.le_of_ble_eq_true rfl⟩) hS (fun r4 u9 H locs hw hP hD hS => ?_)
      obtain ⟨rfl, e9⟩ := hw
      rw [e9] at hP hD
      refine lv_if_eq (tgt := 30) hx hb dX5_reason_14 (by decide) (fun c5 => ?_) (fun c5 => ?_)
      · rw [if_pos c5] at hVy2
        refine lv_iconst (v := 0) hx hb dX5_reason_30 (by decide) ?_
        exact Ky2 0 hVy2 _ _ hP hD hS
      · rw [if_neg c5] at hVy2
        refine lv_iload_n hx hb dX5_reason_17 rfl (lv_at hl 3 rfl) ?_
        refine lv_bipush (v := 8) hx hb dX5_reason_18 (by decide) ?_
        refine vp_callSi (W.runS (As := [.int p3, .int 8]) (rest := [.ref (ad 0)]) CF (k_m_below l p3 8) ⟨callB_of 2 hts (gT mw_693) rfl rfl rfl (ht _ mw_6) (ht _ mw_691) (by decide +kernel) ⟨Nat.le_of_ble_eq_true rfl, Nat.le_of_ble_eq_true rfl⟩, (ht _ mw_692)⟩ preEq rfl rfl hl.1 rfl (lv_room (Nat.le_of_ble_eq_true rfl)) dX5_reason_20 ⟨Nat.le_of_ble_eq_true rfl, Nat.le_of_ble_eq_true rfl⟩) (fun r6 h_r6 => ?_)
        obtain rfl := h_r6
        refine lv_if_eq (tgt := 30) hx hb dX5_reason_23 (by decide) (fun c7 => ?_) (fun c7 => ?_)
        · rw [if_pos c7] at hVy2
          refine lv_iconst (v := 0) hx hb dX5_reason_30 (by decide) ?_
          exact Ky2 0 hVy2 _ _ hP hD hS
        · rw [if_neg c7] at hVy2
          refine lv_iconst (v := 1) hx hb dX5_reason_26 (by decide) ?_
          refine lv_goto (tgt := 31) hx hb dX5_reason_27 (by decide) ?_
          exact Ky2 1 hVy2 _ _ hP hD hS
  · intro H locs hP hD hS
    rw [← hy_y2, vb_eq] at hT
    have h1 := hy_y2
    have b_y2 : y2 = 0 ∨ y2 = 1 := by rw [hy_y2]; (repeat' split) <;> first | exact Or.inl rfl | exact Or.inr rfl
    refine lv_iload hx hb dX5_reason_31 (lv_at hl 4 rfl) ?_
    refine vp_callSi (W.runS (As := [.int p4]) (rest := [.int y2, .ref (ad 0)]) CF (k_m_isHour l p4) ⟨callB_of 1 hts (gT mw_724) rfl rfl rfl (ht _ mw_6) (ht _ mw_722) (by decide +kernel) ⟨Nat.le_of_ble_eq_true rfl, Nat.le_of_ble_eq_true rfl⟩, (ht _ mw_723)⟩ preEq rfl rfl hl.1 rfl (lv_room (Nat.le_of_ble_eq_true rfl)) dX5_reason_33 ⟨Nat.le_of_ble_eq_true rfl, Nat.le_of_ble_eq_true rfl⟩) (fun r8 h_r8 => ?_)
    obtain rfl := h_r8
    refine lv_iconst (v := 1) hx hb dX5_reason_36 (by decide) ?_
    refine kM_i (va_runV (As := [.int y2, .int (M_m_isHour p4), .int 1]) (rest := []) CF (k_m_goes l D ad kk _ σ y2 (M_m_isHour p4) 1) ⟨callB_of 3 hts (gT mw_668) rfl rfl rfl (ht _ mw_6) (ht _ mw_665) (by decide +kernel) ⟨Nat.le_of_ble_eq_true rfl, Nat.le_of_ble_eq_true rfl⟩, (ht _ mw_667), (ht _ ms_23)⟩ (preV_M hK hP hD hS (ci := 5) rfl rfl g_Md) rfl rfl hl.1 rfl (lv_room (Nat.le_of_ble_eq_true rfl)) dX5_reason_37 ⟨Nat.le_of_ble_eq_true rfl, Nat.le_of_ble_eq_true rfl⟩) hS (fun r9 σ10 H locs hw hP hD hS => ?_)
    rw [← hw, pb_mk] at hT
    have h_r9 := hw
    have hg := h_r9
    have hI1 := IM.goes hI h_r9
    refine jn (α := Int32) (E := (if r9 = 0 then 0 else (M_m_why σ10 p1 p2 p3 p4))) (Kp := fun y => ∀ (H : Heap) (locs : List Loc), va_P D vwCl (wM ad kk σ10) H → va_D (aL 23 ad s.heap.size) (wM ad kk σ10) → va_S (aL 23 ad s.heap.size) s.heap H locs → W p l e (headSpec wsX5_reason { frames := 3, cells := 0, slots := 0, locals := 76 }).room s m ([.ref (ad 0), .int p1, .int p2, .int p3, .int p4] : List Value).toArray below meth c H locs 0 0 Q (F0 m 56 ls (.int y :: []))) (fun Vy11 hVy11 Ky11 => ?_) (fun y11 hy_y11 => ?_)
    · refine lv_if_eq (tgt := 55) hx hb dX5_reason_40 (by decide) (fun c12 => ?_) (fun c12 => ?_)
      · rw [if_pos c12] at hVy11
        refine lv_iconst (v := 0) hx hb dX5_reason_55 (by decide) ?_
        exact Ky11 0 hVy11 _ _ hP hD hS
      · rw [if_neg c12] at hVy11
        have hv := and3 h1 (goes_ok hg c12).1
        refine lv_aload_n hx hb dX5_reason_43 rfl (lv_at hl 0 rfl) ?_
        refine lv_iload_n hx hb dX5_reason_44 rfl (lv_at hl 1 rfl) ?_
        refine lv_iload_n hx hb dX5_reason_45 rfl (lv_at hl 2 rfl) ?_
        refine lv_iload_n hx hb dX5_reason_46 rfl (lv_at hl 3 rfl) ?_
        refine lv_iload hx hb dX5_reason_47 (lv_at hl 4 rfl) ?_
        refine kM_i (va_runV (As := [.int p1, .int p2, .int p3, .int p4]) (rest := []) CF (k_m_why l D ad kk _ σ10 p1 p2 p3 p4 (isO_in hI hv.1) (isM_in hI hv.2.1) (below_in (N := 8) hv.2.2 (by decide)) hI1) ⟨callB_of 4 hts (gT mw_729) rfl rfl rfl (ht _ mw_6) (ht _ mw_726) (by decide +kernel) ⟨Nat.le_of_ble_eq_true rfl, Nat.le_of_ble_eq_true rfl⟩, (ht _ mw_728), (ht _ ms_28)⟩ (preV_M hK hP hD hS (ci := 5) rfl rfl g_Md) rfl rfl hl.1 rfl (lv_room (Nat.le_of_ble_eq_true rfl)) dX5_reason_49 ⟨Nat.le_of_ble_eq_true rfl, Nat.le_of_ble_eq_true rfl⟩) hS (fun r13 u9 H locs hw hP hD hS => ?_)
        obtain ⟨rfl, e9⟩ := hw
        rw [e9] at hP hD
        refine lv_goto (tgt := 56) hx hb dX5_reason_52 (by decide) ?_
        exact Ky11 (M_m_why σ10 p1 p2 p3 p4) hVy11 _ _ hP hD hS
    · intro H locs hP hD hS
      rw [← hy_y11, vb_eq] at hT
      rw [eQ]
      exact W.iret (v := y11) hx hb hr (fun t ht hW => ⟨⟨y11, σ10, rfl, hT, by rw [ht]; exact hP, va_K.moved hW.alike hK, hD⟩, hS.F ht⟩) hS.2.2 dX5_reason_56
set_option maxHeartbeats 4000000 in
set_option maxRecDepth 100000 in
theorem k_m_row (l : Launch) (D : va_G) (ad : Nat → Nat) (kk : Nat → ClassId) (sz : Nat) (σ : St) (p1 : Int32) (p2 : Int32) (p3 : Int32) (hI : IM σ) : Met l yX5_row wsX5_row { frames := 2, cells := 0, slots := 0, locals := 42 } (va_Pc [.ref (ad 0), .int p1, .int p2, .int p3] (PM D ad kk sz σ)) (va_Qi (fun r u => (r, u) = M_m_row σ p1 p2 p3) (QM D ad kk sz) (aL 23 ad sz)) 0 0 (aL 23 ad sz) := by
  refine Met.ofW (cc := cX5_row) (maxL := 6) (ret := (some .int)) (by decide) rfl ?_
  intro p e s m args below meth c s₁ B hml hv
  obtain ⟨rfl, hsz, hP, hK, hD0⟩ := hv
  have hx := B.exec
  have hb := B.bytes
  have hr := B.returns
  have hts := atoms_spec (ws := wsX5_row) B.pre
  have hown : s.vm.findClass RX5 = some m.cls := findClass_of_methodNamed B.named
  have hlocks := B.notSynchronized
  subst hsz
  have hD : va_D (aL 23 ad s.heap.size) (wM ad kk σ) := aL_D hD0
  have hS : va_S (aL 23 ad s.heap.size) s.heap s.heap [] := va_S.rf
  have hl := lv_entry ([.ref (ad 0), .int p1, .int p2, .int p3]) (n := 6) (Nat.le_of_ble_eq_true rfl)
  rw [lg_entry_eq]
  generalize (lg_sl ([.ref (ad 0), .int p1, .int p2, .int p3]) ++ List.replicate (6 - (lg_sl ([.ref (ad 0), .int p1, .int p2, .int p3])).length) Slot.unset).toArray = ls at hl ⊢
  have hl : lv_has ls 6 [(0, .ref (ad 0)), (1, .int p1), (2, .int p2), (3, .int p3)] := hl
  have CF : CallFix p m c cX5_row 6 s ([.ref (ad 0), .int p1, .int p2, .int p3] : List Value).toArray wsX5_row RX5 := ⟨hx, hb, hml, hown, hts⟩
  have ht : ∀ w ∈ T0, w.before ([.ref (ad 0), .int p1, .int p2, .int p3] : List Value).toArray s = true := fun w h => hts w (List.mem_cons_of_mem _ h)
  generalize hT : M_m_row σ p1 p2 p3 = T
  refine namedQ (fun Q eQ => ?_)
  rw [M_m_row] at hT
  refine lv_aload_n hx hb dX5_row_0 rfl (lv_at hl 0 rfl) ?_
  refine lv_iload_n hx hb dX5_row_1 rfl (lv_at hl 1 rfl) ?_
  refine kM_i (va_runV (As := [.int p1]) (rest := []) CF (k_m_isObject l D ad kk _ σ p1) ⟨callB_of 1 hts (gT mw_709) rfl rfl rfl (ht _ mw_6) (ht _ mw_706) (by decide +kernel) ⟨Nat.le_of_ble_eq_true rfl, Nat.le_of_ble_eq_true rfl⟩, (ht _ mw_708), (ht _ ms_27)⟩ (preV_M hK hP hD hS (ci := 5) rfl rfl g_Md) rfl rfl hl.1 rfl (lv_room (Nat.le_of_ble_eq_true rfl)) dX5_row_2 ⟨Nat.le_of_ble_eq_true rfl, Nat.le_of_ble_eq_true rfl⟩) hS (fun r1 u9 H locs hw hP hD hS => ?_)
  obtain ⟨rfl, e9⟩ := hw
  rw [e9] at hP hD
  refine jn (α := Int32) (E := (if (M_m_isObject σ p1) = 0 then 0 else (if p2 < (-1) then 0 else (if p3 < 0 then 0 else (if 3 < p3 then 0 else 1))))) (Kp := fun y => ∀ (H : Heap) (locs : List Loc), va_P D vwCl (wM ad kk σ) H → va_D (aL 23 ad s.heap.size) (wM ad kk σ) → va_S (aL 23 ad s.heap.size) s.heap H locs → W p l e (headSpec wsX5_row { frames := 2, cells := 0, slots := 0, locals := 42 }).room s m ([.ref (ad 0), .int p1, .int p2, .int p3] : List Value).toArray below meth c H locs 0 0 Q (F0 m 27 ls (.int y :: []))) (fun Vy2 hVy2 Ky2 => ?_) (fun y2 hy_y2 => ?_)
  · refine lv_if_eq (tgt := 26) hx hb dX5_row_5 (by decide) (fun c3 => ?_) (fun c3 => ?_)
    · rw [if_pos c3] at hVy2
      refine lv_iconst (v := 0) hx hb dX5_row_26 (by decide) ?_
      exact Ky2 0 hVy2 _ _ hP hD hS
    · rw [if_neg c3] at hVy2
      refine lv_iload_n hx hb dX5_row_8 rfl (lv_at hl 2 rfl) ?_
      refine lv_iconst (v := (-1)) hx hb dX5_row_9 (by decide) ?_
      refine lv_icmp_lt (tgt := 26) hx hb dX5_row_10 (by decide) (fun c4 => ?_) (fun c4 => ?_)
      · rw [if_pos c4] at hVy2
        refine lv_iconst (v := 0) hx hb dX5_row_26 (by decide) ?_
        exact Ky2 0 hVy2 _ _ hP hD hS
      · rw [if_neg c4] at hVy2
        refine lv_iload_n hx hb dX5_row_13 rfl (lv_at hl 3 rfl) ?_
        refine lv_if_lt (tgt := 26) hx hb dX5_row_14 (by decide) (fun c5 => ?_) (fun c5 => ?_)
        · rw [if_pos c5] at hVy2
          refine lv_iconst (v := 0) hx hb dX5_row_26 (by decide) ?_
          exact Ky2 0 hVy2 _ _ hP hD hS
        · rw [if_neg c5] at hVy2
          refine lv_iload_n hx hb dX5_row_17 rfl (lv_at hl 3 rfl) ?_
          refine lv_iconst (v := 3) hx hb dX5_row_18 (by decide) ?_
          refine lv_icmp_gt (tgt := 26) hx hb dX5_row_19 (by decide) (fun c6 => ?_) (fun c6 => ?_)
          · rw [if_pos c6] at hVy2
            refine lv_iconst (v := 0) hx hb dX5_row_26 (by decide) ?_
            exact Ky2 0 hVy2 _ _ hP hD hS
          · rw [if_neg c6] at hVy2
            refine lv_iconst (v := 1) hx hb dX5_row_22 (by decide) ?_
            refine lv_goto (tgt := 27) hx hb dX5_row_23 (by decide) ?_
            exact Ky2 1 hVy2 _ _ hP hD hS
  · intro H locs hP hD hS
    rw [← hy_y2, vb_eq] at hT
    have h1 := hy_y2
    have b_y2 : y2 = 0 ∨ y2 = 1 := by rw [hy_y2]; (repeat' split) <;> first | exact Or.inl rfl | exact Or.inr rfl
    refine lv_istore (lv' := [(4, .int y2), (0, .ref (ad 0)), (1, .int p1), (2, .int p2), (3, .int p3)]) hx hb dX5_row_27 hl (by decide) rfl (fun ls hl => ?_)
    refine lv_aload_n hx hb dX5_row_29 rfl (lv_at hl 1 rfl) ?_
    refine lv_iload hx hb dX5_row_30 (lv_at hl 0 rfl) ?_
    refine jn (α := Int32) (E := (if y2 = 0 then 0 else (if (gA σ 10 p1.toNatClampNeg) ≤ p2 then 0 else 1))) (Kp := fun y => ∀ (H : Heap) (locs : List Loc), va_P D vwCl (wM ad kk σ) H → va_D (aL 23 ad s.heap.size) (wM ad kk σ) → va_S (aL 23 ad s.heap.size) s.heap H locs → W p l e (headSpec wsX5_row { frames := 2, cells := 0, slots := 0, locals := 42 }).room s m ([.ref (ad 0), .int p1, .int p2, .int p3] : List Value).toArray below meth c H locs 0 0 Q (F0 m 50 ls (.int y :: .ref (ad 0) :: []))) (fun Vy7 hVy7 Ky7 => ?_) (fun y7 hy_y7 => ?_)
    · refine lv_if_eq (tgt := 49) hx hb dX5_row_32 (by decide) (fun c8 => ?_) (fun c8 => ?_)
      · rw [if_pos c8] at hVy7
        refine lv_iconst (v := 0) hx hb dX5_row_49 (by decide) ?_
        exact Ky7 0 hVy7 _ _ hP hD hS
      · rw [if_neg c8] at hVy7
        have hk := rowk h1 c8
        refine lv_iload_n hx hb dX5_row_35 rfl (lv_at hl 3 rfl) ?_
        refine lv_aload_n hx hb dX5_row_36 rfl (lv_at hl 1 rfl) ?_
        refine va_get (D := D) (ci := 5) (v := .ref (ad 10)) (C := RX5) (T := TX5) (N := 27) hx hb ht inX5 hown hK hP 0 g_Md rfl 13 (by decide) (ht _ mw_586) (fun _ h9 => h9) rfl dX5_row_37 ?_
        refine lv_iload_n hx hb dX5_row_40 rfl (lv_at hl 2 rfl) ?_
        refine va_iald (i := p1) hx hb hK hP 10 0 g_m_rows rfl (isO_in hI hk.1) dX5_row_41 ?_
        refine lv_icmp_ge (tgt := 49) hx hb dX5_row_42 (by decide) (fun c9 => ?_) (fun c9 => ?_)
        · rw [if_pos c9] at hVy7
          refine lv_iconst (v := 0) hx hb dX5_row_49 (by decide) ?_
          exact Ky7 0 hVy7 _ _ hP hD hS
        · rw [if_neg c9] at hVy7
          refine lv_iconst (v := 1) hx hb dX5_row_45 (by decide) ?_
          refine lv_goto (tgt := 50) hx hb dX5_row_46 (by decide) ?_
          exact Ky7 1 hVy7 _ _ hP hD hS
    · intro H locs hP hD hS
      rw [← hy_y7, vb_eq] at hT
      have h2 := hy_y7
      have b_y7 : y7 = 0 ∨ y7 = 1 := by rw [hy_y7]; (repeat' split) <;> first | exact Or.inl rfl | exact Or.inr rfl
      refine lv_iconst (v := 1) hx hb dX5_row_50 (by decide) ?_
      refine lv_iconst (v := 1) hx hb dX5_row_51 (by decide) ?_
      refine kM_i (va_runV (As := [.int y7, .int 1, .int 1]) (rest := []) CF (k_m_goes l D ad kk _ σ y7 1 1) ⟨callB_of 3 hts (gT mw_668) rfl rfl rfl (ht _ mw_6) (ht _ mw_665) (by decide +kernel) ⟨Nat.le_of_ble_eq_true rfl, Nat.le_of_ble_eq_true rfl⟩, (ht _ mw_667), (ht _ ms_23)⟩ (preV_M hK hP hD hS (ci := 5) rfl rfl g_Md) rfl rfl hl.1 rfl (lv_room (Nat.le_of_ble_eq_true rfl)) dX5_row_52 ⟨Nat.le_of_ble_eq_true rfl, Nat.le_of_ble_eq_true rfl⟩) hS (fun r10 σ11 H locs hw hP hD hS => ?_)
      rw [← hw, pb_mk] at hT
      have h_r10 := hw
      have hg := h_r10
      have hI1 := IM.goes hI h_r10
      refine lv_if_ne (tgt := 60) hx hb dX5_row_55 (by decide) (fun c12 => ?_) (fun c12 => ?_)
      · rw [if_neg c12] at hT
        have hok := goes_ok hg c12
        have hv := rowv h1 h2 hok.1
        refine lv_bipush (v := 30) hx hb dX5_row_60 (by decide) ?_
        refine lv_iload_n hx hb dX5_row_62 rfl (lv_at hl 2 rfl) ?_
        refine lv_imul hx hb dX5_row_63 ?_
        refine lv_iload_n hx hb dX5_row_64 rfl (lv_at hl 3 rfl) ?_
        refine lv_iadd hx hb dX5_row_65 ?_
        refine lv_istore (lv' := [(5, .int ((30 * p1) + p2)), (4, .int y2), (0, .ref (ad 0)), (1, .int p1), (2, .int p2), (3, .int p3)]) hx hb dX5_row_66 hl (by decide) rfl (fun ls hl => ?_)
        refine lv_iload_n hx hb dX5_row_68 rfl (lv_at hl 4 rfl) ?_
        refine lv_iconst (v := (-1)) hx hb dX5_row_69 (by decide) ?_
        refine jn (α := Int32) (E := (if p2 = (-1) then (gA σ11 10 p1.toNatClampNeg) else (if p3 = 0 then (gA σ11 11 ((30 * p1) + p2).toNatClampNeg) else (if p3 = 1 then (gA σ11 12 ((30 * p1) + p2).toNatClampNeg) else (if p3 = 2 then (gA σ11 13 ((30 * p1) + p2).toNatClampNeg) else (gA σ11 14 ((30 * p1) + p2).toNatClampNeg)))))) (Kp := fun y => ∀ (H : Heap) (locs : List Loc), va_P D vwCl (wM ad kk σ11) H → va_D (aL 23 ad s.heap.size) (wM ad kk σ11) → va_S (aL 23 ad s.heap.size) s.heap H locs → W p l e (headSpec wsX5_row { frames := 2, cells := 0, slots := 0, locals := 42 }).room s m ([.ref (ad 0), .int p1, .int p2, .int p3] : List Value).toArray below meth c H locs 0 0 Q (F0 m 133 ls (.int y :: []))) (fun Vy13 hVy13 Ky13 => ?_) (fun y13 hy_y13 => ?_)
        · refine lv_icmp_ne (tgt := 82) hx hb dX5_row_70 (by decide) (fun c14 => ?_) (fun c14 => ?_)
          · rw [if_neg c14] at hVy13
            have hne := c14
            refine lv_iload_n hx hb dX5_row_82 rfl (lv_at hl 5 rfl) ?_
            refine lv_if_ne (tgt := 96) hx hb dX5_row_83 (by decide) (fun c15 => ?_) (fun c15 => ?_)
            · rw [if_neg c15] at hVy13
              refine lv_iload_n hx hb dX5_row_96 rfl (lv_at hl 5 rfl) ?_
              refine lv_iconst (v := 1) hx hb dX5_row_97 (by decide) ?_
              refine lv_icmp_ne (tgt := 111) hx hb dX5_row_98 (by decide) (fun c16 => ?_) (fun c16 => ?_)
              · rw [if_neg c16] at hVy13
                refine lv_iload_n hx hb dX5_row_111 rfl (lv_at hl 5 rfl) ?_
                refine lv_iconst (v := 2) hx hb dX5_row_112 (by decide) ?_
                refine lv_icmp_ne (tgt := 126) hx hb dX5_row_113 (by decide) (fun c17 => ?_) (fun c17 => ?_)
                · rw [if_neg c17] at hVy13
                  refine lv_aload_n hx hb dX5_row_126 rfl (lv_at hl 2 rfl) ?_
                  refine va_get (D := D) (ci := 5) (v := .ref (ad 14)) (C := RX5) (T := TX5) (N := 27) hx hb ht inX5 hown hK hP 0 g_Md rfl 17 (by decide) (ht _ mw_590) (fun _ h9 => h9) rfl dX5_row_127 ?_
                  refine lv_iload hx hb dX5_row_130 (lv_at hl 0 rfl) ?_
                  refine va_iald (i := (30 * p1) + p2) hx hb hK hP 14 0 g_m_rowSeconds rfl (rowm_in hI hv hne) dX5_row_132 ?_
                  exact Ky13 (gA σ11 14 ((30 * p1) + p2).toNatClampNeg) hVy13 _ _ hP hD hS
                · rw [if_pos c17] at hVy13
                  refine lv_aload_n hx hb dX5_row_116 rfl (lv_at hl 2 rfl) ?_
                  refine va_get (D := D) (ci := 5) (v := .ref (ad 13)) (C := RX5) (T := TX5) (N := 27) hx hb ht inX5 hown hK hP 0 g_Md rfl 16 (by decide) (ht _ mw_589) (fun _ h9 => h9) rfl dX5_row_117 ?_
                  refine lv_iload hx hb dX5_row_120 (lv_at hl 0 rfl) ?_
                  refine va_iald (i := (30 * p1) + p2) hx hb hK hP 13 0 g_m_rowPersons rfl (rowm_in hI hv hne) dX5_row_122 ?_
                  refine lv_goto (tgt := 133) hx hb dX5_row_123 (by decide) ?_
                  exact Ky13 (gA σ11 13 ((30 * p1) + p2).toNatClampNeg) hVy13 _ _ hP hD hS
              · rw [if_pos c16] at hVy13
                refine lv_aload_n hx hb dX5_row_101 rfl (lv_at hl 2 rfl) ?_
                refine va_get (D := D) (ci := 5) (v := .ref (ad 12)) (C := RX5) (T := TX5) (N := 27) hx hb ht inX5 hown hK hP 0 g_Md rfl 15 (by decide) (ht _ mw_588) (fun _ h9 => h9) rfl dX5_row_102 ?_
                refine lv_iload hx hb dX5_row_105 (lv_at hl 0 rfl) ?_
                refine va_iald (i := (30 * p1) + p2) hx hb hK hP 12 0 g_m_rowHours rfl (rowm_in hI hv hne) dX5_row_107 ?_
                refine lv_goto (tgt := 133) hx hb dX5_row_108 (by decide) ?_
                exact Ky13 (gA σ11 12 ((30 * p1) + p2).toNatClampNeg) hVy13 _ _ hP hD hS
            · rw [if_pos c15] at hVy13
              refine lv_aload_n hx hb dX5_row_86 rfl (lv_at hl 2 rfl) ?_
              refine va_get (D := D) (ci := 5) (v := .ref (ad 11)) (C := RX5) (T := TX5) (N := 27) hx hb ht inX5 hown hK hP 0 g_Md rfl 14 (by decide) (ht _ mw_587) (fun _ h9 => h9) rfl dX5_row_87 ?_
              refine lv_iload hx hb dX5_row_90 (lv_at hl 0 rfl) ?_
              refine va_iald (i := (30 * p1) + p2) hx hb hK hP 11 0 g_m_rowMethods rfl (rowm_in hI hv hne) dX5_row_92 ?_
              refine lv_goto (tgt := 133) hx hb dX5_row_93 (by decide) ?_
              exact Ky13 (gA σ11 11 ((30 * p1) + p2).toNatClampNeg) hVy13 _ _ hP hD hS
          · rw [if_pos c14] at hVy13
            refine lv_aload_n hx hb dX5_row_73 rfl (lv_at hl 2 rfl) ?_
            refine va_get (D := D) (ci := 5) (v := .ref (ad 10)) (C := RX5) (T := TX5) (N := 27) hx hb ht inX5 hown hK hP 0 g_Md rfl 13 (by decide) (ht _ mw_586) (fun _ h9 => h9) rfl dX5_row_74 ?_
            refine lv_iload_n hx hb dX5_row_77 rfl (lv_at hl 3 rfl) ?_
            refine va_iald (i := p1) hx hb hK hP 10 0 g_m_rows rfl (isO_in hI hv.1) dX5_row_78 ?_
            refine lv_goto (tgt := 133) hx hb dX5_row_79 (by decide) ?_
            exact Ky13 (gA σ11 10 p1.toNatClampNeg) hVy13 _ _ hP hD hS
        · intro H locs hP hD hS
          rw [← hy_y13, vb_eq] at hT
          rw [eQ]
          exact W.iret (v := y13) hx hb hr (fun t ht hW => ⟨⟨y13, σ11, rfl, hT, by rw [ht]; exact hP, va_K.moved hW.alike hK, hD⟩, hS.F ht⟩) hS.2.2 dX5_row_133
      · rw [if_pos c12] at hT
        refine lv_iconst (v := 0) hx hb dX5_row_58 (by decide) ?_
        rw [eQ]
        exact W.iret (v := 0) hx hb hr (fun t ht hW => ⟨⟨0, σ11, rfl, hT, by rw [ht]; exact hP, va_K.moved hW.alike hK, hD⟩, hS.F ht⟩) hS.2.2 dX5_row_59

set_option maxHeartbeats 4000000 in
set_option maxRecDepth 100000 in
theorem k_lowestNotLongEnoughAgo (l : Launch) (D : va_G) (ad : Nat → Nat) (kk : Nat → ClassId) (sz : Nat) (σ : St) (i0 : Nat) (i1 : Nat) (p2 : Int32) (h0 : i0 < 10) (h1 : i1 < 12) : Met l yX4_lowestNotLongEnoughAgo wsX4_lowestNotLongEnoughAgo { frames := 1, cells := 0, slots := 0, locals := 21 } (va_Pc [.ref (ad (pPi i0)), .ref (ad (pMe i1)), .int p2] (PB D ad kk sz σ)) (va_Qi (fun r u => r = M_lowestNotLongEnoughAgo σ i0 i1 p2 ∧ u = σ) (QB D ad kk sz) (aL 96 ad sz)) 0 0 (aL 96 ad sz) := by
  refine Met.ofW (cc := cX4_lowestNotLongEnoughAgo) (maxL := 4) (ret := (some .int)) (by decide) rfl ?_
  intro p e s m args below meth c s₁ B hml hv
  obtain ⟨rfl, hsz, hP, hK, hD0, hE⟩ := hv
  have hx := B.exec
  have hb := B.bytes
  have hr := B.returns
  have hts := atoms_spec (ws := wsX4_lowestNotLongEnoughAgo) B.pre
  have hown : s.vm.findClass RX4 = some m.cls := findClass_of_methodNamed B.named
  have hlocks := B.notSynchronized
  subst hsz
  have hD : va_D (aL 96 ad s.heap.size) (wB ad kk σ) := aL_D hD0
  have hS : va_S (aL 96 ad s.heap.size) s.heap s.heap [] := va_S.rf
  have hl := lv_entry ([.ref (ad (pPi i0)), .ref (ad (pMe i1)), .int p2]) (n := 4) (Nat.le_of_ble_eq_true rfl)
  rw [lg_entry_eq]
  generalize (lg_sl ([.ref (ad (pPi i0)), .ref (ad (pMe i1)), .int p2]) ++ List.replicate (4 - (lg_sl ([.ref (ad (pPi i0)), .ref (ad (pMe i1)), .int p2])).length) Slot.unset).toArray = ls at hl ⊢
  have hl : lv_has ls 4 [(0, .ref (ad (pPi i0))), (1, .ref (ad (pMe i1))), (2, .int p2)] := hl
  have CF : CallFix p m c cX4_lowestNotLongEnoughAgo 4 s ([.ref (ad (pPi i0)), .ref (ad (pMe i1)), .int p2] : List Value).toArray wsX4_lowestNotLongEnoughAgo RX4 := ⟨hx, hb, hml, hown, hts⟩
  have ht : ∀ w ∈ T0, w.before ([.ref (ad (pPi i0)), .ref (ad (pMe i1)), .int p2] : List Value).toArray s = true := fun w h => hts w (List.mem_cons_of_mem _ h)
  generalize hT : M_lowestNotLongEnoughAgo σ i0 i1 p2 = T
  refine namedQ (fun Q eQ => ?_)
  have L_2 : ∀ (n i102 : Nat) (H : Heap) (locs : List Loc) (ls : Array Slot), i102 ≤ 12 → 13 ≤ i102 + n → va_P D vwCl (wB ad kk σ) H → va_D (aL 96 ad s.heap.size) (wB ad kk σ) → va_S (aL 96 ad s.heap.size) s.heap H locs → lv_has ls 4 [(0, .ref (ad (pPi i0))), (1, .ref (ad (pMe i1))), (2, .int p2), (3, .int (nI i102))] → M_lowestNotLongEnoughAgo_h2 n i102 σ i1 i0 p2 = T → W p l e (headSpec wsX4_lowestNotLongEnoughAgo { frames := 1, cells := 0, slots := 0, locals := 21 }).room s m ([.ref (ad (pPi i0)), .ref (ad (pMe i1)), .int p2] : List Value).toArray below meth c H locs 0 0 Q (F0 m 2 ls []) := by
    intro n
    induction n with
    | zero =>
      intro i102 H locs ls h_le h_fu hP hD hS hl hT
      exact absurd h_fu (by omega)
    | succ n ih =>
      intro i102 H locs ls h_le h_fu hP hD hS hl hT
      rw [M_lowestNotLongEnoughAgo_h2] at hT
      refine lv_iload_n hx hb dX4_lowestNotLongEnoughAgo_2 rfl (lv_at hl 3 rfl) ?_
      refine lv_bipush (v := 12) hx hb dX4_lowestNotLongEnoughAgo_3 (by decide) ?_
      refine lv_icmp_ge (tgt := 55) hx hb dX4_lowestNotLongEnoughAgo_5 (by decide) (fun c1 => ?_) (fun c1 => ?_)
      · rw [if_pos c1] at hT
        refine lv_iconst (v := (-1)) hx hb dX4_lowestNotLongEnoughAgo_55 (by decide) ?_
        rw [eQ]
        exact W.iret (v := (-1)) hx hb hr (fun t ht hW => ⟨⟨(-1), σ, rfl, ⟨hT, rfl⟩, by rw [ht]; exact hP, va_K.moved hW.alike hK, hD⟩, hS.F ht⟩) hS.2.2 dX4_lowestNotLongEnoughAgo_56
      · rw [if_neg c1] at hT
        have h_lt := lp_lt (N := 12) (by decide) (by decide) h_le c1
        refine lv_aload_n hx hb dX4_lowestNotLongEnoughAgo_8 rfl (lv_at hl 1 rfl) ?_
        refine va_get (D := D) (ci := 1) (v := .int (gF σ (pMe i1) 4)) (C := RX1) (T := TX1) (N := 9) hx hb ht inX1 hown hK hP (pMe i1) (g_Me h1) rfl 4 (by decide) (ht _ mw_65) (fun _ h9 => h9) rfl dX4_lowestNotLongEnoughAgo_9 ?_
        refine lv_iload_n hx hb dX4_lowestNotLongEnoughAgo_12 rfl (lv_at hl 3 rfl) ?_
        refine vp_callSi (W.runS (As := [.int (gF σ (pMe i1) 4), .int (nI i102)]) (rest := []) CF (k_has l (gF σ (pMe i1) 4) (nI i102)) ⟨callB_of 2 hts (gT mw_402) rfl rfl rfl (ht _ mw_1) (ht _ mw_400) (by decide +kernel) ⟨Nat.le_of_ble_eq_true rfl, Nat.le_of_ble_eq_true rfl⟩, (ht _ mw_401)⟩ preEq rfl rfl hl.1 rfl (lv_room (Nat.le_of_ble_eq_true rfl)) dX4_lowestNotLongEnoughAgo_13 ⟨Nat.le_of_ble_eq_true rfl, Nat.le_of_ble_eq_true rfl⟩) (fun r2 h_r2 => ?_)
        obtain rfl := h_r2
        refine lv_if_eq (tgt := 49) hx hb dX4_lowestNotLongEnoughAgo_16 (by decide) (fun c3 => ?_) (fun c3 => ?_)
        · rw [if_pos c3] at hT
          refine lv_iinc (v := nI (i102 + 1)) (lv' := [(3, .int (nI (i102 + 1))), (0, .ref (ad (pPi i0))), (1, .ref (ad (pMe i1))), (2, .int p2)]) hx hb dX4_lowestNotLongEnoughAgo_49 hl (k := 3) rfl (nI_1 i102) (by decide) rfl (fun ls hl => ?_)
          refine lv_goto (tgt := 2) hx hb dX4_lowestNotLongEnoughAgo_52 (by decide) ?_
          exact ih  (i102 + 1) _ _ ls h_lt (by omega) hP hD hS (lv_sub hl [1, 2, 3, 0] rfl) hT
        · rw [if_neg c3] at hT
          refine lv_aload_n hx hb dX4_lowestNotLongEnoughAgo_19 rfl (lv_at hl 0 rfl) ?_
          refine va_get (D := D) (ci := 3) (v := .int (gF σ (pPi i0) 6)) (C := RX3) (T := TX3) (N := 8) hx hb ht inX3 hown hK hP (pPi i0) (g_Pi h0) rfl 6 (by decide) (ht _ mw_112) (fun _ h9 => h9) rfl dX4_lowestNotLongEnoughAgo_20 ?_
          refine lv_iload_n hx hb dX4_lowestNotLongEnoughAgo_23 rfl (lv_at hl 3 rfl) ?_
          refine vp_callSi (W.runS (As := [.int (gF σ (pPi i0) 6), .int (nI i102)]) (rest := []) CF (k_has l (gF σ (pPi i0) 6) (nI i102)) ⟨callB_of 2 hts (gT mw_402) rfl rfl rfl (ht _ mw_1) (ht _ mw_400) (by decide +kernel) ⟨Nat.le_of_ble_eq_true rfl, Nat.le_of_ble_eq_true rfl⟩, (ht _ mw_401)⟩ preEq rfl rfl hl.1 rfl (lv_room (Nat.le_of_ble_eq_true rfl)) dX4_lowestNotLongEnoughAgo_24 ⟨Nat.le_of_ble_eq_true rfl, Nat.le_of_ble_eq_true rfl⟩) (fun r4 h_r4 => ?_)
          obtain rfl := h_r4
          refine lv_if_eq (tgt := 47) hx hb dX4_lowestNotLongEnoughAgo_27 (by decide) (fun c5 => ?_) (fun c5 => ?_)
          · rw [if_pos c5] at hT
            refine lv_iload_n hx hb dX4_lowestNotLongEnoughAgo_47 rfl (lv_at hl 3 rfl) ?_
            rw [eQ]
            exact W.iret (v := nI i102) hx hb hr (fun t ht hW => ⟨⟨nI i102, σ, rfl, ⟨hT, rfl⟩, by rw [ht]; exact hP, va_K.moved hW.alike hK, hD⟩, hS.F ht⟩) hS.2.2 dX4_lowestNotLongEnoughAgo_48
          · rw [if_neg c5] at hT
            refine lv_iload_n hx hb dX4_lowestNotLongEnoughAgo_30 rfl (lv_at hl 2 rfl) ?_
            refine lv_aload_n hx hb dX4_lowestNotLongEnoughAgo_31 rfl (lv_at hl 0 rfl) ?_
            refine va_get (D := D) (ci := 3) (v := .ref (ad (pPi i0 + 3))) (C := RX3) (T := TX3) (N := 8) hx hb ht inX3 hown hK hP (pPi i0) (g_Pi h0) rfl 2 (by decide) (ht _ mw_104) (fun _ h9 => h9) rfl dX4_lowestNotLongEnoughAgo_32 ?_
            refine lv_iload_n hx hb dX4_lowestNotLongEnoughAgo_35 rfl (lv_at hl 3 rfl) ?_
            refine va_iald (i := nI i102) hx hb hK hP (pPi i0 + 3) 0 (g_Pl h0) rfl (vp_in_nI h_lt (by decide)) dX4_lowestNotLongEnoughAgo_36 ?_
            rw [nI_clamp (n := i102) (by omega)]
            refine lv_isub hx hb dX4_lowestNotLongEnoughAgo_37 ?_
            refine lv_aload_n hx hb dX4_lowestNotLongEnoughAgo_38 rfl (lv_at hl 1 rfl) ?_
            refine va_get (D := D) (ci := 1) (v := .ref (ad (pMe i1 + 2))) (C := RX1) (T := TX1) (N := 9) hx hb ht inX1 hown hK hP (pMe i1) (g_Me h1) rfl 1 (by decide) (ht _ mw_56) (fun _ h9 => h9) rfl dX4_lowestNotLongEnoughAgo_39 ?_
            refine lv_iload_n hx hb dX4_lowestNotLongEnoughAgo_42 rfl (lv_at hl 3 rfl) ?_
            refine va_iald (i := nI i102) hx hb hK hP (pMe i1 + 2) 0 (g_Mh h1) rfl (vp_in_nI h_lt (by decide)) dX4_lowestNotLongEnoughAgo_43 ?_
            rw [nI_clamp (n := i102) (by omega)]
            refine lv_icmp_ge (tgt := 49) hx hb dX4_lowestNotLongEnoughAgo_44 (by decide) (fun c6 => ?_) (fun c6 => ?_)
            · rw [if_pos c6] at hT
              refine lv_iinc (v := nI (i102 + 1)) (lv' := [(3, .int (nI (i102 + 1))), (0, .ref (ad (pPi i0))), (1, .ref (ad (pMe i1))), (2, .int p2)]) hx hb dX4_lowestNotLongEnoughAgo_49 hl (k := 3) rfl (nI_1 i102) (by decide) rfl (fun ls hl => ?_)
              refine lv_goto (tgt := 2) hx hb dX4_lowestNotLongEnoughAgo_52 (by decide) ?_
              exact ih  (i102 + 1) _ _ ls h_lt (by omega) hP hD hS (lv_sub hl [1, 2, 3, 0] rfl) hT
            · rw [if_neg c6] at hT
              refine lv_iload_n hx hb dX4_lowestNotLongEnoughAgo_47 rfl (lv_at hl 3 rfl) ?_
              rw [eQ]
              exact W.iret (v := nI i102) hx hb hr (fun t ht hW => ⟨⟨nI i102, σ, rfl, ⟨hT, rfl⟩, by rw [ht]; exact hP, va_K.moved hW.alike hK, hD⟩, hS.F ht⟩) hS.2.2 dX4_lowestNotLongEnoughAgo_48
  rw [M_lowestNotLongEnoughAgo] at hT
  refine lv_iconst (v := 0) hx hb dX4_lowestNotLongEnoughAgo_0 (by decide) ?_
  refine lv_istore_n (lv' := [(3, .int 0), (0, .ref (ad (pPi i0))), (1, .ref (ad (pMe i1))), (2, .int p2)]) hx hb dX4_lowestNotLongEnoughAgo_1 rfl hl (by decide) rfl (fun ls hl => ?_)
  exact L_2 13 0 _ _ ls (Nat.zero_le _) (by decide) hP hD hS (lv_sub hl [1, 2, 3, 0] rfl) hT
set_option maxHeartbeats 4000000 in
set_option maxRecDepth 100000 in
theorem k_lowestLacking (l : Launch) (D : va_G) (ad : Nat → Nat) (kk : Nat → ClassId) (sz : Nat) (σ : St) (i1 : Nat) (h1 : i1 < 12) : Met l yX4_lowestLacking wsX4_lowestLacking { frames := 0, cells := 0, slots := 0, locals := 0 } (va_Pc [.ref (ad 0), .ref (ad (pMe i1))] (PB D ad kk sz σ)) (va_Qi (fun r u => r = M_lowestLacking σ i1 ∧ u = σ) (QB D ad kk sz) (aL 96 ad sz)) 0 0 (aL 96 ad sz) := by
  refine Met.ofW (cc := cX4_lowestLacking) (maxL := 3) (ret := (some .int)) (by decide) rfl ?_
  intro p e s m args below meth c s₁ B hml hv
  obtain ⟨rfl, hsz, hP, hK, hD0, hE⟩ := hv
  have hx := B.exec
  have hb := B.bytes
  have hr := B.returns
  have hts := atoms_spec (ws := wsX4_lowestLacking) B.pre
  have hown : s.vm.findClass RX4 = some m.cls := findClass_of_methodNamed B.named
  have hlocks := B.notSynchronized
  subst hsz
  have hD : va_D (aL 96 ad s.heap.size) (wB ad kk σ) := aL_D hD0
  have hS : va_S (aL 96 ad s.heap.size) s.heap s.heap [] := va_S.rf
  have hl := lv_entry ([.ref (ad 0), .ref (ad (pMe i1))]) (n := 3) (Nat.le_of_ble_eq_true rfl)
  rw [lg_entry_eq]
  generalize (lg_sl ([.ref (ad 0), .ref (ad (pMe i1))]) ++ List.replicate (3 - (lg_sl ([.ref (ad 0), .ref (ad (pMe i1))])).length) Slot.unset).toArray = ls at hl ⊢
  have hl : lv_has ls 3 [(0, .ref (ad 0)), (1, .ref (ad (pMe i1)))] := hl
  have CF : CallFix p m c cX4_lowestLacking 3 s ([.ref (ad 0), .ref (ad (pMe i1))] : List Value).toArray wsX4_lowestLacking RX4 := ⟨hx, hb, hml, hown, hts⟩
  have ht : ∀ w ∈ T0, w.before ([.ref (ad 0), .ref (ad (pMe i1))] : List Value).toArray s = true := fun w h => hts w (List.mem_cons_of_mem _ h)
  generalize hT : M_lowestLacking σ i1 = T
  refine namedQ (fun Q eQ => ?_)
  have L_2 : ∀ (n i102 : Nat) (H : Heap) (locs : List Loc) (ls : Array Slot), i102 ≤ 12 → 13 ≤ i102 + n → va_P D vwCl (wB ad kk σ) H → va_D (aL 96 ad s.heap.size) (wB ad kk σ) → va_S (aL 96 ad s.heap.size) s.heap H locs → lv_has ls 3 [(0, .ref (ad 0)), (1, .ref (ad (pMe i1))), (2, .int (nI i102))] → M_lowestLacking_h2 n i102 σ i1 = T → W p l e (headSpec wsX4_lowestLacking { frames := 0, cells := 0, slots := 0, locals := 0 }).room s m ([.ref (ad 0), .ref (ad (pMe i1))] : List Value).toArray below meth c H locs 0 0 Q (F0 m 2 ls []) := by
    intro n
    induction n with
    | zero =>
      intro i102 H locs ls h_le h_fu hP hD hS hl hT
      exact absurd h_fu (by omega)
    | succ n ih =>
      intro i102 H locs ls h_le h_fu hP hD hS hl hT
      rw [M_lowestLacking_h2] at hT
      refine lv_iload_n hx hb dX4_lowestLacking_2 rfl (lv_at hl 2 rfl) ?_
      refine lv_bipush (v := 12) hx hb dX4_lowestLacking_3 (by decide) ?_
      refine lv_icmp_ge (tgt := 34) hx hb dX4_lowestLacking_5 (by decide) (fun c1 => ?_) (fun c1 => ?_)
      · rw [if_pos c1] at hT
        refine lv_iconst (v := (-1)) hx hb dX4_lowestLacking_34 (by decide) ?_
        rw [eQ]
        exact W.iret (v := (-1)) hx hb hr (fun t ht hW => ⟨⟨(-1), σ, rfl, ⟨hT, rfl⟩, by rw [ht]; exact hP, va_K.moved hW.alike hK, hD⟩, hS.F ht⟩) hS.2.2 dX4_lowestLacking_35
      · rw [if_neg c1] at hT
        have h_lt := lp_lt (N := 12) (by decide) (by decide) h_le c1
        refine lv_aload_n hx hb dX4_lowestLacking_8 rfl (lv_at hl 0 rfl) ?_
        refine va_get (D := D) (ci := 4) (v := .ref (ad 81)) (C := RX4) (T := TX4) (N := 9) hx hb ht inX4 hown hK hP 0 g_MB rfl 3 (by decide) (ht _ mw_162) (fun _ h9 => h9) rfl dX4_lowestLacking_9 ?_
        refine lv_iload_n hx hb dX4_lowestLacking_12 rfl (lv_at hl 2 rfl) ?_
        refine va_aldq (i := nI i102) hx hb hK hP 81 3 g_goods rfl (vp_in_nI h_lt (by decide)) dX4_lowestLacking_13 ?_
        rw [nI_clamp (n := i102) (by omega)]
        refine W.eq (g2 := F0 m 14 ls (.ref (ad (pGo i102)) :: [])) rfl ?_
        refine va_get (D := D) (ci := 0) (v := .int (gF σ (pGo i102) 0)) (C := RX0) (T := TX0) (N := 5) hx hb ht inX0 hown hK hP (pGo i102) (g_Go h_lt) rfl 0 (by decide) (ht _ mw_140) (fun _ h9 => h9) rfl dX4_lowestLacking_14 ?_
        refine lv_aload_n hx hb dX4_lowestLacking_17 rfl (lv_at hl 1 rfl) ?_
        refine va_get (D := D) (ci := 1) (v := .ref (ad (pMe i1 + 1))) (C := RX1) (T := TX1) (N := 9) hx hb ht inX1 hown hK hP (pMe i1) (g_Me h1) rfl 0 (by decide) (ht _ mw_52) (fun _ h9 => h9) rfl dX4_lowestLacking_18 ?_
        refine lv_iload_n hx hb dX4_lowestLacking_21 rfl (lv_at hl 2 rfl) ?_
        refine va_iald (i := nI i102) hx hb hK hP (pMe i1 + 1) 0 (g_Ma h1) rfl (vp_in_nI h_lt (by decide)) dX4_lowestLacking_22 ?_
        rw [nI_clamp (n := i102) (by omega)]
        refine lv_icmp_ge (tgt := 28) hx hb dX4_lowestLacking_23 (by decide) (fun c2 => ?_) (fun c2 => ?_)
        · rw [if_pos c2] at hT
          refine lv_iinc (v := nI (i102 + 1)) (lv' := [(2, .int (nI (i102 + 1))), (0, .ref (ad 0)), (1, .ref (ad (pMe i1)))]) hx hb dX4_lowestLacking_28 hl (k := 2) rfl (nI_1 i102) (by decide) rfl (fun ls hl => ?_)
          refine lv_goto (tgt := 2) hx hb dX4_lowestLacking_31 (by decide) ?_
          exact ih  (i102 + 1) _ _ ls h_lt (by omega) hP hD hS (lv_sub hl [1, 2, 0] rfl) hT
        · rw [if_neg c2] at hT
          refine lv_iload_n hx hb dX4_lowestLacking_26 rfl (lv_at hl 2 rfl) ?_
          rw [eQ]
          exact W.iret (v := nI i102) hx hb hr (fun t ht hW => ⟨⟨nI i102, σ, rfl, ⟨hT, rfl⟩, by rw [ht]; exact hP, va_K.moved hW.alike hK, hD⟩, hS.F ht⟩) hS.2.2 dX4_lowestLacking_27
  rw [M_lowestLacking] at hT
  refine lv_iconst (v := 0) hx hb dX4_lowestLacking_0 (by decide) ?_
  refine lv_istore_n (lv' := [(2, .int 0), (0, .ref (ad 0)), (1, .ref (ad (pMe i1)))]) hx hb dX4_lowestLacking_1 rfl hl (by decide) rfl (fun ls hl => ?_)
  exact L_2 13 0 _ _ ls (Nat.zero_le _) (by decide) hP hD hS (lv_sub hl [1, 2, 0] rfl) hT
set_option maxHeartbeats 4000000 in
set_option maxRecDepth 100000 in
theorem k_reasonAgainst (l : Launch) (D : va_G) (ad : Nat → Nat) (kk : Nat → ClassId) (sz : Nat) (σ : St) (i1 : Nat) (i2 : Nat) (p3 : Int32) (p4 : Int32) (h1 : i1 < 10) (h2 : i2 < 12) (hp : (gF σ (pPi i1) 3).toInt ≤ 8) : Met l yX4_reasonAgainst wsX4_reasonAgainst { frames := 2, cells := 0, slots := 0, locals := 44 } (va_Pc [.ref (ad 0), .ref (ad (pPi i1)), .ref (ad (pMe i2)), .int p3, .int p4] (PB D ad kk sz σ)) (va_Qi (fun r u => r = M_reasonAgainst σ i1 i2 p3 p4 ∧ u = σ) (QB D ad kk sz) (aL 96 ad sz)) 0 0 (aL 96 ad sz) := by
  refine Met.ofW (cc := cX4_reasonAgainst) (maxL := 10) (ret := (some .int)) (by decide) rfl ?_
  intro p e s m args below meth c s₁ B hml hv
  obtain ⟨rfl, hsz, hP, hK, hD0, hE⟩ := hv
  have hx := B.exec
  have hb := B.bytes
  have hr := B.returns
  have hts := atoms_spec (ws := wsX4_reasonAgainst) B.pre
  have hown : s.vm.findClass RX4 = some m.cls := findClass_of_methodNamed B.named
  have hlocks := B.notSynchronized
  subst hsz
  have hD : va_D (aL 96 ad s.heap.size) (wB ad kk σ) := aL_D hD0
  have hS : va_S (aL 96 ad s.heap.size) s.heap s.heap [] := va_S.rf
  have hl := lv_entry ([.ref (ad 0), .ref (ad (pPi i1)), .ref (ad (pMe i2)), .int p3, .int p4]) (n := 10) (Nat.le_of_ble_eq_true rfl)
  rw [lg_entry_eq]
  generalize (lg_sl ([.ref (ad 0), .ref (ad (pPi i1)), .ref (ad (pMe i2)), .int p3, .int p4]) ++ List.replicate (10 - (lg_sl ([.ref (ad 0), .ref (ad (pPi i1)), .ref (ad (pMe i2)), .int p3, .int p4])).length) Slot.unset).toArray = ls at hl ⊢
  have hl : lv_has ls 10 [(0, .ref (ad 0)), (1, .ref (ad (pPi i1))), (2, .ref (ad (pMe i2))), (3, .int p3), (4, .int p4)] := hl
  have CF : CallFix p m c cX4_reasonAgainst 10 s ([.ref (ad 0), .ref (ad (pPi i1)), .ref (ad (pMe i2)), .int p3, .int p4] : List Value).toArray wsX4_reasonAgainst RX4 := ⟨hx, hb, hml, hown, hts⟩
  have ht : ∀ w ∈ T0, w.before ([.ref (ad 0), .ref (ad (pPi i1)), .ref (ad (pMe i2)), .int p3, .int p4] : List Value).toArray s = true := fun w h => hts w (List.mem_cons_of_mem _ h)
  generalize hT : M_reasonAgainst σ i1 i2 p3 p4 = T
  rw [M_reasonAgainst] at hT
  refine lv_aload_n hx hb dX4_reasonAgainst_0 rfl (lv_at hl 1 rfl) ?_
  refine lv_aload_n hx hb dX4_reasonAgainst_1 rfl (lv_at hl 2 rfl) ?_
  refine va_get (D := D) (ci := 1) (v := .int (gF σ (pMe i2) 2)) (C := RX1) (T := TX1) (N := 9) hx hb ht inX1 hown hK hP (pMe i2) (g_Me h2) rfl 2 (by decide) (ht _ mw_59) (fun _ h9 => h9) rfl dX4_reasonAgainst_2 ?_
  refine kB_i (va_runV (As := [.int (gF σ (pMe i2) 2)]) (rest := []) CF (k_firstPartOf l D ad kk _ σ i1 (gF σ (pMe i2) 2) h1 hp) ⟨callB_of 1 hts (gT mw_430) rfl rfl rfl (ht _ mw_4) (ht _ mw_427) (by decide +kernel) ⟨Nat.le_of_ble_eq_true rfl, Nat.le_of_ble_eq_true rfl⟩, (ht _ mw_428), (ht _ mw_429)⟩ (preV_B hK hP hD hE hS (ci := 3) rfl rfl (g_Pi h1)) rfl rfl hl.1 rfl (lv_room (Nat.le_of_ble_eq_true rfl)) dX4_reasonAgainst_5 ⟨Nat.le_of_ble_eq_true rfl, Nat.le_of_ble_eq_true rfl⟩) hS (fun r1 u9 H locs hw hP hD hS => ?_)
  obtain ⟨rfl, e9⟩ := hw
  rw [e9] at hP hD
  refine lv_istore (lv' := [(5, .int (M_firstPartOf σ i1 (gF σ (pMe i2) 2))), (0, .ref (ad 0)), (1, .ref (ad (pPi i1))), (2, .ref (ad (pMe i2))), (3, .int p3), (4, .int p4)]) hx hb dX4_reasonAgainst_8 hl (by decide) rfl (fun ls hl => ?_)
  refine lv_iload hx hb dX4_reasonAgainst_10 (lv_at hl 0 rfl) ?_
  refine lv_iconst (v := (-1)) hx hb dX4_reasonAgainst_12 (by decide) ?_
  refine lv_icmp_eq (tgt := 22) hx hb dX4_reasonAgainst_13 (by decide) (fun c2 => ?_) (fun c2 => ?_)
  · rw [if_pos c2] at hT
    refine lv_aload_n hx hb dX4_reasonAgainst_22 rfl (lv_at hl 3 rfl) ?_
    refine va_get (D := D) (ci := 1) (v := .int (gF σ (pMe i2) 3)) (C := RX1) (T := TX1) (N := 9) hx hb ht inX1 hown hK hP (pMe i2) (g_Me h2) rfl 3 (by decide) (ht _ mw_62) (fun _ h9 => h9) rfl dX4_reasonAgainst_23 ?_
    refine lv_aload_n hx hb dX4_reasonAgainst_26 rfl (lv_at hl 2 rfl) ?_
    refine va_get (D := D) (ci := 3) (v := .int (gF σ (pPi i1) 6)) (C := RX3) (T := TX3) (N := 8) hx hb ht inX3 hown hK hP (pPi i1) (g_Pi h1) rfl 6 (by decide) (ht _ mw_112) (fun _ h9 => h9) rfl dX4_reasonAgainst_27 ?_
    refine lv_iand hx hb dX4_reasonAgainst_30 ?_
    refine vp_callSi (W.runS (As := [.int ((gF σ (pMe i2) 3) &&& (gF σ (pPi i1) 6))]) (rest := []) CF (k_lowest l ((gF σ (pMe i2) 3) &&& (gF σ (pPi i1) 6))) ⟨callB_of 1 hts (gT mw_434) rfl rfl rfl (ht _ mw_1) (ht _ mw_432) (by decide +kernel) ⟨Nat.le_of_ble_eq_true rfl, Nat.le_of_ble_eq_true rfl⟩, (ht _ mw_433)⟩ preEq rfl rfl hl.1 rfl (lv_room (Nat.le_of_ble_eq_true rfl)) dX4_reasonAgainst_31 ⟨Nat.le_of_ble_eq_true rfl, Nat.le_of_ble_eq_true rfl⟩) (fun r3 h_r3 => ?_)
    obtain rfl := h_r3
    refine lv_istore (lv' := [(6, .int (M_lowest ((gF σ (pMe i2) 3) &&& (gF σ (pPi i1) 6)))), (5, .int (M_firstPartOf σ i1 (gF σ (pMe i2) 2))), (0, .ref (ad 0)), (1, .ref (ad (pPi i1))), (2, .ref (ad (pMe i2))), (3, .int p3), (4, .int p4)]) hx hb dX4_reasonAgainst_34 hl (by decide) rfl (fun ls hl => ?_)
    refine lv_iload hx hb dX4_reasonAgainst_36 (lv_at hl 0 rfl) ?_
    refine lv_iconst (v := (-1)) hx hb dX4_reasonAgainst_38 (by decide) ?_
    refine lv_icmp_eq (tgt := 49) hx hb dX4_reasonAgainst_39 (by decide) (fun c4 => ?_) (fun c4 => ?_)
    · rw [if_pos c4] at hT
      refine lv_aload_n hx hb dX4_reasonAgainst_49 rfl (lv_at hl 3 rfl) ?_
      refine lv_aload_n hx hb dX4_reasonAgainst_50 rfl (lv_at hl 4 rfl) ?_
      refine lv_iload hx hb dX4_reasonAgainst_51 (lv_at hl 6 rfl) ?_
      refine kB_i (va_runS (As := [.ref (ad (pPi i1)), .ref (ad (pMe i2)), .int p4]) (rest := []) CF (k_lowestNotLongEnoughAgo l D ad kk _ σ i1 i2 p4 h1 h2) ⟨callB_of 3 hts (gT mw_437) rfl rfl rfl (ht _ mw_1) (ht _ mw_435) (by decide +kernel) ⟨Nat.le_of_ble_eq_true rfl, Nat.le_of_ble_eq_true rfl⟩, (ht _ mw_436)⟩ (preS_B hK hP hD hE hS) rfl rfl hl.1 rfl (lv_room (Nat.le_of_ble_eq_true rfl)) dX4_reasonAgainst_53 ⟨Nat.le_of_ble_eq_true rfl, Nat.le_of_ble_eq_true rfl⟩) hS (fun r5 u9 H locs hw hP hD hS => ?_)
      obtain ⟨rfl, e9⟩ := hw
      rw [e9] at hP hD
      refine lv_istore (lv' := [(7, .int (M_lowestNotLongEnoughAgo σ i1 i2 p4)), (6, .int (M_lowest ((gF σ (pMe i2) 3) &&& (gF σ (pPi i1) 6)))), (5, .int (M_firstPartOf σ i1 (gF σ (pMe i2) 2))), (0, .ref (ad 0)), (1, .ref (ad (pPi i1))), (2, .ref (ad (pMe i2))), (3, .int p3), (4, .int p4)]) hx hb dX4_reasonAgainst_56 hl (by decide) rfl (fun ls hl => ?_)
      refine lv_iload hx hb dX4_reasonAgainst_58 (lv_at hl 0 rfl) ?_
      refine lv_iconst (v := (-1)) hx hb dX4_reasonAgainst_60 (by decide) ?_
      refine lv_icmp_eq (tgt := 71) hx hb dX4_reasonAgainst_61 (by decide) (fun c6 => ?_) (fun c6 => ?_)
      · rw [if_pos c6] at hT
        refine lv_aload_n hx hb dX4_reasonAgainst_71 rfl (lv_at hl 5 rfl) ?_
        refine va_get (D := D) (ci := 1) (v := .int (gF σ (pMe i2) 5)) (C := RX1) (T := TX1) (N := 9) hx hb ht inX1 hown hK hP (pMe i2) (g_Me h2) rfl 5 (by decide) (ht _ mw_68) (fun _ h9 => h9) rfl dX4_reasonAgainst_72 ?_
        refine lv_if_eq (tgt := 95) hx hb dX4_reasonAgainst_75 (by decide) (fun c7 => ?_) (fun c7 => ?_)
        · rw [if_pos c7] at hT
          refine lv_iconst (v := (-1)) hx hb dX4_reasonAgainst_95 (by decide) ?_
          refine lv_istore (lv' := [(8, .int (-1)), (7, .int (M_lowestNotLongEnoughAgo σ i1 i2 p4)), (6, .int (M_lowest ((gF σ (pMe i2) 3) &&& (gF σ (pPi i1) 6)))), (5, .int (M_firstPartOf σ i1 (gF σ (pMe i2) 2))), (0, .ref (ad 0)), (1, .ref (ad (pPi i1))), (2, .ref (ad (pMe i2))), (3, .int p3), (4, .int p4)]) hx hb dX4_reasonAgainst_96 hl (by decide) rfl (fun ls hl => ?_)
          refine lv_iload hx hb dX4_reasonAgainst_98 (lv_at hl 0 rfl) ?_
          refine lv_iconst (v := (-1)) hx hb dX4_reasonAgainst_100 (by decide) ?_
          refine lv_icmp_eq (tgt := 111) hx hb dX4_reasonAgainst_101 (by decide) (fun c8 => ?_) (fun c8 => ?_)
          · rw [if_pos c8] at hT
            refine lv_aload_n hx hb dX4_reasonAgainst_111 rfl (lv_at hl 4 rfl) ?_
            refine lv_aload_n hx hb dX4_reasonAgainst_112 rfl (lv_at hl 6 rfl) ?_
            refine kB_i (va_runV (As := [.ref (ad (pMe i2))]) (rest := []) CF (k_lowestLacking l D ad kk _ σ i2 h2) ⟨callB_of 1 hts (gT mw_441) rfl rfl rfl (ht _ mw_1) (ht _ mw_438) (by decide +kernel) ⟨Nat.le_of_ble_eq_true rfl, Nat.le_of_ble_eq_true rfl⟩, (ht _ mw_440), (ht _ ms_12)⟩ (preV_B hK hP hD hE hS (ci := 4) rfl rfl g_MB) rfl rfl hl.1 rfl (lv_room (Nat.le_of_ble_eq_true rfl)) dX4_reasonAgainst_113 ⟨Nat.le_of_ble_eq_true rfl, Nat.le_of_ble_eq_true rfl⟩) hS (fun r9 u9 H locs hw hP hD hS => ?_)
            obtain ⟨rfl, e9⟩ := hw
            rw [e9] at hP hD
            refine lv_istore (lv' := [(9, .int (M_lowestLacking σ i2)), (8, .int (-1)), (7, .int (M_lowestNotLongEnoughAgo σ i1 i2 p4)), (6, .int (M_lowest ((gF σ (pMe i2) 3) &&& (gF σ (pPi i1) 6)))), (5, .int (M_firstPartOf σ i1 (gF σ (pMe i2) 2))), (0, .ref (ad 0)), (1, .ref (ad (pPi i1))), (2, .ref (ad (pMe i2))), (3, .int p3), (4, .int p4)]) hx hb dX4_reasonAgainst_116 hl (by decide) rfl (fun ls hl => ?_)
            refine lv_iload hx hb dX4_reasonAgainst_118 (lv_at hl 0 rfl) ?_
            refine lv_iconst (v := (-1)) hx hb dX4_reasonAgainst_120 (by decide) ?_
            refine lv_icmp_eq (tgt := 131) hx hb dX4_reasonAgainst_121 (by decide) (fun c10 => ?_) (fun c10 => ?_)
            · rw [if_pos c10] at hT
              refine lv_aload_n hx hb dX4_reasonAgainst_131 rfl (lv_at hl 7 rfl) ?_
              refine va_get (D := D) (ci := 1) (v := .int (gF σ (pMe i2) 7)) (C := RX1) (T := TX1) (N := 9) hx hb ht inX1 hown hK hP (pMe i2) (g_Me h2) rfl 7 (by decide) (ht _ mw_72) (fun _ h9 => h9) rfl dX4_reasonAgainst_132 ?_
              refine lv_iload_n hx hb dX4_reasonAgainst_135 rfl (lv_at hl 8 rfl) ?_
              refine vp_callSi (W.runS (As := [.int (gF σ (pMe i2) 7), .int p3]) (rest := []) CF (k_has l (gF σ (pMe i2) 7) p3) ⟨callB_of 2 hts (gT mw_402) rfl rfl rfl (ht _ mw_1) (ht _ mw_400) (by decide +kernel) ⟨Nat.le_of_ble_eq_true rfl, Nat.le_of_ble_eq_true rfl⟩, (ht _ mw_401)⟩ preEq rfl rfl hl.1 rfl (lv_room (Nat.le_of_ble_eq_true rfl)) dX4_reasonAgainst_136 ⟨Nat.le_of_ble_eq_true rfl, Nat.le_of_ble_eq_true rfl⟩) (fun r11 h_r11 => ?_)
              obtain rfl := h_r11
              refine lv_if_eq (tgt := 146) hx hb dX4_reasonAgainst_139 (by decide) (fun c12 => ?_) (fun c12 => ?_)
              · rw [if_pos c12] at hT
                refine lv_sipush (v := 600) hx hb dX4_reasonAgainst_146 (by decide) ?_
                exact W.iret (v := 600) hx hb hr (fun t ht hW => ⟨⟨600, σ, rfl, ⟨hT, rfl⟩, by rw [ht]; exact hP, va_K.moved hW.alike hK, hD⟩, hS.F ht⟩) hS.2.2 dX4_reasonAgainst_149
              · rw [if_neg c12] at hT
                refine lv_iconst (v := 0) hx hb dX4_reasonAgainst_142 (by decide) ?_
                refine lv_goto (tgt := 149) hx hb dX4_reasonAgainst_143 (by decide) ?_
                exact W.iret (v := 0) hx hb hr (fun t ht hW => ⟨⟨0, σ, rfl, ⟨hT, rfl⟩, by rw [ht]; exact hP, va_K.moved hW.alike hK, hD⟩, hS.F ht⟩) hS.2.2 dX4_reasonAgainst_149
            · rw [if_neg c10] at hT
              refine lv_sipush (v := 500) hx hb dX4_reasonAgainst_124 (by decide) ?_
              refine lv_iload hx hb dX4_reasonAgainst_127 (lv_at hl 0 rfl) ?_
              refine lv_iadd hx hb dX4_reasonAgainst_129 ?_
              exact W.iret (v := 500 + (M_lowestLacking σ i2)) hx hb hr (fun t ht hW => ⟨⟨500 + (M_lowestLacking σ i2), σ, rfl, ⟨hT, rfl⟩, by rw [ht]; exact hP, va_K.moved hW.alike hK, hD⟩, hS.F ht⟩) hS.2.2 dX4_reasonAgainst_130
          · rw [if_neg c8] at hT
            refine lv_sipush (v := 400) hx hb dX4_reasonAgainst_104 (by decide) ?_
            refine lv_iload hx hb dX4_reasonAgainst_107 (lv_at hl 0 rfl) ?_
            refine lv_iadd hx hb dX4_reasonAgainst_109 ?_
            exact W.iret (v := 400 + (-1)) hx hb hr (fun t ht hW => ⟨⟨400 + (-1), σ, rfl, ⟨hT, rfl⟩, by rw [ht]; exact hP, va_K.moved hW.alike hK, hD⟩, hS.F ht⟩) hS.2.2 dX4_reasonAgainst_110
        · rw [if_neg c7] at hT
          refine lv_aload_n hx hb dX4_reasonAgainst_78 rfl (lv_at hl 4 rfl) ?_
          refine va_get (D := D) (ci := 3) (v := .int (gF σ (pPi i1) 5)) (C := RX3) (T := TX3) (N := 8) hx hb ht inX3 hown hK hP (pPi i1) (g_Pi h1) rfl 5 (by decide) (ht _ mw_110) (fun _ h9 => h9) rfl dX4_reasonAgainst_79 ?_
          refine lv_aload_n hx hb dX4_reasonAgainst_82 rfl (lv_at hl 5 rfl) ?_
          refine va_get (D := D) (ci := 1) (v := .int (gF σ (pMe i2) 8)) (C := RX1) (T := TX1) (N := 9) hx hb ht inX1 hown hK hP (pMe i2) (g_Me h2) rfl 8 (by decide) (ht _ mw_73) (fun _ h9 => h9) rfl dX4_reasonAgainst_83 ?_
          refine lv_iconst (v := (-1)) hx hb dX4_reasonAgainst_86 (by decide) ?_
          refine lv_ixor hx hb dX4_reasonAgainst_87 ?_
          refine lv_iand hx hb dX4_reasonAgainst_88 ?_
          refine vp_callSi (W.runS (As := [.int ((gF σ (pPi i1) 5) &&& ((gF σ (pMe i2) 8) ^^^ (-1)))]) (rest := []) CF (k_lowest l ((gF σ (pPi i1) 5) &&& ((gF σ (pMe i2) 8) ^^^ (-1)))) ⟨callB_of 1 hts (gT mw_434) rfl rfl rfl (ht _ mw_1) (ht _ mw_432) (by decide +kernel) ⟨Nat.le_of_ble_eq_true rfl, Nat.le_of_ble_eq_true rfl⟩, (ht _ mw_433)⟩ preEq rfl rfl hl.1 rfl (lv_room (Nat.le_of_ble_eq_true rfl)) dX4_reasonAgainst_89 ⟨Nat.le_of_ble_eq_true rfl, Nat.le_of_ble_eq_true rfl⟩) (fun r13 h_r13 => ?_)
          obtain rfl := h_r13
          refine lv_goto (tgt := 96) hx hb dX4_reasonAgainst_92 (by decide) ?_
          refine lv_istore (lv' := [(8, .int (M_lowest ((gF σ (pPi i1) 5) &&& ((gF σ (pMe i2) 8) ^^^ (-1))))), (7, .int (M_lowestNotLongEnoughAgo σ i1 i2 p4)), (6, .int (M_lowest ((gF σ (pMe i2) 3) &&& (gF σ (pPi i1) 6)))), (5, .int (M_firstPartOf σ i1 (gF σ (pMe i2) 2))), (0, .ref (ad 0)), (1, .ref (ad (pPi i1))), (2, .ref (ad (pMe i2))), (3, .int p3), (4, .int p4)]) hx hb dX4_reasonAgainst_96 hl (by decide) rfl (fun ls hl => ?_)
          refine lv_iload hx hb dX4_reasonAgainst_98 (lv_at hl 0 rfl) ?_
          refine lv_iconst (v := (-1)) hx hb dX4_reasonAgainst_100 (by decide) ?_
          refine lv_icmp_eq (tgt := 111) hx hb dX4_reasonAgainst_101 (by decide) (fun c14 => ?_) (fun c14 => ?_)
          · rw [if_pos c14] at hT
            refine lv_aload_n hx hb dX4_reasonAgainst_111 rfl (lv_at hl 4 rfl) ?_
            refine lv_aload_n hx hb dX4_reasonAgainst_112 rfl (lv_at hl 6 rfl) ?_
            refine kB_i (va_runV (As := [.ref (ad (pMe i2))]) (rest := []) CF (k_lowestLacking l D ad kk _ σ i2 h2) ⟨callB_of 1 hts (gT mw_441) rfl rfl rfl (ht _ mw_1) (ht _ mw_438) (by decide +kernel) ⟨Nat.le_of_ble_eq_true rfl, Nat.le_of_ble_eq_true rfl⟩, (ht _ mw_440), (ht _ ms_12)⟩ (preV_B hK hP hD hE hS (ci := 4) rfl rfl g_MB) rfl rfl hl.1 rfl (lv_room (Nat.le_of_ble_eq_true rfl)) dX4_reasonAgainst_113 ⟨Nat.le_of_ble_eq_true rfl, Nat.le_of_ble_eq_true rfl⟩) hS (fun r15 u9 H locs hw hP hD hS => ?_)
            obtain ⟨rfl, e9⟩ := hw
            rw [e9] at hP hD
            refine lv_istore (lv' := [(9, .int (M_lowestLacking σ i2)), (8, .int (M_lowest ((gF σ (pPi i1) 5) &&& ((gF σ (pMe i2) 8) ^^^ (-1))))), (7, .int (M_lowestNotLongEnoughAgo σ i1 i2 p4)), (6, .int (M_lowest ((gF σ (pMe i2) 3) &&& (gF σ (pPi i1) 6)))), (5, .int (M_firstPartOf σ i1 (gF σ (pMe i2) 2))), (0, .ref (ad 0)), (1, .ref (ad (pPi i1))), (2, .ref (ad (pMe i2))), (3, .int p3), (4, .int p4)]) hx hb dX4_reasonAgainst_116 hl (by decide) rfl (fun ls hl => ?_)
            refine lv_iload hx hb dX4_reasonAgainst_118 (lv_at hl 0 rfl) ?_
            refine lv_iconst (v := (-1)) hx hb dX4_reasonAgainst_120 (by decide) ?_
            refine lv_icmp_eq (tgt := 131) hx hb dX4_reasonAgainst_121 (by decide) (fun c16 => ?_) (fun c16 => ?_)
            · rw [if_pos c16] at hT
              refine lv_aload_n hx hb dX4_reasonAgainst_131 rfl (lv_at hl 7 rfl) ?_
              refine va_get (D := D) (ci := 1) (v := .int (gF σ (pMe i2) 7)) (C := RX1) (T := TX1) (N := 9) hx hb ht inX1 hown hK hP (pMe i2) (g_Me h2) rfl 7 (by decide) (ht _ mw_72) (fun _ h9 => h9) rfl dX4_reasonAgainst_132 ?_
              refine lv_iload_n hx hb dX4_reasonAgainst_135 rfl (lv_at hl 8 rfl) ?_
              refine vp_callSi (W.runS (As := [.int (gF σ (pMe i2) 7), .int p3]) (rest := []) CF (k_has l (gF σ (pMe i2) 7) p3) ⟨callB_of 2 hts (gT mw_402) rfl rfl rfl (ht _ mw_1) (ht _ mw_400) (by decide +kernel) ⟨Nat.le_of_ble_eq_true rfl, Nat.le_of_ble_eq_true rfl⟩, (ht _ mw_401)⟩ preEq rfl rfl hl.1 rfl (lv_room (Nat.le_of_ble_eq_true rfl)) dX4_reasonAgainst_136 ⟨Nat.le_of_ble_eq_true rfl, Nat.le_of_ble_eq_true rfl⟩) (fun r17 h_r17 => ?_)
              obtain rfl := h_r17
              refine lv_if_eq (tgt := 146) hx hb dX4_reasonAgainst_139 (by decide) (fun c18 => ?_) (fun c18 => ?_)
              · rw [if_pos c18] at hT
                refine lv_sipush (v := 600) hx hb dX4_reasonAgainst_146 (by decide) ?_
                exact W.iret (v := 600) hx hb hr (fun t ht hW => ⟨⟨600, σ, rfl, ⟨hT, rfl⟩, by rw [ht]; exact hP, va_K.moved hW.alike hK, hD⟩, hS.F ht⟩) hS.2.2 dX4_reasonAgainst_149
              · rw [if_neg c18] at hT
                refine lv_iconst (v := 0) hx hb dX4_reasonAgainst_142 (by decide) ?_
                refine lv_goto (tgt := 149) hx hb dX4_reasonAgainst_143 (by decide) ?_
                exact W.iret (v := 0) hx hb hr (fun t ht hW => ⟨⟨0, σ, rfl, ⟨hT, rfl⟩, by rw [ht]; exact hP, va_K.moved hW.alike hK, hD⟩, hS.F ht⟩) hS.2.2 dX4_reasonAgainst_149
            · rw [if_neg c16] at hT
              refine lv_sipush (v := 500) hx hb dX4_reasonAgainst_124 (by decide) ?_
              refine lv_iload hx hb dX4_reasonAgainst_127 (lv_at hl 0 rfl) ?_
              refine lv_iadd hx hb dX4_reasonAgainst_129 ?_
              exact W.iret (v := 500 + (M_lowestLacking σ i2)) hx hb hr (fun t ht hW => ⟨⟨500 + (M_lowestLacking σ i2), σ, rfl, ⟨hT, rfl⟩, by rw [ht]; exact hP, va_K.moved hW.alike hK, hD⟩, hS.F ht⟩) hS.2.2 dX4_reasonAgainst_130
          · rw [if_neg c14] at hT
            refine lv_sipush (v := 400) hx hb dX4_reasonAgainst_104 (by decide) ?_
            refine lv_iload hx hb dX4_reasonAgainst_107 (lv_at hl 0 rfl) ?_
            refine lv_iadd hx hb dX4_reasonAgainst_109 ?_
            exact W.iret (v := 400 + (M_lowest ((gF σ (pPi i1) 5) &&& ((gF σ (pMe i2) 8) ^^^ (-1))))) hx hb hr (fun t ht hW => ⟨⟨400 + (M_lowest ((gF σ (pPi i1) 5) &&& ((gF σ (pMe i2) 8) ^^^ (-1)))), σ, rfl, ⟨hT, rfl⟩, by rw [ht]; exact hP, va_K.moved hW.alike hK, hD⟩, hS.F ht⟩) hS.2.2 dX4_reasonAgainst_110
      · rw [if_neg c6] at hT
        refine lv_sipush (v := 300) hx hb dX4_reasonAgainst_64 (by decide) ?_
        refine lv_iload hx hb dX4_reasonAgainst_67 (lv_at hl 0 rfl) ?_
        refine lv_iadd hx hb dX4_reasonAgainst_69 ?_
        exact W.iret (v := 300 + (M_lowestNotLongEnoughAgo σ i1 i2 p4)) hx hb hr (fun t ht hW => ⟨⟨300 + (M_lowestNotLongEnoughAgo σ i1 i2 p4), σ, rfl, ⟨hT, rfl⟩, by rw [ht]; exact hP, va_K.moved hW.alike hK, hD⟩, hS.F ht⟩) hS.2.2 dX4_reasonAgainst_70
    · rw [if_neg c4] at hT
      refine lv_sipush (v := 200) hx hb dX4_reasonAgainst_42 (by decide) ?_
      refine lv_iload hx hb dX4_reasonAgainst_45 (lv_at hl 0 rfl) ?_
      refine lv_iadd hx hb dX4_reasonAgainst_47 ?_
      exact W.iret (v := 200 + (M_lowest ((gF σ (pMe i2) 3) &&& (gF σ (pPi i1) 6)))) hx hb hr (fun t ht hW => ⟨⟨200 + (M_lowest ((gF σ (pMe i2) 3) &&& (gF σ (pPi i1) 6))), σ, rfl, ⟨hT, rfl⟩, by rw [ht]; exact hP, va_K.moved hW.alike hK, hD⟩, hS.F ht⟩) hS.2.2 dX4_reasonAgainst_48
  · rw [if_neg c2] at hT
    refine lv_bipush (v := 100) hx hb dX4_reasonAgainst_16 (by decide) ?_
    refine lv_iload hx hb dX4_reasonAgainst_18 (lv_at hl 0 rfl) ?_
    refine lv_iadd hx hb dX4_reasonAgainst_20 ?_
    exact W.iret (v := 100 + (M_firstPartOf σ i1 (gF σ (pMe i2) 2))) hx hb hr (fun t ht hW => ⟨⟨100 + (M_firstPartOf σ i1 (gF σ (pMe i2) 2)), σ, rfl, ⟨hT, rfl⟩, by rw [ht]; exact hP, va_K.moved hW.alike hK, hD⟩, hS.F ht⟩) hS.2.2 dX4_reasonAgainst_21
set_option maxHeartbeats 4000000 in
set_option maxRecDepth 100000 in
theorem k_takeWhatGoes (l : Launch) (D : va_G) (ad : Nat → Nat) (kk : Nat → ClassId) (sz : Nat) (σ : St) (i1 : Nat) (h1 : i1 < 12) : Met l yX4_takeWhatGoes wsX4_takeWhatGoes { frames := 1, cells := 0, slots := 0, locals := 21 } (va_Pc [.ref (ad 0), .ref (ad (pMe i1))] (PB D ad kk sz σ)) (va_Qv (fun u => u = M_takeWhatGoes σ i1) (QB D ad kk sz) (aL 96 ad sz)) 0 0 (aL 96 ad sz) := by
  refine Met.ofW (cc := cX4_takeWhatGoes) (maxL := 3) (ret := none) (by decide) rfl ?_
  intro p e s m args below meth c s₁ B hml hv
  obtain ⟨rfl, hsz, hP, hK, hD0, hE⟩ := hv
  have hx := B.exec
  have hb := B.bytes
  have hr := B.returns
  have hts := atoms_spec (ws := wsX4_takeWhatGoes) B.pre
  have hown : s.vm.findClass RX4 = some m.cls := findClass_of_methodNamed B.named
  have hlocks := B.notSynchronized
  subst hsz
  have hD : va_D (aL 96 ad s.heap.size) (wB ad kk σ) := aL_D hD0
  have hS : va_S (aL 96 ad s.heap.size) s.heap s.heap [] := va_S.rf
  have hl := lv_entry ([.ref (ad 0), .ref (ad (pMe i1))]) (n := 3) (Nat.le_of_ble_eq_true rfl)
  rw [lg_entry_eq]
  generalize (lg_sl ([.ref (ad 0), .ref (ad (pMe i1))]) ++ List.replicate (3 - (lg_sl ([.ref (ad 0), .ref (ad (pMe i1))])).length) Slot.unset).toArray = ls at hl ⊢
  have hl : lv_has ls 3 [(0, .ref (ad 0)), (1, .ref (ad (pMe i1)))] := hl
  have CF : CallFix p m c cX4_takeWhatGoes 3 s ([.ref (ad 0), .ref (ad (pMe i1))] : List Value).toArray wsX4_takeWhatGoes RX4 := ⟨hx, hb, hml, hown, hts⟩
  have ht : ∀ w ∈ T0, w.before ([.ref (ad 0), .ref (ad (pMe i1))] : List Value).toArray s = true := fun w h => hts w (List.mem_cons_of_mem _ h)
  generalize hT : M_takeWhatGoes σ i1 = T
  refine namedQ (fun Q eQ => ?_)
  have L_2 : ∀ (n i102 : Nat) (τ2 : St) (H : Heap) (locs : List Loc) (ls : Array Slot), i102 ≤ 12 → 13 ≤ i102 + n → va_P D vwCl (wB ad kk τ2) H → va_D (aL 96 ad s.heap.size) (wB ad kk τ2) → va_S (aL 96 ad s.heap.size) s.heap H locs → lv_has ls 3 [(0, .ref (ad 0)), (1, .ref (ad (pMe i1))), (2, .int (nI i102))] → M_takeWhatGoes_h2 n i102 τ2 i1 = T → W p l e (headSpec wsX4_takeWhatGoes { frames := 1, cells := 0, slots := 0, locals := 21 }).room s m ([.ref (ad 0), .ref (ad (pMe i1))] : List Value).toArray below meth c H locs 0 0 Q (F0 m 2 ls []) := by
    intro n
    induction n with
    | zero =>
      intro i102 τ2 H locs ls h_le h_fu hP hD hS hl hT
      exact absurd h_fu (by omega)
    | succ n ih =>
      intro i102 τ2 H locs ls h_le h_fu hP hD hS hl hT
      rw [M_takeWhatGoes_h2] at hT
      refine lv_iload_n hx hb dX4_takeWhatGoes_2 rfl (lv_at hl 2 rfl) ?_
      refine lv_bipush (v := 12) hx hb dX4_takeWhatGoes_3 (by decide) ?_
      refine lv_icmp_ge (tgt := 30) hx hb dX4_takeWhatGoes_5 (by decide) (fun c1 => ?_) (fun c1 => ?_)
      · rw [if_pos c1] at hT
        rw [eQ]
        exact W.vret hx hb hr (fun t ht hW => ⟨⟨τ2, rfl, hT, by rw [ht]; exact hP, va_K.moved hW.alike hK, hD⟩, hS.F ht⟩) hS.2.2 dX4_takeWhatGoes_30
      · rw [if_neg c1] at hT
        have h_lt := lp_lt (N := 12) (by decide) (by decide) h_le c1
        refine lv_aload_n hx hb dX4_takeWhatGoes_8 rfl (lv_at hl 0 rfl) ?_
        refine va_get (D := D) (ci := 4) (v := .ref (ad 81)) (C := RX4) (T := TX4) (N := 9) hx hb ht inX4 hown hK hP 0 g_MB rfl 3 (by decide) (ht _ mw_162) (fun _ h9 => h9) rfl dX4_takeWhatGoes_9 ?_
        refine lv_iload_n hx hb dX4_takeWhatGoes_12 rfl (lv_at hl 2 rfl) ?_
        refine va_aldq (i := nI i102) hx hb hK hP 81 3 g_goods rfl (vp_in_nI h_lt (by decide)) dX4_takeWhatGoes_13 ?_
        rw [nI_clamp (n := i102) (by omega)]
        refine W.eq (g2 := F0 m 14 ls (.ref (ad (pGo i102)) :: [])) rfl ?_
        refine lv_aload_n hx hb dX4_takeWhatGoes_14 rfl (lv_at hl 1 rfl) ?_
        refine va_get (D := D) (ci := 1) (v := .ref (ad (pMe i1 + 1))) (C := RX1) (T := TX1) (N := 9) hx hb ht inX1 hown hK hP (pMe i1) (g_Me h1) rfl 0 (by decide) (ht _ mw_52) (fun _ h9 => h9) rfl dX4_takeWhatGoes_15 ?_
        refine lv_iload_n hx hb dX4_takeWhatGoes_18 rfl (lv_at hl 2 rfl) ?_
        refine va_iald (i := nI i102) hx hb hK hP (pMe i1 + 1) 0 (g_Ma h1) rfl (vp_in_nI h_lt (by decide)) dX4_takeWhatGoes_19 ?_
        rw [nI_clamp (n := i102) (by omega)]
        refine lv_ineg hx hb dX4_takeWhatGoes_20 ?_
        refine kB_v (va_runV (As := [.int (-(gA τ2 (pMe i1 + 1) i102))]) (rest := []) CF (k_changeBy l D ad kk _ τ2 i102 (-(gA τ2 (pMe i1 + 1) i102)) h_lt) ⟨callB_of 1 hts (gT mw_457) rfl rfl rfl (ht _ mw_5) (ht _ mw_454) (by decide +kernel) ⟨Nat.le_of_ble_eq_true rfl, Nat.le_of_ble_eq_true rfl⟩, (ht _ mw_455), (ht _ mw_456)⟩ (preV_B hK hP hD hE hS (ci := 0) rfl rfl (g_Go h_lt)) rfl rfl hl.1 rfl (lv_room (Nat.le_of_ble_eq_true rfl)) dX4_takeWhatGoes_21 ⟨Nat.le_of_ble_eq_true rfl, Nat.le_of_ble_eq_true rfl⟩) hS (fun σ3 H locs hw hP hD hS => ?_)
        rw [← hw, vb_eq] at hT
        have h_r2 := hw
        refine lv_iinc (v := nI (i102 + 1)) (lv' := [(2, .int (nI (i102 + 1))), (0, .ref (ad 0)), (1, .ref (ad (pMe i1)))]) hx hb dX4_takeWhatGoes_24 hl (k := 2) rfl (nI_1 i102) (by decide) rfl (fun ls hl => ?_)
        refine lv_goto (tgt := 2) hx hb dX4_takeWhatGoes_27 (by decide) ?_
        exact ih  (i102 + 1) σ3 _ _ ls h_lt (by omega) hP hD hS (lv_sub hl [1, 2, 0] rfl) hT
  rw [M_takeWhatGoes] at hT
  refine lv_iconst (v := 0) hx hb dX4_takeWhatGoes_0 (by decide) ?_
  refine lv_istore_n (lv' := [(2, .int 0), (0, .ref (ad 0)), (1, .ref (ad (pMe i1)))]) hx hb dX4_takeWhatGoes_1 rfl hl (by decide) rfl (fun ls hl => ?_)
  exact L_2 13 0 σ _ _ ls (Nat.zero_le _) (by decide) hP hD hS (lv_sub hl [1, 2, 0] rfl) hT
set_option maxHeartbeats 4000000 in
set_option maxRecDepth 100000 in
theorem k_goodsOn (l : Launch) (D : va_G) (ad : Nat → Nat) (kk : Nat → ClassId) (sz : Nat) (σ : St) (p1 : Int32) : Met l yX4_goodsOn wsX4_goodsOn { frames := 1, cells := 0, slots := 0, locals := 22 } (va_Pc [.ref (ad 0), .int p1] (PB D ad kk sz σ)) (va_Qi (fun r u => r = M_goodsOn σ p1 ∧ u = σ) (QB D ad kk sz) (aL 96 ad sz)) 0 0 (aL 96 ad sz) := by
  refine Met.ofW (cc := cX4_goodsOn) (maxL := 4) (ret := (some .int)) (by decide) rfl ?_
  intro p e s m args below meth c s₁ B hml hv
  obtain ⟨rfl, hsz, hP, hK, hD0, hE⟩ := hv
  have hx := B.exec
  have hb := B.bytes
  have hr := B.returns
  have hts := atoms_spec (ws := wsX4_goodsOn) B.pre
  have hown : s.vm.findClass RX4 = some m.cls := findClass_of_methodNamed B.named
  have hlocks := B.notSynchronized
  subst hsz
  have hD : va_D (aL 96 ad s.heap.size) (wB ad kk σ) := aL_D hD0
  have hS : va_S (aL 96 ad s.heap.size) s.heap s.heap [] := va_S.rf
  have hl := lv_entry ([.ref (ad 0), .int p1]) (n := 4) (Nat.le_of_ble_eq_true rfl)
  rw [lg_entry_eq]
  generalize (lg_sl ([.ref (ad 0), .int p1]) ++ List.replicate (4 - (lg_sl ([.ref (ad 0), .int p1])).length) Slot.unset).toArray = ls at hl ⊢
  have hl : lv_has ls 4 [(0, .ref (ad 0)), (1, .int p1)] := hl
  have CF : CallFix p m c cX4_goodsOn 4 s ([.ref (ad 0), .int p1] : List Value).toArray wsX4_goodsOn RX4 := ⟨hx, hb, hml, hown, hts⟩
  have ht : ∀ w ∈ T0, w.before ([.ref (ad 0), .int p1] : List Value).toArray s = true := fun w h => hts w (List.mem_cons_of_mem _ h)
  generalize hT : M_goodsOn σ p1 = T
  refine namedQ (fun Q eQ => ?_)
  have L_4 : ∀ (n i104 : Nat) (x4_2 : Int32) (H : Heap) (locs : List Loc) (ls : Array Slot), i104 ≤ 12 → 13 ≤ i104 + n → va_P D vwCl (wB ad kk σ) H → va_D (aL 96 ad s.heap.size) (wB ad kk σ) → va_S (aL 96 ad s.heap.size) s.heap H locs → lv_has ls 4 [(0, .ref (ad 0)), (1, .int p1), (2, .int x4_2), (3, .int (nI i104))] → M_goodsOn_h4 n i104 x4_2 σ p1 = T → W p l e (headSpec wsX4_goodsOn { frames := 1, cells := 0, slots := 0, locals := 22 }).room s m ([.ref (ad 0), .int p1] : List Value).toArray below meth c H locs 0 0 Q (F0 m 4 ls []) := by
    intro n
    induction n with
    | zero =>
      intro i104 x4_2 H locs ls h_le h_fu hP hD hS hl hT
      exact absurd h_fu (by omega)
    | succ n ih =>
      intro i104 x4_2 H locs ls h_le h_fu hP hD hS hl hT
      rw [M_goodsOn_h4] at hT
      refine lv_iload_n hx hb dX4_goodsOn_4 rfl (lv_at hl 3 rfl) ?_
      refine lv_bipush (v := 12) hx hb dX4_goodsOn_5 (by decide) ?_
      refine lv_icmp_ge (tgt := 40) hx hb dX4_goodsOn_7 (by decide) (fun c1 => ?_) (fun c1 => ?_)
      · rw [if_pos c1] at hT
        refine lv_iload_n hx hb dX4_goodsOn_40 rfl (lv_at hl 2 rfl) ?_
        rw [eQ]
        exact W.iret (v := x4_2) hx hb hr (fun t ht hW => ⟨⟨x4_2, σ, rfl, ⟨hT, rfl⟩, by rw [ht]; exact hP, va_K.moved hW.alike hK, hD⟩, hS.F ht⟩) hS.2.2 dX4_goodsOn_41
      · rw [if_neg c1] at hT
        have h_lt := lp_lt (N := 12) (by decide) (by decide) h_le c1
        refine lv_iload_n hx hb dX4_goodsOn_10 rfl (lv_at hl 2 rfl) ?_
        refine lv_iload_n hx hb dX4_goodsOn_11 rfl (lv_at hl 3 rfl) ?_
        refine lv_aload_n hx hb dX4_goodsOn_12 rfl (lv_at hl 0 rfl) ?_
        refine va_get (D := D) (ci := 4) (v := .ref (ad 81)) (C := RX4) (T := TX4) (N := 9) hx hb ht inX4 hown hK hP 0 g_MB rfl 3 (by decide) (ht _ mw_162) (fun _ h9 => h9) rfl dX4_goodsOn_13 ?_
        refine lv_iload_n hx hb dX4_goodsOn_16 rfl (lv_at hl 3 rfl) ?_
        refine va_aldq (i := nI i104) hx hb hK hP 81 3 g_goods rfl (vp_in_nI h_lt (by decide)) dX4_goodsOn_17 ?_
        rw [nI_clamp (n := i104) (by omega)]
        refine W.eq (g2 := F0 m 18 ls (.ref (ad (pGo i104)) :: .int (nI i104) :: .int x4_2 :: [])) rfl ?_
        refine va_get (D := D) (ci := 0) (v := .int (gF σ (pGo i104) 3)) (C := RX0) (T := TX0) (N := 5) hx hb ht inX0 hown hK hP (pGo i104) (g_Go h_lt) rfl 3 (by decide) (ht _ mw_146) (fun _ h9 => h9) rfl dX4_goodsOn_18 ?_
        refine lv_iload_n hx hb dX4_goodsOn_21 rfl (lv_at hl 1 rfl) ?_
        refine lv_icmp_ne (tgt := 29) hx hb dX4_goodsOn_22 (by decide) (fun c2 => ?_) (fun c2 => ?_)
        · rw [if_neg c2] at hT
          refine lv_iconst (v := 0) hx hb dX4_goodsOn_29 (by decide) ?_
          refine vp_callSi (W.runS (As := [.int x4_2, .int (nI i104), .int 0]) (rest := []) CF (k_with l x4_2 (nI i104) 0) ⟨callB_of 3 hts (gT mw_325) rfl rfl rfl (ht _ mw_1) (ht _ mw_403) (by decide +kernel) ⟨Nat.le_of_ble_eq_true rfl, Nat.le_of_ble_eq_true rfl⟩, (ht _ mw_324)⟩ preEq rfl rfl hl.1 rfl (lv_room (Nat.le_of_ble_eq_true rfl)) dX4_goodsOn_30 ⟨Nat.le_of_ble_eq_true rfl, Nat.le_of_ble_eq_true rfl⟩) (fun r3 h_r3 => ?_)
          obtain rfl := h_r3
          refine lv_istore_n (lv' := [(2, .int (M_with x4_2 (nI i104) 0)), (0, .ref (ad 0)), (1, .int p1), (3, .int (nI i104))]) hx hb dX4_goodsOn_33 rfl hl (by decide) rfl (fun ls hl => ?_)
          refine lv_iinc (v := nI (i104 + 1)) (lv' := [(3, .int (nI (i104 + 1))), (2, .int (M_with x4_2 (nI i104) 0)), (0, .ref (ad 0)), (1, .int p1)]) hx hb dX4_goodsOn_34 hl (k := 3) rfl (nI_1 i104) (by decide) rfl (fun ls hl => ?_)
          refine lv_goto (tgt := 4) hx hb dX4_goodsOn_37 (by decide) ?_
          exact ih  (i104 + 1) (M_with x4_2 (nI i104) 0) _ _ ls h_lt (by omega) hP hD hS (lv_sub hl [2, 3, 1, 0] rfl) hT
        · rw [if_pos c2] at hT
          refine lv_iconst (v := 1) hx hb dX4_goodsOn_25 (by decide) ?_
          refine lv_goto (tgt := 30) hx hb dX4_goodsOn_26 (by decide) ?_
          refine vp_callSi (W.runS (As := [.int x4_2, .int (nI i104), .int 1]) (rest := []) CF (k_with l x4_2 (nI i104) 1) ⟨callB_of 3 hts (gT mw_325) rfl rfl rfl (ht _ mw_1) (ht _ mw_403) (by decide +kernel) ⟨Nat.le_of_ble_eq_true rfl, Nat.le_of_ble_eq_true rfl⟩, (ht _ mw_324)⟩ preEq rfl rfl hl.1 rfl (lv_room (Nat.le_of_ble_eq_true rfl)) dX4_goodsOn_30 ⟨Nat.le_of_ble_eq_true rfl, Nat.le_of_ble_eq_true rfl⟩) (fun r4 h_r4 => ?_)
          obtain rfl := h_r4
          refine lv_istore_n (lv' := [(2, .int (M_with x4_2 (nI i104) 1)), (0, .ref (ad 0)), (1, .int p1), (3, .int (nI i104))]) hx hb dX4_goodsOn_33 rfl hl (by decide) rfl (fun ls hl => ?_)
          refine lv_iinc (v := nI (i104 + 1)) (lv' := [(3, .int (nI (i104 + 1))), (2, .int (M_with x4_2 (nI i104) 1)), (0, .ref (ad 0)), (1, .int p1)]) hx hb dX4_goodsOn_34 hl (k := 3) rfl (nI_1 i104) (by decide) rfl (fun ls hl => ?_)
          refine lv_goto (tgt := 4) hx hb dX4_goodsOn_37 (by decide) ?_
          exact ih  (i104 + 1) (M_with x4_2 (nI i104) 1) _ _ ls h_lt (by omega) hP hD hS (lv_sub hl [2, 3, 1, 0] rfl) hT
  rw [M_goodsOn] at hT
  refine lv_iconst (v := 0) hx hb dX4_goodsOn_0 (by decide) ?_
  refine lv_istore_n (lv' := [(2, .int 0), (0, .ref (ad 0)), (1, .int p1)]) hx hb dX4_goodsOn_1 rfl hl (by decide) rfl (fun ls hl => ?_)
  refine lv_iconst (v := 0) hx hb dX4_goodsOn_2 (by decide) ?_
  refine lv_istore_n (lv' := [(3, .int 0), (2, .int 0), (0, .ref (ad 0)), (1, .int p1)]) hx hb dX4_goodsOn_3 rfl hl (by decide) rfl (fun ls hl => ?_)
  exact L_4 13 0 0 _ _ ls (Nat.zero_le _) (by decide) hP hD hS (lv_sub hl [2, 3, 1, 0] rfl) hT
set_option maxHeartbeats 4000000 in
set_option maxRecDepth 100000 in
theorem k_rowsOfAll (l : Launch) (D : va_G) (ad : Nat → Nat) (kk : Nat → ClassId) (sz : Nat) (σ : St) (hI : IB σ) : Met l yX4_rowsOfAll wsX4_rowsOfAll { frames := 0, cells := 0, slots := 0, locals := 0 } (va_Pc [.ref (ad 0)] (PB D ad kk sz σ)) (va_Qi (fun r u => r = M_rowsOfAll σ ∧ u = σ) (QB D ad kk sz) (aL 96 ad sz)) 0 0 (aL 96 ad sz) := by
  refine Met.ofW (cc := cX4_rowsOfAll) (maxL := 3) (ret := (some .int)) (by decide) rfl ?_
  intro p e s m args below meth c s₁ B hml hv
  obtain ⟨rfl, hsz, hP, hK, hD0, hE⟩ := hv
  have hx := B.exec
  have hb := B.bytes
  have hr := B.returns
  have hts := atoms_spec (ws := wsX4_rowsOfAll) B.pre
  have hown : s.vm.findClass RX4 = some m.cls := findClass_of_methodNamed B.named
  have hlocks := B.notSynchronized
  subst hsz
  have hD : va_D (aL 96 ad s.heap.size) (wB ad kk σ) := aL_D hD0
  have hS : va_S (aL 96 ad s.heap.size) s.heap s.heap [] := va_S.rf
  have hl := lv_entry ([.ref (ad 0)]) (n := 3) (Nat.le_of_ble_eq_true rfl)
  rw [lg_entry_eq]
  generalize (lg_sl ([.ref (ad 0)]) ++ List.replicate (3 - (lg_sl ([.ref (ad 0)])).length) Slot.unset).toArray = ls at hl ⊢
  have hl : lv_has ls 3 [(0, .ref (ad 0))] := hl
  have CF : CallFix p m c cX4_rowsOfAll 3 s ([.ref (ad 0)] : List Value).toArray wsX4_rowsOfAll RX4 := ⟨hx, hb, hml, hown, hts⟩
  have ht : ∀ w ∈ T0, w.before ([.ref (ad 0)] : List Value).toArray s = true := fun w h => hts w (List.mem_cons_of_mem _ h)
  generalize hT : M_rowsOfAll σ = T
  refine namedQ (fun Q eQ => ?_)
  have L_4 : ∀ (n i104 : Nat) (x4_1 : Int32) (H : Heap) (locs : List Loc) (ls : Array Slot), i104 ≤ 10 → 11 ≤ i104 + n → va_P D vwCl (wB ad kk σ) H → va_D (aL 96 ad s.heap.size) (wB ad kk σ) → va_S (aL 96 ad s.heap.size) s.heap H locs → lv_has ls 3 [(0, .ref (ad 0)), (1, .int x4_1), (2, .int (nI i104))] → M_rowsOfAll_h4 n i104 x4_1 σ = T → W p l e (headSpec wsX4_rowsOfAll { frames := 0, cells := 0, slots := 0, locals := 0 }).room s m ([.ref (ad 0)] : List Value).toArray below meth c H locs 0 0 Q (F0 m 4 ls []) := by
    intro n
    induction n with
    | zero =>
      intro i104 x4_1 H locs ls h_le h_fu hP hD hS hl hT
      exact absurd h_fu (by omega)
    | succ n ih =>
      intro i104 x4_1 H locs ls h_le h_fu hP hD hS hl hT
      rw [M_rowsOfAll_h4] at hT
      refine lv_iload_n hx hb dX4_rowsOfAll_4 rfl (lv_at hl 2 rfl) ?_
      refine lv_aload_n hx hb dX4_rowsOfAll_5 rfl (lv_at hl 0 rfl) ?_
      refine va_get (D := D) (ci := 4) (v := .int (gF σ 0 7)) (C := RX4) (T := TX4) (N := 9) hx hb ht inX4 hown hK hP 0 g_MB rfl 7 (by decide) (ht _ mw_166) (fun _ h9 => h9) rfl dX4_rowsOfAll_6 ?_
      refine lv_icmp_ge (tgt := 30) hx hb dX4_rowsOfAll_9 (by decide) (fun c1 => ?_) (fun c1 => ?_)
      · rw [if_pos c1] at hT
        refine lv_iload_n hx hb dX4_rowsOfAll_30 rfl (lv_at hl 1 rfl) ?_
        rw [eQ]
        exact W.iret (v := x4_1) hx hb hr (fun t ht hW => ⟨⟨x4_1, σ, rfl, ⟨hT, rfl⟩, by rw [ht]; exact hP, va_K.moved hW.alike hK, hD⟩, hS.F ht⟩) hS.2.2 dX4_rowsOfAll_31
      · rw [if_neg c1] at hT
        have h_lt := lp_lt (N := 10) (by decide) hI.pc h_le c1
        refine lv_iload_n hx hb dX4_rowsOfAll_12 rfl (lv_at hl 1 rfl) ?_
        refine lv_aload_n hx hb dX4_rowsOfAll_13 rfl (lv_at hl 0 rfl) ?_
        refine va_get (D := D) (ci := 4) (v := .ref (ad 40)) (C := RX4) (T := TX4) (N := 9) hx hb ht inX4 hown hK hP 0 g_MB rfl 2 (by decide) (ht _ mw_161) (fun _ h9 => h9) rfl dX4_rowsOfAll_14 ?_
        refine lv_iload_n hx hb dX4_rowsOfAll_17 rfl (lv_at hl 2 rfl) ?_
        refine va_aldq (i := nI i104) hx hb hK hP 40 2 g_pieces rfl (vp_in_nI h_lt (by decide)) dX4_rowsOfAll_18 ?_
        rw [nI_clamp (n := i104) (by omega)]
        refine W.eq (g2 := F0 m 19 ls (.ref (ad (pPi i104)) :: .int x4_1 :: [])) rfl ?_
        refine va_get (D := D) (ci := 3) (v := .int (gF σ (pPi i104) 4)) (C := RX3) (T := TX3) (N := 8) hx hb ht inX3 hown hK hP (pPi i104) (g_Pi h_lt) rfl 4 (by decide) (ht _ mw_108) (fun _ h9 => h9) rfl dX4_rowsOfAll_19 ?_
        refine lv_iadd hx hb dX4_rowsOfAll_22 ?_
        refine lv_istore_n (lv' := [(1, .int (x4_1 + (gF σ (pPi i104) 4))), (0, .ref (ad 0)), (2, .int (nI i104))]) hx hb dX4_rowsOfAll_23 rfl hl (by decide) rfl (fun ls hl => ?_)
        refine lv_iinc (v := nI (i104 + 1)) (lv' := [(2, .int (nI (i104 + 1))), (1, .int (x4_1 + (gF σ (pPi i104) 4))), (0, .ref (ad 0))]) hx hb dX4_rowsOfAll_24 hl (k := 2) rfl (nI_1 i104) (by decide) rfl (fun ls hl => ?_)
        refine lv_goto (tgt := 4) hx hb dX4_rowsOfAll_27 (by decide) ?_
        exact ih  (i104 + 1) (x4_1 + (gF σ (pPi i104) 4)) _ _ ls h_lt (by omega) hP hD hS (lv_sub hl [2, 1, 0] rfl) hT
  rw [M_rowsOfAll] at hT
  refine lv_iconst (v := 0) hx hb dX4_rowsOfAll_0 (by decide) ?_
  refine lv_istore_n (lv' := [(1, .int 0), (0, .ref (ad 0))]) hx hb dX4_rowsOfAll_1 rfl hl (by decide) rfl (fun ls hl => ?_)
  refine lv_iconst (v := 0) hx hb dX4_rowsOfAll_2 (by decide) ?_
  refine lv_istore_n (lv' := [(2, .int 0), (1, .int 0), (0, .ref (ad 0))]) hx hb dX4_rowsOfAll_3 rfl hl (by decide) rfl (fun ls hl => ?_)
  exact L_4 11 0 0 _ _ ls (Nat.zero_le _) (by decide) hP hD hS (lv_sub hl [2, 1, 0] rfl) hT
set_option maxHeartbeats 4000000 in
set_option maxRecDepth 100000 in
theorem k_withAllAhead (l : Launch) (D : va_G) (ad : Nat → Nat) (kk : Nat → ClassId) (sz : Nat) (σ : St) (p1 : Int32) (hI : IB σ) : Met l yX4_withAllAhead wsX4_withAllAhead { frames := 1, cells := 0, slots := 0, locals := 21 } (va_Pc [.ref (ad 0), .int p1] (PB D ad kk sz σ)) (va_Qi (fun r u => r = M_withAllAhead σ p1 ∧ u = σ) (QB D ad kk sz) (aL 96 ad sz)) 0 0 (aL 96 ad sz) := by
  refine Met.ofW (cc := cX4_withAllAhead) (maxL := 5) (ret := (some .int)) (by decide) rfl ?_
  intro p e s m args below meth c s₁ B hml hv
  obtain ⟨rfl, hsz, hP, hK, hD0, hE⟩ := hv
  have hx := B.exec
  have hb := B.bytes
  have hr := B.returns
  have hts := atoms_spec (ws := wsX4_withAllAhead) B.pre
  have hown : s.vm.findClass RX4 = some m.cls := findClass_of_methodNamed B.named
  have hlocks := B.notSynchronized
  subst hsz
  have hD : va_D (aL 96 ad s.heap.size) (wB ad kk σ) := aL_D hD0
  have hS : va_S (aL 96 ad s.heap.size) s.heap s.heap [] := va_S.rf
  have hl := lv_entry ([.ref (ad 0), .int p1]) (n := 5) (Nat.le_of_ble_eq_true rfl)
  rw [lg_entry_eq]
  generalize (lg_sl ([.ref (ad 0), .int p1]) ++ List.replicate (5 - (lg_sl ([.ref (ad 0), .int p1])).length) Slot.unset).toArray = ls at hl ⊢
  have hl : lv_has ls 5 [(0, .ref (ad 0)), (1, .int p1)] := hl
  have CF : CallFix p m c cX4_withAllAhead 5 s ([.ref (ad 0), .int p1] : List Value).toArray wsX4_withAllAhead RX4 := ⟨hx, hb, hml, hown, hts⟩
  have ht : ∀ w ∈ T0, w.before ([.ref (ad 0), .int p1] : List Value).toArray s = true := fun w h => hts w (List.mem_cons_of_mem _ h)
  generalize hT : M_withAllAhead σ p1 = T
  refine namedQ (fun Q eQ => ?_)
  have I_13 : ∀ (n i113 : Nat) (z13_3 : Int32) (x13_2 : Int32) (H : Heap) (locs : List Loc) (ls : Array Slot) (V : Int32), i113 ≤ 12 → 13 ≤ i113 + n → va_P D vwCl (wB ad kk σ) H → va_D (aL 96 ad s.heap.size) (wB ad kk σ) → va_S (aL 96 ad s.heap.size) s.heap H locs → lv_has ls 5 [(0, .ref (ad 0)), (1, .int p1), (2, .int x13_2), (3, .int z13_3), (4, .int (nI i113))] → M_withAllAhead_h13 n i113 x13_2 σ = V → (∀ (x13_2 : Int32) (H : Heap) (locs : List Loc) (ls : Array Slot), x13_2 = V → va_P D vwCl (wB ad kk σ) H → va_D (aL 96 ad s.heap.size) (wB ad kk σ) → va_S (aL 96 ad s.heap.size) s.heap H locs → lv_has ls 5 [(0, .ref (ad 0)), (1, .int p1), (2, .int x13_2), (3, .int z13_3)] → W p l e (headSpec wsX4_withAllAhead { frames := 1, cells := 0, slots := 0, locals := 21 }).room s m ([.ref (ad 0), .int p1] : List Value).toArray below meth c H locs 0 0 Q (F0 m 50 ls [])) → W p l e (headSpec wsX4_withAllAhead { frames := 1, cells := 0, slots := 0, locals := 21 }).room s m ([.ref (ad 0), .int p1] : List Value).toArray below meth c H locs 0 0 Q (F0 m 13 ls []) := by
    intro n
    induction n with
    | zero =>
      intro i113 z13_3 x13_2 H locs ls V h_le h_fu hP hD hS hl hT K
      exact absurd h_fu (by omega)
    | succ n ih =>
      intro i113 z13_3 x13_2 H locs ls V h_le h_fu hP hD hS hl hT K
      rw [M_withAllAhead_h13] at hT
      refine lv_iload hx hb dX4_withAllAhead_13 (lv_at hl 4 rfl) ?_
      refine lv_aload_n hx hb dX4_withAllAhead_15 rfl (lv_at hl 0 rfl) ?_
      refine va_get (D := D) (ci := 4) (v := .int (gF σ 0 6)) (C := RX4) (T := TX4) (N := 9) hx hb ht inX4 hown hK hP 0 g_MB rfl 6 (by decide) (ht _ mw_165) (fun _ h9 => h9) rfl dX4_withAllAhead_16 ?_
      refine lv_icmp_ge (tgt := 50) hx hb dX4_withAllAhead_19 (by decide) (fun c2 => ?_) (fun c2 => ?_)
      · rw [if_pos c2] at hT
        exact K x13_2 H locs ls hT hP hD hS (lv_sub hl [0, 1, 2, 3] rfl)
      · rw [if_neg c2] at hT
        have h_lt := lp_lt (N := 12) (by decide) hI.mc h_le c2
        refine lv_iload_n hx hb dX4_withAllAhead_22 rfl (lv_at hl 2 rfl) ?_
        refine lv_iload hx hb dX4_withAllAhead_23 (lv_at hl 4 rfl) ?_
        refine vp_callSi (W.runS (As := [.int x13_2, .int (nI i113)]) (rest := []) CF (k_has l x13_2 (nI i113)) ⟨callB_of 2 hts (gT mw_402) rfl rfl rfl (ht _ mw_1) (ht _ mw_400) (by decide +kernel) ⟨Nat.le_of_ble_eq_true rfl, Nat.le_of_ble_eq_true rfl⟩, (ht _ mw_401)⟩ preEq rfl rfl hl.1 rfl (lv_room (Nat.le_of_ble_eq_true rfl)) dX4_withAllAhead_25 ⟨Nat.le_of_ble_eq_true rfl, Nat.le_of_ble_eq_true rfl⟩) (fun r3 h_r3 => ?_)
        obtain rfl := h_r3
        refine lv_if_eq (tgt := 44) hx hb dX4_withAllAhead_28 (by decide) (fun c4 => ?_) (fun c4 => ?_)
        · rw [if_pos c4] at hT
          refine lv_iinc (v := nI (i113 + 1)) (lv' := [(4, .int (nI (i113 + 1))), (0, .ref (ad 0)), (1, .int p1), (2, .int x13_2), (3, .int z13_3)]) hx hb dX4_withAllAhead_44 hl (k := 4) rfl (nI_1 i113) (by decide) rfl (fun ls hl => ?_)
          refine lv_goto (tgt := 13) hx hb dX4_withAllAhead_47 (by decide) ?_
          exact ih  (i113 + 1) z13_3 x13_2 _ _ ls V h_lt (by omega) hP hD hS (lv_sub hl [1, 2, 3, 4, 0] rfl) hT K
        · rw [if_neg c4] at hT
          refine lv_iload_n hx hb dX4_withAllAhead_31 rfl (lv_at hl 2 rfl) ?_
          refine lv_aload_n hx hb dX4_withAllAhead_32 rfl (lv_at hl 0 rfl) ?_
          refine va_get (D := D) (ci := 4) (v := .ref (ad 3)) (C := RX4) (T := TX4) (N := 9) hx hb ht inX4 hown hK hP 0 g_MB rfl 1 (by decide) (ht _ mw_160) (fun _ h9 => h9) rfl dX4_withAllAhead_33 ?_
          refine lv_iload hx hb dX4_withAllAhead_36 (lv_at hl 4 rfl) ?_
          refine va_aldq (i := nI i113) hx hb hK hP 3 1 g_methods rfl (vp_in_nI h_lt (by decide)) dX4_withAllAhead_38 ?_
          rw [nI_clamp (n := i113) (by omega)]
          refine W.eq (g2 := F0 m 39 ls (.ref (ad (pMe i113)) :: .int x13_2 :: [])) rfl ?_
          refine va_get (D := D) (ci := 1) (v := .int (gF σ (pMe i113) 4)) (C := RX1) (T := TX1) (N := 9) hx hb ht inX1 hown hK hP (pMe i113) (g_Me h_lt) rfl 4 (by decide) (ht _ mw_65) (fun _ h9 => h9) rfl dX4_withAllAhead_39 ?_
          refine lv_ior hx hb dX4_withAllAhead_42 ?_
          refine lv_istore_n (lv' := [(2, .int (x13_2 ||| (gF σ (pMe i113) 4))), (0, .ref (ad 0)), (1, .int p1), (3, .int z13_3), (4, .int (nI i113))]) hx hb dX4_withAllAhead_43 rfl hl (by decide) rfl (fun ls hl => ?_)
          refine lv_iinc (v := nI (i113 + 1)) (lv' := [(4, .int (nI (i113 + 1))), (2, .int (x13_2 ||| (gF σ (pMe i113) 4))), (0, .ref (ad 0)), (1, .int p1), (3, .int z13_3)]) hx hb dX4_withAllAhead_44 hl (k := 4) rfl (nI_1 i113) (by decide) rfl (fun ls hl => ?_)
          refine lv_goto (tgt := 13) hx hb dX4_withAllAhead_47 (by decide) ?_
          exact ih  (i113 + 1) z13_3 (x13_2 ||| (gF σ (pMe i113) 4)) _ _ ls V h_lt (by omega) hP hD hS (lv_sub hl [2, 3, 1, 4, 0] rfl) hT K
  have L_4 : ∀ (n i104 : Nat) (x4_2 : Int32) (H : Heap) (locs : List Loc) (ls : Array Slot), i104 ≤ 12 → 13 ≤ i104 + n → va_P D vwCl (wB ad kk σ) H → va_D (aL 96 ad s.heap.size) (wB ad kk σ) → va_S (aL 96 ad s.heap.size) s.heap H locs → lv_has ls 5 [(0, .ref (ad 0)), (1, .int p1), (2, .int x4_2), (3, .int (nI i104))] → M_withAllAhead_h4 n i104 x4_2 σ = T → W p l e (headSpec wsX4_withAllAhead { frames := 1, cells := 0, slots := 0, locals := 21 }).room s m ([.ref (ad 0), .int p1] : List Value).toArray below meth c H locs 0 0 Q (F0 m 4 ls []) := by
    intro n
    induction n with
    | zero =>
      intro i104 x4_2 H locs ls h_le h_fu hP hD hS hl hT
      exact absurd h_fu (by omega)
    | succ n ih =>
      intro i104 x4_2 H locs ls h_le h_fu hP hD hS hl hT
      rw [M_withAllAhead_h4] at hT
      refine lv_iload_n hx hb dX4_withAllAhead_4 rfl (lv_at hl 3 rfl) ?_
      refine lv_bipush (v := 12) hx hb dX4_withAllAhead_5 (by decide) ?_
      refine lv_icmp_ge (tgt := 56) hx hb dX4_withAllAhead_7 (by decide) (fun c1 => ?_) (fun c1 => ?_)
      · rw [if_pos c1] at hT
        refine lv_iload_n hx hb dX4_withAllAhead_56 rfl (lv_at hl 2 rfl) ?_
        rw [eQ]
        exact W.iret (v := x4_2) hx hb hr (fun t ht hW => ⟨⟨x4_2, σ, rfl, ⟨hT, rfl⟩, by rw [ht]; exact hP, va_K.moved hW.alike hK, hD⟩, hS.F ht⟩) hS.2.2 dX4_withAllAhead_57
      · rw [if_neg c1] at hT
        have h_lt := lp_lt (N := 12) (by decide) (by decide) h_le c1
        refine lv_iconst (v := 0) hx hb dX4_withAllAhead_10 (by decide) ?_
        refine lv_istore (lv' := [(4, .int 0), (0, .ref (ad 0)), (1, .int p1), (2, .int x4_2), (3, .int (nI i104))]) hx hb dX4_withAllAhead_11 hl (by decide) rfl (fun ls hl => ?_)
        refine I_13 13 0 (nI i104) x4_2 _ _ ls _ (Nat.zero_le _) (by decide) hP hD hS (lv_sub hl [1, 2, 3, 4, 0] rfl) rfl (fun y2 H locs ls hTi hP hD hS hl => ?_)
        rw [← hTi, vb_eq] at hT
        refine lv_iinc (v := nI (i104 + 1)) (lv' := [(3, .int (nI (i104 + 1))), (0, .ref (ad 0)), (1, .int p1), (2, .int y2)]) hx hb dX4_withAllAhead_50 hl (k := 3) rfl (nI_1 i104) (by decide) rfl (fun ls hl => ?_)
        refine lv_goto (tgt := 4) hx hb dX4_withAllAhead_53 (by decide) ?_
        exact ih  (i104 + 1) y2 _ _ ls h_lt (by omega) hP hD hS (lv_sub hl [1, 2, 3, 0] rfl) hT
  rw [M_withAllAhead] at hT
  refine lv_iload_n hx hb dX4_withAllAhead_0 rfl (lv_at hl 1 rfl) ?_
  refine lv_istore_n (lv' := [(2, .int p1), (0, .ref (ad 0)), (1, .int p1)]) hx hb dX4_withAllAhead_1 rfl hl (by decide) rfl (fun ls hl => ?_)
  refine lv_iconst (v := 0) hx hb dX4_withAllAhead_2 (by decide) ?_
  refine lv_istore_n (lv' := [(3, .int 0), (2, .int p1), (0, .ref (ad 0)), (1, .int p1)]) hx hb dX4_withAllAhead_3 rfl hl (by decide) rfl (fun ls hl => ?_)
  exact L_4 13 0 p1 _ _ ls (Nat.zero_le _) (by decide) hP hD hS (lv_sub hl [2, 3, 1, 0] rfl) hT
set_option maxHeartbeats 4000000 in
set_option maxRecDepth 100000 in
theorem k_mayBeDone (l : Launch) (D : va_G) (ad : Nat → Nat) (kk : Nat → ClassId) (sz : Nat) (σ : St) (i1 : Nat) (p2 : Int32) (h1 : i1 < 10) (hI : IB σ) (hm : 0 ≤ p2.toInt) : Met l yX4_mayBeDone wsX4_mayBeDone { frames := 0, cells := 0, slots := 0, locals := 0 } (va_Pc [.ref (ad 0), .ref (ad (pPi i1)), .int p2] (PB D ad kk sz σ)) (va_Qi (fun r u => r = M_mayBeDone σ i1 p2 ∧ u = σ) (QB D ad kk sz) (aL 96 ad sz)) 0 0 (aL 96 ad sz) := by
  refine Met.ofW (cc := cX4_mayBeDone) (maxL := 3) (ret := (some .boolean)) (by decide) rfl ?_
  intro p e s m args below meth c s₁ B hml hv
  obtain ⟨rfl, hsz, hP, hK, hD0, hE⟩ := hv
  have hx := B.exec
  have hb := B.bytes
  have hr := B.returns
  have hts := atoms_spec (ws := wsX4_mayBeDone) B.pre
  have hown : s.vm.findClass RX4 = some m.cls := findClass_of_methodNamed B.named
  have hlocks := B.notSynchronized
  subst hsz
  have hD : va_D (aL 96 ad s.heap.size) (wB ad kk σ) := aL_D hD0
  have hS : va_S (aL 96 ad s.heap.size) s.heap s.heap [] := va_S.rf
  have hl := lv_entry ([.ref (ad 0), .ref (ad (pPi i1)), .int p2]) (n := 3) (Nat.le_of_ble_eq_true rfl)
  rw [lg_entry_eq]
  generalize (lg_sl ([.ref (ad 0), .ref (ad (pPi i1)), .int p2]) ++ List.replicate (3 - (lg_sl ([.ref (ad 0), .ref (ad (pPi i1)), .int p2])).length) Slot.unset).toArray = ls at hl ⊢
  have hl : lv_has ls 3 [(0, .ref (ad 0)), (1, .ref (ad (pPi i1))), (2, .int p2)] := hl
  have CF : CallFix p m c cX4_mayBeDone 3 s ([.ref (ad 0), .ref (ad (pPi i1)), .int p2] : List Value).toArray wsX4_mayBeDone RX4 := ⟨hx, hb, hml, hown, hts⟩
  have ht : ∀ w ∈ T0, w.before ([.ref (ad 0), .ref (ad (pPi i1)), .int p2] : List Value).toArray s = true := fun w h => hts w (List.mem_cons_of_mem _ h)
  generalize hT : M_mayBeDone σ i1 p2 = T
  rw [M_mayBeDone] at hT
  refine lv_iload_n hx hb dX4_mayBeDone_0 rfl (lv_at hl 2 rfl) ?_
  refine lv_aload_n hx hb dX4_mayBeDone_1 rfl (lv_at hl 0 rfl) ?_
  refine va_get (D := D) (ci := 4) (v := .int (gF σ 0 6)) (C := RX4) (T := TX4) (N := 9) hx hb ht inX4 hown hK hP 0 g_MB rfl 6 (by decide) (ht _ mw_165) (fun _ h9 => h9) rfl dX4_mayBeDone_2 ?_
  refine lv_icmp_ge (tgt := 46) hx hb dX4_mayBeDone_5 (by decide) (fun c1 => ?_) (fun c1 => ?_)
  · rw [if_pos c1] at hT
    refine lv_iconst (v := 0) hx hb dX4_mayBeDone_46 (by decide) ?_
    exact W.zret (v := 0) hx hb hr rfl (fun t ht hW => ⟨⟨0, σ, rfl, ⟨hT, rfl⟩, by rw [ht]; exact hP, va_K.moved hW.alike hK, hD⟩, hS.F ht⟩) hS.2.2 dX4_mayBeDone_47
  · rw [if_neg c1] at hT
    have hlt := c1
    refine lv_aload_n hx hb dX4_mayBeDone_8 rfl (lv_at hl 0 rfl) ?_
    refine va_get (D := D) (ci := 4) (v := .ref (ad 3)) (C := RX4) (T := TX4) (N := 9) hx hb ht inX4 hown hK hP 0 g_MB rfl 1 (by decide) (ht _ mw_160) (fun _ h9 => h9) rfl dX4_mayBeDone_9 ?_
    refine lv_iload_n hx hb dX4_mayBeDone_12 rfl (lv_at hl 2 rfl) ?_
    refine va_aldq (i := p2) hx hb hK hP 3 1 g_methods rfl (mbd_in hI hm hlt) dX4_mayBeDone_13 ?_
    refine W.eq (g2 := F0 m 14 ls (.ref (ad (pMe p2.toNatClampNeg)) :: [])) rfl ?_
    refine va_get (D := D) (ci := 1) (v := .int (gF σ (pMe p2.toNatClampNeg) 2)) (C := RX1) (T := TX1) (N := 9) hx hb ht inX1 hown hK hP (pMe p2.toNatClampNeg) (g_Me (vin_lt (mbd_in hI hm hlt))) rfl 2 (by decide) (ht _ mw_59) (fun _ h9 => h9) rfl dX4_mayBeDone_14 ?_
    refine lv_aload_n hx hb dX4_mayBeDone_17 rfl (lv_at hl 1 rfl) ?_
    refine va_get (D := D) (ci := 3) (v := .int (gF σ (pPi i1) 5)) (C := RX3) (T := TX3) (N := 8) hx hb ht inX3 hown hK hP (pPi i1) (g_Pi h1) rfl 5 (by decide) (ht _ mw_110) (fun _ h9 => h9) rfl dX4_mayBeDone_18 ?_
    refine lv_iand hx hb dX4_mayBeDone_21 ?_
    refine lv_if_ne (tgt := 46) hx hb dX4_mayBeDone_22 (by decide) (fun c2 => ?_) (fun c2 => ?_)
    · rw [if_neg c2] at hT
      refine lv_iconst (v := 0) hx hb dX4_mayBeDone_46 (by decide) ?_
      exact W.zret (v := 0) hx hb hr rfl (fun t ht hW => ⟨⟨0, σ, rfl, ⟨hT, rfl⟩, by rw [ht]; exact hP, va_K.moved hW.alike hK, hD⟩, hS.F ht⟩) hS.2.2 dX4_mayBeDone_47
    · rw [if_pos c2] at hT
      refine lv_aload_n hx hb dX4_mayBeDone_25 rfl (lv_at hl 0 rfl) ?_
      refine va_get (D := D) (ci := 4) (v := .ref (ad 3)) (C := RX4) (T := TX4) (N := 9) hx hb ht inX4 hown hK hP 0 g_MB rfl 1 (by decide) (ht _ mw_160) (fun _ h9 => h9) rfl dX4_mayBeDone_26 ?_
      refine lv_iload_n hx hb dX4_mayBeDone_29 rfl (lv_at hl 2 rfl) ?_
      refine va_aldq (i := p2) hx hb hK hP 3 1 g_methods rfl (mbd_in hI hm hlt) dX4_mayBeDone_30 ?_
      refine W.eq (g2 := F0 m 31 ls (.ref (ad (pMe p2.toNatClampNeg)) :: [])) rfl ?_
      refine va_get (D := D) (ci := 1) (v := .int (gF σ (pMe p2.toNatClampNeg) 3)) (C := RX1) (T := TX1) (N := 9) hx hb ht inX1 hown hK hP (pMe p2.toNatClampNeg) (g_Me (vin_lt (mbd_in hI hm hlt))) rfl 3 (by decide) (ht _ mw_62) (fun _ h9 => h9) rfl dX4_mayBeDone_31 ?_
      refine lv_aload_n hx hb dX4_mayBeDone_34 rfl (lv_at hl 1 rfl) ?_
      refine va_get (D := D) (ci := 3) (v := .int (gF σ (pPi i1) 6)) (C := RX3) (T := TX3) (N := 8) hx hb ht inX3 hown hK hP (pPi i1) (g_Pi h1) rfl 6 (by decide) (ht _ mw_112) (fun _ h9 => h9) rfl dX4_mayBeDone_35 ?_
      refine lv_iand hx hb dX4_mayBeDone_38 ?_
      refine lv_if_ne (tgt := 46) hx hb dX4_mayBeDone_39 (by decide) (fun c3 => ?_) (fun c3 => ?_)
      · rw [if_neg c3] at hT
        refine lv_iconst (v := 0) hx hb dX4_mayBeDone_46 (by decide) ?_
        exact W.zret (v := 0) hx hb hr rfl (fun t ht hW => ⟨⟨0, σ, rfl, ⟨hT, rfl⟩, by rw [ht]; exact hP, va_K.moved hW.alike hK, hD⟩, hS.F ht⟩) hS.2.2 dX4_mayBeDone_47
      · rw [if_pos c3] at hT
        refine lv_iconst (v := 1) hx hb dX4_mayBeDone_42 (by decide) ?_
        refine lv_goto (tgt := 47) hx hb dX4_mayBeDone_43 (by decide) ?_
        exact W.zret (v := 1) hx hb hr rfl (fun t ht hW => ⟨⟨1, σ, rfl, ⟨hT, rfl⟩, by rw [ht]; exact hP, va_K.moved hW.alike hK, hD⟩, hS.F ht⟩) hS.2.2 dX4_mayBeDone_47
set_option maxHeartbeats 4000000 in
set_option maxRecDepth 100000 in
theorem k_eachMayBeDone (l : Launch) (D : va_G) (ad : Nat → Nat) (kk : Nat → ClassId) (sz : Nat) (σ : St) (i1 : Nat) (p2 : Int32) (h1 : i1 < 10) (hI : IB σ) : Met l yX4_eachMayBeDone wsX4_eachMayBeDone { frames := 1, cells := 0, slots := 0, locals := 22 } (va_Pc [.ref (ad 0), .ref (ad (pPi i1)), .int p2] (PB D ad kk sz σ)) (va_Qi (fun r u => r = M_eachMayBeDone σ i1 p2 ∧ u = σ) (QB D ad kk sz) (aL 96 ad sz)) 0 0 (aL 96 ad sz) := by
  refine Met.ofW (cc := cX4_eachMayBeDone) (maxL := 4) (ret := (some .boolean)) (by decide) rfl ?_
  intro p e s m args below meth c s₁ B hml hv
  obtain ⟨rfl, hsz, hP, hK, hD0, hE⟩ := hv
  have hx := B.exec
  have hb := B.bytes
  have hr := B.returns
  have hts := atoms_spec (ws := wsX4_eachMayBeDone) B.pre
  have hown : s.vm.findClass RX4 = some m.cls := findClass_of_methodNamed B.named
  have hlocks := B.notSynchronized
  subst hsz
  have hD : va_D (aL 96 ad s.heap.size) (wB ad kk σ) := aL_D hD0
  have hS : va_S (aL 96 ad s.heap.size) s.heap s.heap [] := va_S.rf
  have hl := lv_entry ([.ref (ad 0), .ref (ad (pPi i1)), .int p2]) (n := 4) (Nat.le_of_ble_eq_true rfl)
  rw [lg_entry_eq]
  generalize (lg_sl ([.ref (ad 0), .ref (ad (pPi i1)), .int p2]) ++ List.replicate (4 - (lg_sl ([.ref (ad 0), .ref (ad (pPi i1)), .int p2])).length) Slot.unset).toArray = ls at hl ⊢
  have hl : lv_has ls 4 [(0, .ref (ad 0)), (1, .ref (ad (pPi i1))), (2, .int p2)] := hl
  have CF : CallFix p m c cX4_eachMayBeDone 4 s ([.ref (ad 0), .ref (ad (pPi i1)), .int p2] : List Value).toArray wsX4_eachMayBeDone RX4 := ⟨hx, hb, hml, hown, hts⟩
  have ht : ∀ w ∈ T0, w.before ([.ref (ad 0), .ref (ad (pPi i1)), .int p2] : List Value).toArray s = true := fun w h => hts w (List.mem_cons_of_mem _ h)
  generalize hT : M_eachMayBeDone σ i1 p2 = T
  refine namedQ (fun Q eQ => ?_)
  have L_2 : ∀ (n i102 : Nat) (H : Heap) (locs : List Loc) (ls : Array Slot), i102 ≤ 12 → 13 ≤ i102 + n → va_P D vwCl (wB ad kk σ) H → va_D (aL 96 ad s.heap.size) (wB ad kk σ) → va_S (aL 96 ad s.heap.size) s.heap H locs → lv_has ls 4 [(0, .ref (ad 0)), (1, .ref (ad (pPi i1))), (2, .int p2), (3, .int (nI i102))] → M_eachMayBeDone_h2 n i102 p2 σ i1 = T → W p l e (headSpec wsX4_eachMayBeDone { frames := 1, cells := 0, slots := 0, locals := 22 }).room s m ([.ref (ad 0), .ref (ad (pPi i1)), .int p2] : List Value).toArray below meth c H locs 0 0 Q (F0 m 2 ls []) := by
    intro n
    induction n with
    | zero =>
      intro i102 H locs ls h_le h_fu hP hD hS hl hT
      exact absurd h_fu (by omega)
    | succ n ih =>
      intro i102 H locs ls h_le h_fu hP hD hS hl hT
      rw [M_eachMayBeDone_h2] at hT
      refine lv_iload_n hx hb dX4_eachMayBeDone_2 rfl (lv_at hl 3 rfl) ?_
      refine lv_bipush (v := 12) hx hb dX4_eachMayBeDone_3 (by decide) ?_
      refine lv_icmp_ge (tgt := 33) hx hb dX4_eachMayBeDone_5 (by decide) (fun c1 => ?_) (fun c1 => ?_)
      · rw [if_pos c1] at hT
        refine lv_iconst (v := 1) hx hb dX4_eachMayBeDone_33 (by decide) ?_
        rw [eQ]
        exact W.zret (v := 1) hx hb hr rfl (fun t ht hW => ⟨⟨1, σ, rfl, ⟨hT, rfl⟩, by rw [ht]; exact hP, va_K.moved hW.alike hK, hD⟩, hS.F ht⟩) hS.2.2 dX4_eachMayBeDone_34
      · rw [if_neg c1] at hT
        have h_lt := lp_lt (N := 12) (by decide) (by decide) h_le c1
        refine lv_iload_n hx hb dX4_eachMayBeDone_8 rfl (lv_at hl 2 rfl) ?_
        refine lv_iload_n hx hb dX4_eachMayBeDone_9 rfl (lv_at hl 3 rfl) ?_
        refine vp_callSi (W.runS (As := [.int p2, .int (nI i102)]) (rest := []) CF (k_has l p2 (nI i102)) ⟨callB_of 2 hts (gT mw_402) rfl rfl rfl (ht _ mw_1) (ht _ mw_400) (by decide +kernel) ⟨Nat.le_of_ble_eq_true rfl, Nat.le_of_ble_eq_true rfl⟩, (ht _ mw_401)⟩ preEq rfl rfl hl.1 rfl (lv_room (Nat.le_of_ble_eq_true rfl)) dX4_eachMayBeDone_10 ⟨Nat.le_of_ble_eq_true rfl, Nat.le_of_ble_eq_true rfl⟩) (fun r2 h_r2 => ?_)
        obtain rfl := h_r2
        refine lv_if_eq (tgt := 27) hx hb dX4_eachMayBeDone_13 (by decide) (fun c3 => ?_) (fun c3 => ?_)
        · rw [if_pos c3] at hT
          refine lv_iinc (v := nI (i102 + 1)) (lv' := [(3, .int (nI (i102 + 1))), (0, .ref (ad 0)), (1, .ref (ad (pPi i1))), (2, .int p2)]) hx hb dX4_eachMayBeDone_27 hl (k := 3) rfl (nI_1 i102) (by decide) rfl (fun ls hl => ?_)
          refine lv_goto (tgt := 2) hx hb dX4_eachMayBeDone_30 (by decide) ?_
          exact ih  (i102 + 1) _ _ ls h_lt (by omega) hP hD hS (lv_sub hl [1, 2, 3, 0] rfl) hT
        · rw [if_neg c3] at hT
          refine lv_aload_n hx hb dX4_eachMayBeDone_16 rfl (lv_at hl 0 rfl) ?_
          refine lv_aload_n hx hb dX4_eachMayBeDone_17 rfl (lv_at hl 1 rfl) ?_
          refine lv_iload_n hx hb dX4_eachMayBeDone_18 rfl (lv_at hl 3 rfl) ?_
          refine kB_i (va_runV (As := [.ref (ad (pPi i1)), .int (nI i102)]) (rest := []) CF (k_mayBeDone l D ad kk _ σ i1 (nI i102) h1 hI (nI_nn h_le (by decide))) ⟨callB_of 2 hts (gT mw_533) rfl rfl rfl (ht _ mw_1) (ht _ mw_530) (by decide +kernel) ⟨Nat.le_of_ble_eq_true rfl, Nat.le_of_ble_eq_true rfl⟩, (ht _ mw_532), (ht _ ms_18)⟩ (preV_B hK hP hD hE hS (ci := 4) rfl rfl g_MB) rfl rfl hl.1 rfl (lv_room (Nat.le_of_ble_eq_true rfl)) dX4_eachMayBeDone_19 ⟨Nat.le_of_ble_eq_true rfl, Nat.le_of_ble_eq_true rfl⟩) hS (fun r4 u9 H locs hw hP hD hS => ?_)
          obtain ⟨rfl, e9⟩ := hw
          rw [e9] at hP hD
          refine lv_if_ne (tgt := 27) hx hb dX4_eachMayBeDone_22 (by decide) (fun c5 => ?_) (fun c5 => ?_)
          · rw [if_neg c5] at hT
            refine lv_iinc (v := nI (i102 + 1)) (lv' := [(3, .int (nI (i102 + 1))), (0, .ref (ad 0)), (1, .ref (ad (pPi i1))), (2, .int p2)]) hx hb dX4_eachMayBeDone_27 hl (k := 3) rfl (nI_1 i102) (by decide) rfl (fun ls hl => ?_)
            refine lv_goto (tgt := 2) hx hb dX4_eachMayBeDone_30 (by decide) ?_
            exact ih  (i102 + 1) _ _ ls h_lt (by omega) hP hD hS (lv_sub hl [1, 2, 3, 0] rfl) hT
          · rw [if_pos c5] at hT
            refine lv_iconst (v := 0) hx hb dX4_eachMayBeDone_25 (by decide) ?_
            rw [eQ]
            exact W.zret (v := 0) hx hb hr rfl (fun t ht hW => ⟨⟨0, σ, rfl, ⟨hT, rfl⟩, by rw [ht]; exact hP, va_K.moved hW.alike hK, hD⟩, hS.F ht⟩) hS.2.2 dX4_eachMayBeDone_26
  rw [M_eachMayBeDone] at hT
  refine lv_iconst (v := 0) hx hb dX4_eachMayBeDone_0 (by decide) ?_
  refine lv_istore_n (lv' := [(3, .int 0), (0, .ref (ad 0)), (1, .ref (ad (pPi i1))), (2, .int p2)]) hx hb dX4_eachMayBeDone_1 rfl hl (by decide) rfl (fun ls hl => ?_)
  exact L_2 13 0 _ _ ls (Nat.zero_le _) (by decide) hP hD hS (lv_sub hl [1, 2, 3, 0] rfl) hT
set_option maxHeartbeats 4000000 in
set_option maxRecDepth 100000 in
theorem k_hasToWait (l : Launch) (D : va_G) (ad : Nat → Nat) (kk : Nat → ClassId) (sz : Nat) (σ : St) (p1 : Int32) (p2 : Int32) (hI : IB σ) : Met l yX4_hasToWait wsX4_hasToWait { frames := 1, cells := 0, slots := 0, locals := 21 } (va_Pc [.ref (ad 0), .int p1, .int p2] (PB D ad kk sz σ)) (va_Qi (fun r u => r = M_hasToWait σ p1 p2 ∧ u = σ) (QB D ad kk sz) (aL 96 ad sz)) 0 0 (aL 96 ad sz) := by
  refine Met.ofW (cc := cX4_hasToWait) (maxL := 4) (ret := (some .boolean)) (by decide) rfl ?_
  intro p e s m args below meth c s₁ B hml hv
  obtain ⟨rfl, hsz, hP, hK, hD0, hE⟩ := hv
  have hx := B.exec
  have hb := B.bytes
  have hr := B.returns
  have hts := atoms_spec (ws := wsX4_hasToWait) B.pre
  have hown : s.vm.findClass RX4 = some m.cls := findClass_of_methodNamed B.named
  have hlocks := B.notSynchronized
  subst hsz
  have hD : va_D (aL 96 ad s.heap.size) (wB ad kk σ) := aL_D hD0
  have hS : va_S (aL 96 ad s.heap.size) s.heap s.heap [] := va_S.rf
  have hl := lv_entry ([.ref (ad 0), .int p1, .int p2]) (n := 4) (Nat.le_of_ble_eq_true rfl)
  rw [lg_entry_eq]
  generalize (lg_sl ([.ref (ad 0), .int p1, .int p2]) ++ List.replicate (4 - (lg_sl ([.ref (ad 0), .int p1, .int p2])).length) Slot.unset).toArray = ls at hl ⊢
  have hl : lv_has ls 4 [(0, .ref (ad 0)), (1, .int p1), (2, .int p2)] := hl
  have CF : CallFix p m c cX4_hasToWait 4 s ([.ref (ad 0), .int p1, .int p2] : List Value).toArray wsX4_hasToWait RX4 := ⟨hx, hb, hml, hown, hts⟩
  have ht : ∀ w ∈ T0, w.before ([.ref (ad 0), .int p1, .int p2] : List Value).toArray s = true := fun w h => hts w (List.mem_cons_of_mem _ h)
  generalize hT : M_hasToWait σ p1 p2 = T
  refine namedQ (fun Q eQ => ?_)
  have L_2 : ∀ (n i102 : Nat) (H : Heap) (locs : List Loc) (ls : Array Slot), i102 ≤ 12 → 13 ≤ i102 + n → va_P D vwCl (wB ad kk σ) H → va_D (aL 96 ad s.heap.size) (wB ad kk σ) → va_S (aL 96 ad s.heap.size) s.heap H locs → lv_has ls 4 [(0, .ref (ad 0)), (1, .int p1), (2, .int p2), (3, .int (nI i102))] → M_hasToWait_h2 n i102 σ p1 p2 = T → W p l e (headSpec wsX4_hasToWait { frames := 1, cells := 0, slots := 0, locals := 21 }).room s m ([.ref (ad 0), .int p1, .int p2] : List Value).toArray below meth c H locs 0 0 Q (F0 m 2 ls []) := by
    intro n
    induction n with
    | zero =>
      intro i102 H locs ls h_le h_fu hP hD hS hl hT
      exact absurd h_fu (by omega)
    | succ n ih =>
      intro i102 H locs ls h_le h_fu hP hD hS hl hT
      rw [M_hasToWait_h2] at hT
      refine lv_iload_n hx hb dX4_hasToWait_2 rfl (lv_at hl 3 rfl) ?_
      refine lv_aload_n hx hb dX4_hasToWait_3 rfl (lv_at hl 0 rfl) ?_
      refine va_get (D := D) (ci := 4) (v := .int (gF σ 0 6)) (C := RX4) (T := TX4) (N := 9) hx hb ht inX4 hown hK hP 0 g_MB rfl 6 (by decide) (ht _ mw_165) (fun _ h9 => h9) rfl dX4_hasToWait_4 ?_
      refine lv_icmp_ge (tgt := 47) hx hb dX4_hasToWait_7 (by decide) (fun c1 => ?_) (fun c1 => ?_)
      · rw [if_pos c1] at hT
        refine lv_iconst (v := 0) hx hb dX4_hasToWait_47 (by decide) ?_
        rw [eQ]
        exact W.zret (v := 0) hx hb hr rfl (fun t ht hW => ⟨⟨0, σ, rfl, ⟨hT, rfl⟩, by rw [ht]; exact hP, va_K.moved hW.alike hK, hD⟩, hS.F ht⟩) hS.2.2 dX4_hasToWait_48
      · rw [if_neg c1] at hT
        have h_lt := lp_lt (N := 12) (by decide) hI.mc h_le c1
        refine lv_iload_n hx hb dX4_hasToWait_10 rfl (lv_at hl 3 rfl) ?_
        refine lv_iload_n hx hb dX4_hasToWait_11 rfl (lv_at hl 1 rfl) ?_
        refine lv_icmp_eq (tgt := 41) hx hb dX4_hasToWait_12 (by decide) (fun c2 => ?_) (fun c2 => ?_)
        · rw [if_pos c2] at hT
          refine lv_iinc (v := nI (i102 + 1)) (lv' := [(3, .int (nI (i102 + 1))), (0, .ref (ad 0)), (1, .int p1), (2, .int p2)]) hx hb dX4_hasToWait_41 hl (k := 3) rfl (nI_1 i102) (by decide) rfl (fun ls hl => ?_)
          refine lv_goto (tgt := 2) hx hb dX4_hasToWait_44 (by decide) ?_
          exact ih  (i102 + 1) _ _ ls h_lt (by omega) hP hD hS (lv_sub hl [1, 2, 3, 0] rfl) hT
        · rw [if_neg c2] at hT
          refine lv_iload_n hx hb dX4_hasToWait_15 rfl (lv_at hl 2 rfl) ?_
          refine lv_iload_n hx hb dX4_hasToWait_16 rfl (lv_at hl 3 rfl) ?_
          refine vp_callSi (W.runS (As := [.int p2, .int (nI i102)]) (rest := []) CF (k_has l p2 (nI i102)) ⟨callB_of 2 hts (gT mw_402) rfl rfl rfl (ht _ mw_1) (ht _ mw_400) (by decide +kernel) ⟨Nat.le_of_ble_eq_true rfl, Nat.le_of_ble_eq_true rfl⟩, (ht _ mw_401)⟩ preEq rfl rfl hl.1 rfl (lv_room (Nat.le_of_ble_eq_true rfl)) dX4_hasToWait_17 ⟨Nat.le_of_ble_eq_true rfl, Nat.le_of_ble_eq_true rfl⟩) (fun r3 h_r3 => ?_)
          obtain rfl := h_r3
          refine lv_if_eq (tgt := 41) hx hb dX4_hasToWait_20 (by decide) (fun c4 => ?_) (fun c4 => ?_)
          · rw [if_pos c4] at hT
            refine lv_iinc (v := nI (i102 + 1)) (lv' := [(3, .int (nI (i102 + 1))), (0, .ref (ad 0)), (1, .int p1), (2, .int p2)]) hx hb dX4_hasToWait_41 hl (k := 3) rfl (nI_1 i102) (by decide) rfl (fun ls hl => ?_)
            refine lv_goto (tgt := 2) hx hb dX4_hasToWait_44 (by decide) ?_
            exact ih  (i102 + 1) _ _ ls h_lt (by omega) hP hD hS (lv_sub hl [1, 2, 3, 0] rfl) hT
          · rw [if_neg c4] at hT
            refine lv_aload_n hx hb dX4_hasToWait_23 rfl (lv_at hl 0 rfl) ?_
            refine va_get (D := D) (ci := 4) (v := .ref (ad 3)) (C := RX4) (T := TX4) (N := 9) hx hb ht inX4 hown hK hP 0 g_MB rfl 1 (by decide) (ht _ mw_160) (fun _ h9 => h9) rfl dX4_hasToWait_24 ?_
            refine lv_iload_n hx hb dX4_hasToWait_27 rfl (lv_at hl 3 rfl) ?_
            refine va_aldq (i := nI i102) hx hb hK hP 3 1 g_methods rfl (vp_in_nI h_lt (by decide)) dX4_hasToWait_28 ?_
            rw [nI_clamp (n := i102) (by omega)]
            refine W.eq (g2 := F0 m 29 ls (.ref (ad (pMe i102)) :: [])) rfl ?_
            refine va_get (D := D) (ci := 1) (v := .int (gF σ (pMe i102) 3)) (C := RX1) (T := TX1) (N := 9) hx hb ht inX1 hown hK hP (pMe i102) (g_Me h_lt) rfl 3 (by decide) (ht _ mw_62) (fun _ h9 => h9) rfl dX4_hasToWait_29 ?_
            refine lv_iload_n hx hb dX4_hasToWait_32 rfl (lv_at hl 1 rfl) ?_
            refine vp_callSi (W.runS (As := [.int (gF σ (pMe i102) 3), .int p1]) (rest := []) CF (k_has l (gF σ (pMe i102) 3) p1) ⟨callB_of 2 hts (gT mw_402) rfl rfl rfl (ht _ mw_1) (ht _ mw_400) (by decide +kernel) ⟨Nat.le_of_ble_eq_true rfl, Nat.le_of_ble_eq_true rfl⟩, (ht _ mw_401)⟩ preEq rfl rfl hl.1 rfl (lv_room (Nat.le_of_ble_eq_true rfl)) dX4_hasToWait_33 ⟨Nat.le_of_ble_eq_true rfl, Nat.le_of_ble_eq_true rfl⟩) (fun r5 h_r5 => ?_)
            obtain rfl := h_r5
            refine lv_if_eq (tgt := 41) hx hb dX4_hasToWait_36 (by decide) (fun c6 => ?_) (fun c6 => ?_)
            · rw [if_pos c6] at hT
              refine lv_iinc (v := nI (i102 + 1)) (lv' := [(3, .int (nI (i102 + 1))), (0, .ref (ad 0)), (1, .int p1), (2, .int p2)]) hx hb dX4_hasToWait_41 hl (k := 3) rfl (nI_1 i102) (by decide) rfl (fun ls hl => ?_)
              refine lv_goto (tgt := 2) hx hb dX4_hasToWait_44 (by decide) ?_
              exact ih  (i102 + 1) _ _ ls h_lt (by omega) hP hD hS (lv_sub hl [1, 2, 3, 0] rfl) hT
            · rw [if_neg c6] at hT
              refine lv_iconst (v := 1) hx hb dX4_hasToWait_39 (by decide) ?_
              rw [eQ]
              exact W.zret (v := 1) hx hb hr rfl (fun t ht hW => ⟨⟨1, σ, rfl, ⟨hT, rfl⟩, by rw [ht]; exact hP, va_K.moved hW.alike hK, hD⟩, hS.F ht⟩) hS.2.2 dX4_hasToWait_40
  rw [M_hasToWait] at hT
  refine lv_iconst (v := 0) hx hb dX4_hasToWait_0 (by decide) ?_
  refine lv_istore_n (lv' := [(3, .int 0), (0, .ref (ad 0)), (1, .int p1), (2, .int p2)]) hx hb dX4_hasToWait_1 rfl hl (by decide) rfl (fun ls hl => ?_)
  exact L_2 13 0 _ _ ls (Nat.zero_le _) (by decide) hP hD hS (lv_sub hl [1, 2, 3, 0] rfl) hT
set_option maxHeartbeats 4000000 in
set_option maxRecDepth 100000 in
theorem k_lowestThatMayComeNext (l : Launch) (D : va_G) (ad : Nat → Nat) (kk : Nat → ClassId) (sz : Nat) (σ : St) (p1 : Int32) (hI : IB σ) : Met l yX4_lowestThatMayComeNext wsX4_lowestThatMayComeNext { frames := 2, cells := 0, slots := 0, locals := 44 } (va_Pc [.ref (ad 0), .int p1] (PB D ad kk sz σ)) (va_Qi (fun r u => r = M_lowestThatMayComeNext σ p1 ∧ u = σ) (QB D ad kk sz) (aL 96 ad sz)) 0 0 (aL 96 ad sz) := by
  refine Met.ofW (cc := cX4_lowestThatMayComeNext) (maxL := 3) (ret := (some .int)) (by decide) rfl ?_
  intro p e s m args below meth c s₁ B hml hv
  obtain ⟨rfl, hsz, hP, hK, hD0, hE⟩ := hv
  have hx := B.exec
  have hb := B.bytes
  have hr := B.returns
  have hts := atoms_spec (ws := wsX4_lowestThatMayComeNext) B.pre
  have hown : s.vm.findClass RX4 = some m.cls := findClass_of_methodNamed B.named
  have hlocks := B.notSynchronized
  subst hsz
  have hD : va_D (aL 96 ad s.heap.size) (wB ad kk σ) := aL_D hD0
  have hS : va_S (aL 96 ad s.heap.size) s.heap s.heap [] := va_S.rf
  have hl := lv_entry ([.ref (ad 0), .int p1]) (n := 3) (Nat.le_of_ble_eq_true rfl)
  rw [lg_entry_eq]
  generalize (lg_sl ([.ref (ad 0), .int p1]) ++ List.replicate (3 - (lg_sl ([.ref (ad 0), .int p1])).length) Slot.unset).toArray = ls at hl ⊢
  have hl : lv_has ls 3 [(0, .ref (ad 0)), (1, .int p1)] := hl
  have CF : CallFix p m c cX4_lowestThatMayComeNext 3 s ([.ref (ad 0), .int p1] : List Value).toArray wsX4_lowestThatMayComeNext RX4 := ⟨hx, hb, hml, hown, hts⟩
  have ht : ∀ w ∈ T0, w.before ([.ref (ad 0), .int p1] : List Value).toArray s = true := fun w h => hts w (List.mem_cons_of_mem _ h)
  generalize hT : M_lowestThatMayComeNext σ p1 = T
  refine namedQ (fun Q eQ => ?_)
  have L_2 : ∀ (n i102 : Nat) (H : Heap) (locs : List Loc) (ls : Array Slot), i102 ≤ 12 → 13 ≤ i102 + n → va_P D vwCl (wB ad kk σ) H → va_D (aL 96 ad s.heap.size) (wB ad kk σ) → va_S (aL 96 ad s.heap.size) s.heap H locs → lv_has ls 3 [(0, .ref (ad 0)), (1, .int p1), (2, .int (nI i102))] → M_lowestThatMayComeNext_h2 n i102 σ p1 = T → W p l e (headSpec wsX4_lowestThatMayComeNext { frames := 2, cells := 0, slots := 0, locals := 44 }).room s m ([.ref (ad 0), .int p1] : List Value).toArray below meth c H locs 0 0 Q (F0 m 2 ls []) := by
    intro n
    induction n with
    | zero =>
      intro i102 H locs ls h_le h_fu hP hD hS hl hT
      exact absurd h_fu (by omega)
    | succ n ih =>
      intro i102 H locs ls h_le h_fu hP hD hS hl hT
      rw [M_lowestThatMayComeNext_h2] at hT
      refine lv_iload_n hx hb dX4_lowestThatMayComeNext_2 rfl (lv_at hl 2 rfl) ?_
      refine lv_aload_n hx hb dX4_lowestThatMayComeNext_3 rfl (lv_at hl 0 rfl) ?_
      refine va_get (D := D) (ci := 4) (v := .int (gF σ 0 6)) (C := RX4) (T := TX4) (N := 9) hx hb ht inX4 hown hK hP 0 g_MB rfl 6 (by decide) (ht _ mw_165) (fun _ h9 => h9) rfl dX4_lowestThatMayComeNext_4 ?_
      refine lv_icmp_ge (tgt := 49) hx hb dX4_lowestThatMayComeNext_7 (by decide) (fun c1 => ?_) (fun c1 => ?_)
      · rw [if_pos c1] at hT
        refine lv_iconst (v := (-1)) hx hb dX4_lowestThatMayComeNext_49 (by decide) ?_
        rw [eQ]
        exact W.iret (v := (-1)) hx hb hr (fun t ht hW => ⟨⟨(-1), σ, rfl, ⟨hT, rfl⟩, by rw [ht]; exact hP, va_K.moved hW.alike hK, hD⟩, hS.F ht⟩) hS.2.2 dX4_lowestThatMayComeNext_50
      · rw [if_neg c1] at hT
        have h_lt := lp_lt (N := 12) (by decide) hI.mc h_le c1
        refine lv_iload_n hx hb dX4_lowestThatMayComeNext_10 rfl (lv_at hl 1 rfl) ?_
        refine lv_iload_n hx hb dX4_lowestThatMayComeNext_11 rfl (lv_at hl 2 rfl) ?_
        refine vp_callSi (W.runS (As := [.int p1, .int (nI i102)]) (rest := []) CF (k_has l p1 (nI i102)) ⟨callB_of 2 hts (gT mw_402) rfl rfl rfl (ht _ mw_1) (ht _ mw_400) (by decide +kernel) ⟨Nat.le_of_ble_eq_true rfl, Nat.le_of_ble_eq_true rfl⟩, (ht _ mw_401)⟩ preEq rfl rfl hl.1 rfl (lv_room (Nat.le_of_ble_eq_true rfl)) dX4_lowestThatMayComeNext_12 ⟨Nat.le_of_ble_eq_true rfl, Nat.le_of_ble_eq_true rfl⟩) (fun r2 h_r2 => ?_)
        obtain rfl := h_r2
        refine lv_if_eq (tgt := 43) hx hb dX4_lowestThatMayComeNext_15 (by decide) (fun c3 => ?_) (fun c3 => ?_)
        · rw [if_pos c3] at hT
          refine lv_iinc (v := nI (i102 + 1)) (lv' := [(2, .int (nI (i102 + 1))), (0, .ref (ad 0)), (1, .int p1)]) hx hb dX4_lowestThatMayComeNext_43 hl (k := 2) rfl (nI_1 i102) (by decide) rfl (fun ls hl => ?_)
          refine lv_goto (tgt := 2) hx hb dX4_lowestThatMayComeNext_46 (by decide) ?_
          exact ih  (i102 + 1) _ _ ls h_lt (by omega) hP hD hS (lv_sub hl [1, 2, 0] rfl) hT
        · rw [if_neg c3] at hT
          refine lv_aload_n hx hb dX4_lowestThatMayComeNext_18 rfl (lv_at hl 0 rfl) ?_
          refine va_get (D := D) (ci := 4) (v := .ref (ad 3)) (C := RX4) (T := TX4) (N := 9) hx hb ht inX4 hown hK hP 0 g_MB rfl 1 (by decide) (ht _ mw_160) (fun _ h9 => h9) rfl dX4_lowestThatMayComeNext_19 ?_
          refine lv_iload_n hx hb dX4_lowestThatMayComeNext_22 rfl (lv_at hl 2 rfl) ?_
          refine va_aldq (i := nI i102) hx hb hK hP 3 1 g_methods rfl (vp_in_nI h_lt (by decide)) dX4_lowestThatMayComeNext_23 ?_
          rw [nI_clamp (n := i102) (by omega)]
          refine W.eq (g2 := F0 m 24 ls (.ref (ad (pMe i102)) :: [])) rfl ?_
          refine va_get (D := D) (ci := 1) (v := .int (gF σ (pMe i102) 4)) (C := RX1) (T := TX1) (N := 9) hx hb ht inX1 hown hK hP (pMe i102) (g_Me h_lt) rfl 4 (by decide) (ht _ mw_65) (fun _ h9 => h9) rfl dX4_lowestThatMayComeNext_24 ?_
          refine lv_iload_n hx hb dX4_lowestThatMayComeNext_27 rfl (lv_at hl 1 rfl) ?_
          refine lv_iand hx hb dX4_lowestThatMayComeNext_28 ?_
          refine lv_if_ne (tgt := 43) hx hb dX4_lowestThatMayComeNext_29 (by decide) (fun c4 => ?_) (fun c4 => ?_)
          · rw [if_neg c4] at hT
            refine lv_iinc (v := nI (i102 + 1)) (lv' := [(2, .int (nI (i102 + 1))), (0, .ref (ad 0)), (1, .int p1)]) hx hb dX4_lowestThatMayComeNext_43 hl (k := 2) rfl (nI_1 i102) (by decide) rfl (fun ls hl => ?_)
            refine lv_goto (tgt := 2) hx hb dX4_lowestThatMayComeNext_46 (by decide) ?_
            exact ih  (i102 + 1) _ _ ls h_lt (by omega) hP hD hS (lv_sub hl [1, 2, 0] rfl) hT
          · rw [if_pos c4] at hT
            refine lv_aload_n hx hb dX4_lowestThatMayComeNext_32 rfl (lv_at hl 0 rfl) ?_
            refine lv_iload_n hx hb dX4_lowestThatMayComeNext_33 rfl (lv_at hl 2 rfl) ?_
            refine lv_iload_n hx hb dX4_lowestThatMayComeNext_34 rfl (lv_at hl 1 rfl) ?_
            refine kB_i (va_runV (As := [.int (nI i102), .int p1]) (rest := []) CF (k_hasToWait l D ad kk _ σ (nI i102) p1 hI) ⟨callB_of 2 hts (gT mw_545) rfl rfl rfl (ht _ mw_1) (ht _ mw_542) (by decide +kernel) ⟨Nat.le_of_ble_eq_true rfl, Nat.le_of_ble_eq_true rfl⟩, (ht _ mw_544), (ht _ ms_21)⟩ (preV_B hK hP hD hE hS (ci := 4) rfl rfl g_MB) rfl rfl hl.1 rfl (lv_room (Nat.le_of_ble_eq_true rfl)) dX4_lowestThatMayComeNext_35 ⟨Nat.le_of_ble_eq_true rfl, Nat.le_of_ble_eq_true rfl⟩) hS (fun r5 u9 H locs hw hP hD hS => ?_)
            obtain ⟨rfl, e9⟩ := hw
            rw [e9] at hP hD
            refine lv_if_ne (tgt := 43) hx hb dX4_lowestThatMayComeNext_38 (by decide) (fun c6 => ?_) (fun c6 => ?_)
            · rw [if_neg c6] at hT
              refine lv_iinc (v := nI (i102 + 1)) (lv' := [(2, .int (nI (i102 + 1))), (0, .ref (ad 0)), (1, .int p1)]) hx hb dX4_lowestThatMayComeNext_43 hl (k := 2) rfl (nI_1 i102) (by decide) rfl (fun ls hl => ?_)
              refine lv_goto (tgt := 2) hx hb dX4_lowestThatMayComeNext_46 (by decide) ?_
              exact ih  (i102 + 1) _ _ ls h_lt (by omega) hP hD hS (lv_sub hl [1, 2, 0] rfl) hT
            · rw [if_pos c6] at hT
              refine lv_iload_n hx hb dX4_lowestThatMayComeNext_41 rfl (lv_at hl 2 rfl) ?_
              rw [eQ]
              exact W.iret (v := nI i102) hx hb hr (fun t ht hW => ⟨⟨nI i102, σ, rfl, ⟨hT, rfl⟩, by rw [ht]; exact hP, va_K.moved hW.alike hK, hD⟩, hS.F ht⟩) hS.2.2 dX4_lowestThatMayComeNext_42
  rw [M_lowestThatMayComeNext] at hT
  refine lv_iconst (v := 0) hx hb dX4_lowestThatMayComeNext_0 (by decide) ?_
  refine lv_istore_n (lv' := [(2, .int 0), (0, .ref (ad 0)), (1, .int p1)]) hx hb dX4_lowestThatMayComeNext_1 rfl hl (by decide) rfl (fun ls hl => ?_)
  exact L_2 13 0 _ _ ls (Nat.zero_le _) (by decide) hP hD hS (lv_sub hl [1, 2, 0] rfl) hT
set_option maxHeartbeats 4000000 in
set_option maxRecDepth 100000 in
theorem k_putInOrder (l : Launch) (D : va_G) (ad : Nat → Nat) (kk : Nat → ClassId) (sz : Nat) (σ : St) (p1 : Int32) (p2 : Int32) (hI : IB σ) : Met l yX4_putInOrder wsX4_putInOrder { frames := 3, cells := 0, slots := 0, locals := 66 } (va_Pc [.ref (ad 0), .int p1, .int p2] (PB D ad kk sz σ)) (va_Qi (fun r u => (r, u) = M_putInOrder σ p1 p2) (QB D ad kk sz) (aL 96 ad sz)) 0 0 (aL 96 ad sz) := by
  refine Met.ofW (cc := cX4_putInOrder) (maxL := 6) (ret := (some .boolean)) (by decide) rfl ?_
  intro p e s m args below meth c s₁ B hml hv
  obtain ⟨rfl, hsz, hP, hK, hD0, hE⟩ := hv
  have hx := B.exec
  have hb := B.bytes
  have hr := B.returns
  have hts := atoms_spec (ws := wsX4_putInOrder) B.pre
  have hown : s.vm.findClass RX4 = some m.cls := findClass_of_methodNamed B.named
  have hlocks := B.notSynchronized
  subst hsz
  have hD : va_D (aL 96 ad s.heap.size) (wB ad kk σ) := aL_D hD0
  have hS : va_S (aL 96 ad s.heap.size) s.heap s.heap [] := va_S.rf
  have hl := lv_entry ([.ref (ad 0), .int p1, .int p2]) (n := 6) (Nat.le_of_ble_eq_true rfl)
  rw [lg_entry_eq]
  generalize (lg_sl ([.ref (ad 0), .int p1, .int p2]) ++ List.replicate (6 - (lg_sl ([.ref (ad 0), .int p1, .int p2])).length) Slot.unset).toArray = ls at hl ⊢
  have hl : lv_has ls 6 [(0, .ref (ad 0)), (1, .int p1), (2, .int p2)] := hl
  have CF : CallFix p m c cX4_putInOrder 6 s ([.ref (ad 0), .int p1, .int p2] : List Value).toArray wsX4_putInOrder RX4 := ⟨hx, hb, hml, hown, hts⟩
  have ht : ∀ w ∈ T0, w.before ([.ref (ad 0), .int p1, .int p2] : List Value).toArray s = true := fun w h => hts w (List.mem_cons_of_mem _ h)
  generalize hT : M_putInOrder σ p1 p2 = T
  refine namedQ (fun Q eQ => ?_)
  have L_5 : ∀ (n i105 : Nat) (x5_3 : Int32) (τ5 : St) (H : Heap) (locs : List Loc) (ls : Array Slot), i105 ≤ 10 → 11 ≤ i105 + n → IB τ5 → va_P D vwCl (wB ad kk τ5) H → va_D (aL 96 ad s.heap.size) (wB ad kk τ5) → va_S (aL 96 ad s.heap.size) s.heap H locs → lv_has ls 6 [(0, .ref (ad 0)), (1, .int p1), (2, .int p2), (3, .int x5_3), (4, .int (nI i105))] → M_putInOrder_h5 n i105 x5_3 τ5 p2 = T → W p l e (headSpec wsX4_putInOrder { frames := 3, cells := 0, slots := 0, locals := 66 }).room s m ([.ref (ad 0), .int p1, .int p2] : List Value).toArray below meth c H locs 0 0 Q (F0 m 5 ls []) := by
    intro n
    induction n with
    | zero =>
      intro i105 x5_3 τ5 H locs ls h_le h_fu hv0 hP hD hS hl hT
      exact absurd h_fu (by omega)
    | succ n ih =>
      intro i105 x5_3 τ5 H locs ls h_le h_fu hv0 hP hD hS hl hT
      rw [M_putInOrder_h5] at hT
      refine lv_iload hx hb dX4_putInOrder_5 (lv_at hl 4 rfl) ?_
      refine lv_iload_n hx hb dX4_putInOrder_7 rfl (lv_at hl 2 rfl) ?_
      refine lv_icmp_ge (tgt := 56) hx hb dX4_putInOrder_8 (by decide) (fun c1 => ?_) (fun c1 => ?_)
      · rw [if_pos c1] at hT
        refine lv_iconst (v := 1) hx hb dX4_putInOrder_56 (by decide) ?_
        rw [eQ]
        exact W.zret (v := 1) hx hb hr rfl (fun t ht hW => ⟨⟨1, τ5, rfl, hT, by rw [ht]; exact hP, va_K.moved hW.alike hK, hD⟩, hS.F ht⟩) hS.2.2 dX4_putInOrder_57
      · rw [if_neg c1] at hT
        refine lv_iload hx hb dX4_putInOrder_11 (lv_at hl 4 rfl) ?_
        refine lv_bipush (v := 10) hx hb dX4_putInOrder_13 (by decide) ?_
        refine lv_icmp_ge (tgt := 56) hx hb dX4_putInOrder_15 (by decide) (fun c2 => ?_) (fun c2 => ?_)
        · rw [if_pos c2] at hT
          refine lv_iconst (v := 1) hx hb dX4_putInOrder_56 (by decide) ?_
          rw [eQ]
          exact W.zret (v := 1) hx hb hr rfl (fun t ht hW => ⟨⟨1, τ5, rfl, hT, by rw [ht]; exact hP, va_K.moved hW.alike hK, hD⟩, hS.F ht⟩) hS.2.2 dX4_putInOrder_57
        · rw [if_neg c2] at hT
          have h_lt := lp_lt (N := 10) (by decide) (by decide) h_le c2
          refine lv_aload_n hx hb dX4_putInOrder_18 rfl (lv_at hl 0 rfl) ?_
          refine lv_iload_n hx hb dX4_putInOrder_19 rfl (lv_at hl 3 rfl) ?_
          refine kB_i (va_runV (As := [.int x5_3]) (rest := []) CF (k_lowestThatMayComeNext l D ad kk _ τ5 x5_3 hv0) ⟨callB_of 1 hts (gT mw_541) rfl rfl rfl (ht _ mw_1) (ht _ mw_538) (by decide +kernel) ⟨Nat.le_of_ble_eq_true rfl, Nat.le_of_ble_eq_true rfl⟩, (ht _ mw_540), (ht _ ms_20)⟩ (preV_B hK hP hD hE hS (ci := 4) rfl rfl g_MB) rfl rfl hl.1 rfl (lv_room (Nat.le_of_ble_eq_true rfl)) dX4_putInOrder_20 ⟨Nat.le_of_ble_eq_true rfl, Nat.le_of_ble_eq_true rfl⟩) hS (fun r3 u9 H locs hw hP hD hS => ?_)
          obtain ⟨rfl, e9⟩ := hw
          rw [e9] at hP hD
          refine lv_istore (lv' := [(5, .int (M_lowestThatMayComeNext τ5 x5_3)), (0, .ref (ad 0)), (1, .int p1), (2, .int p2), (3, .int x5_3), (4, .int (nI i105))]) hx hb dX4_putInOrder_23 hl (by decide) rfl (fun ls hl => ?_)
          refine lv_iload hx hb dX4_putInOrder_25 (lv_at hl 0 rfl) ?_
          refine lv_iconst (v := (-1)) hx hb dX4_putInOrder_27 (by decide) ?_
          refine lv_icmp_ne (tgt := 33) hx hb dX4_putInOrder_28 (by decide) (fun c4 => ?_) (fun c4 => ?_)
          · rw [if_neg c4] at hT
            refine lv_aload_n hx hb dX4_putInOrder_33 rfl (lv_at hl 1 rfl) ?_
            refine va_get (D := D) (ci := 4) (v := .ref (ad 95)) (C := RX4) (T := TX4) (N := 9) hx hb ht inX4 hown hK hP 0 g_MB rfl 5 (by decide) (ht _ mw_164) (fun _ h9 => h9) rfl dX4_putInOrder_34 ?_
            refine lv_iload hx hb dX4_putInOrder_37 (lv_at hl 5 rfl) ?_
            refine lv_iload hx hb dX4_putInOrder_39 (lv_at hl 0 rfl) ?_
            refine va_iast (i := nI i105) (x := M_lowestThatMayComeNext τ5 x5_3) hx hb hK hP hD hS 95 0 g_draft rfl (vp_in_nI h_lt (by decide)) dX4_putInOrder_41 (fun H locs hP hD hS => ?_)
            rw [nI_clamp (n := i105) (by omega)] at hP hD
            rw [s_draft] at hP hD
            refine lv_iload_n hx hb dX4_putInOrder_42 rfl (lv_at hl 4 rfl) ?_
            refine lv_iload hx hb dX4_putInOrder_43 (lv_at hl 0 rfl) ?_
            refine lv_iconst (v := 0) hx hb dX4_putInOrder_45 (by decide) ?_
            refine vp_callSi (W.runS (As := [.int x5_3, .int (M_lowestThatMayComeNext τ5 x5_3), .int 0]) (rest := []) CF (k_with l x5_3 (M_lowestThatMayComeNext τ5 x5_3) 0) ⟨callB_of 3 hts (gT mw_325) rfl rfl rfl (ht _ mw_1) (ht _ mw_403) (by decide +kernel) ⟨Nat.le_of_ble_eq_true rfl, Nat.le_of_ble_eq_true rfl⟩, (ht _ mw_324)⟩ preEq rfl rfl hl.1 rfl (lv_room (Nat.le_of_ble_eq_true rfl)) dX4_putInOrder_46 ⟨Nat.le_of_ble_eq_true rfl, Nat.le_of_ble_eq_true rfl⟩) (fun r5 h_r5 => ?_)
            obtain rfl := h_r5
            refine lv_istore_n (lv' := [(3, .int (M_with x5_3 (M_lowestThatMayComeNext τ5 x5_3) 0)), (5, .int (M_lowestThatMayComeNext τ5 x5_3)), (0, .ref (ad 0)), (1, .int p1), (2, .int p2), (4, .int (nI i105))]) hx hb dX4_putInOrder_49 rfl hl (by decide) rfl (fun ls hl => ?_)
            refine lv_iinc (v := nI (i105 + 1)) (lv' := [(4, .int (nI (i105 + 1))), (3, .int (M_with x5_3 (M_lowestThatMayComeNext τ5 x5_3) 0)), (5, .int (M_lowestThatMayComeNext τ5 x5_3)), (0, .ref (ad 0)), (1, .int p1), (2, .int p2)]) hx hb dX4_putInOrder_50 hl (k := 5) rfl (nI_1 i105) (by decide) rfl (fun ls hl => ?_)
            refine lv_goto (tgt := 5) hx hb dX4_putInOrder_53 (by decide) ?_
            exact ih  (i105 + 1) (M_with x5_3 (M_lowestThatMayComeNext τ5 x5_3) 0) (sA τ5 95 i105 (M_lowestThatMayComeNext τ5 x5_3)) _ _ ls h_lt (by omega) (IB.kA hv0) hP hD hS (lv_sub hl [3, 4, 5, 1, 0] rfl) hT
          · rw [if_pos c4] at hT
            refine lv_iconst (v := 0) hx hb dX4_putInOrder_31 (by decide) ?_
            rw [eQ]
            exact W.zret (v := 0) hx hb hr rfl (fun t ht hW => ⟨⟨0, τ5, rfl, hT, by rw [ht]; exact hP, va_K.moved hW.alike hK, hD⟩, hS.F ht⟩) hS.2.2 dX4_putInOrder_32
  rw [M_putInOrder] at hT
  refine lv_iload_n hx hb dX4_putInOrder_0 rfl (lv_at hl 1 rfl) ?_
  refine lv_istore_n (lv' := [(3, .int p1), (0, .ref (ad 0)), (1, .int p1), (2, .int p2)]) hx hb dX4_putInOrder_1 rfl hl (by decide) rfl (fun ls hl => ?_)
  refine lv_iconst (v := 0) hx hb dX4_putInOrder_2 (by decide) ?_
  refine lv_istore (lv' := [(4, .int 0), (3, .int p1), (0, .ref (ad 0)), (1, .int p1), (2, .int p2)]) hx hb dX4_putInOrder_3 hl (by decide) rfl (fun ls hl => ?_)
  exact L_5 11 0 p1 σ _ _ ls (Nat.zero_le _) (by decide) hI hP hD hS (lv_sub hl [2, 3, 4, 1, 0] rfl) hT
set_option maxHeartbeats 4000000 in
set_option maxRecDepth 100000 in
theorem k_bitCount (l : Launch) (p0 : Int32) : Met l yJ6_bitCount wsJ6_bitCount { frames := 0, cells := 0, slots := 0, locals := 0 } (fun v _ => v = ([.int p0] : List Value).toArray) (vp_Si (fun r => r = (M_bitCount p0))) 0 0 (fun _ => False) := by
  refine Met.ofW (cc := cJ6_bitCount) (maxL := 1) (ret := (some .int)) (by decide) rfl ?_
  intro p e s m args below meth c s₁ B hml hv
  obtain rfl := hv
  have hx := B.exec
  have hb := B.bytes
  have hr := B.returns
  have hts := atoms_spec (ws := wsJ6_bitCount) B.pre
  have hown : s.vm.findClass RJ6 = some m.cls := findClass_of_methodNamed B.named
  have hlocks := B.notSynchronized
  have hl := lv_entry ([.int p0]) (n := 1) (Nat.le_of_ble_eq_true rfl)
  rw [lg_entry_eq]
  generalize (lg_sl ([.int p0]) ++ List.replicate (1 - (lg_sl ([.int p0])).length) Slot.unset).toArray = ls at hl ⊢
  have hl : lv_has ls 1 [(0, .int p0)] := hl
  have CF : CallFix p m c cJ6_bitCount 1 s ([.int p0] : List Value).toArray wsJ6_bitCount RJ6 := ⟨hx, hb, hml, hown, hts⟩
  have ht : ∀ w ∈ T0, w.before ([.int p0] : List Value).toArray s = true := fun w h => hts w (List.mem_cons_of_mem _ h)
  generalize hT : M_bitCount p0 = T
  rw [M_bitCount] at hT
  refine lv_iload_n hx hb dJ6_bitCount_0 rfl (lv_at hl 0 rfl) ?_
  refine lv_iload_n hx hb dJ6_bitCount_1 rfl (lv_at hl 0 rfl) ?_
  refine lv_iconst (v := 1) hx hb dJ6_bitCount_2 (by decide) ?_
  refine lv_iushr hx hb dJ6_bitCount_3 rfl ?_
  refine lv_ldcw (v := 1431655765) hx hb hown (ht _ mw_523) dJ6_bitCount_4 ?_
  refine lv_iand hx hb dJ6_bitCount_7 ?_
  refine lv_isub hx hb dJ6_bitCount_8 ?_
  refine lv_topi (fun y1 e_y1 => ?_)
  rw [← e_y1, vb_eq] at hT
  refine lv_istore_n (lv' := [(0, .int y1)]) hx hb dJ6_bitCount_9 rfl hl (by decide) rfl (fun ls hl => ?_)
  refine lv_iload_n hx hb dJ6_bitCount_10 rfl (lv_at hl 0 rfl) ?_
  refine lv_ldcw (v := 858993459) hx hb hown (ht _ mw_524) dJ6_bitCount_11 ?_
  refine lv_iand hx hb dJ6_bitCount_14 ?_
  refine lv_iload_n hx hb dJ6_bitCount_15 rfl (lv_at hl 0 rfl) ?_
  refine lv_iconst (v := 2) hx hb dJ6_bitCount_16 (by decide) ?_
  refine lv_iushr hx hb dJ6_bitCount_17 rfl ?_
  refine lv_ldcw (v := 858993459) hx hb hown (ht _ mw_524) dJ6_bitCount_18 ?_
  refine lv_iand hx hb dJ6_bitCount_21 ?_
  refine lv_iadd hx hb dJ6_bitCount_22 ?_
  refine lv_topi (fun y2 e_y2 => ?_)
  rw [← e_y2, vb_eq] at hT
  refine lv_istore_n (lv' := [(0, .int y2)]) hx hb dJ6_bitCount_23 rfl hl (by decide) rfl (fun ls hl => ?_)
  refine lv_iload_n hx hb dJ6_bitCount_24 rfl (lv_at hl 0 rfl) ?_
  refine lv_iload_n hx hb dJ6_bitCount_25 rfl (lv_at hl 0 rfl) ?_
  refine lv_iconst (v := 4) hx hb dJ6_bitCount_26 (by decide) ?_
  refine lv_iushr hx hb dJ6_bitCount_27 rfl ?_
  refine lv_iadd hx hb dJ6_bitCount_28 ?_
  refine lv_ldcw (v := 252645135) hx hb hown (ht _ mw_525) dJ6_bitCount_29 ?_
  refine lv_iand hx hb dJ6_bitCount_32 ?_
  refine lv_topi (fun y3 e_y3 => ?_)
  rw [← e_y3, vb_eq] at hT
  refine lv_istore_n (lv' := [(0, .int y3)]) hx hb dJ6_bitCount_33 rfl hl (by decide) rfl (fun ls hl => ?_)
  refine lv_iload_n hx hb dJ6_bitCount_34 rfl (lv_at hl 0 rfl) ?_
  refine lv_iload_n hx hb dJ6_bitCount_35 rfl (lv_at hl 0 rfl) ?_
  refine lv_bipush (v := 8) hx hb dJ6_bitCount_36 (by decide) ?_
  refine lv_iushr hx hb dJ6_bitCount_38 rfl ?_
  refine lv_iadd hx hb dJ6_bitCount_39 ?_
  refine lv_topi (fun y4 e_y4 => ?_)
  rw [← e_y4, vb_eq] at hT
  refine lv_istore_n (lv' := [(0, .int y4)]) hx hb dJ6_bitCount_40 rfl hl (by decide) rfl (fun ls hl => ?_)
  refine lv_iload_n hx hb dJ6_bitCount_41 rfl (lv_at hl 0 rfl) ?_
  refine lv_iload_n hx hb dJ6_bitCount_42 rfl (lv_at hl 0 rfl) ?_
  refine lv_bipush (v := 16) hx hb dJ6_bitCount_43 (by decide) ?_
  refine lv_iushr hx hb dJ6_bitCount_45 rfl ?_
  refine lv_iadd hx hb dJ6_bitCount_46 ?_
  refine lv_topi (fun y5 e_y5 => ?_)
  rw [← e_y5, vb_eq] at hT
  refine lv_istore_n (lv' := [(0, .int y5)]) hx hb dJ6_bitCount_47 rfl hl (by decide) rfl (fun ls hl => ?_)
  refine lv_iload_n hx hb dJ6_bitCount_48 rfl (lv_at hl 0 rfl) ?_
  refine lv_bipush (v := 63) hx hb dJ6_bitCount_49 (by decide) ?_
  refine lv_iand hx hb dJ6_bitCount_51 ?_
  exact W.iret (v := y5 &&& 63) hx hb hr (fun t ht hW => ⟨y5 &&& 63, rfl, hT, ht⟩) t_nil dJ6_bitCount_52

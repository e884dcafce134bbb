set_option maxHeartbeats 4000000 in
set_option maxRecDepth 100000 in
theorem k_signHere (l : Launch) (D : va_G) (ad : Nat → Nat) (kk : Nat → ClassId) (sz : Nat) (σ : St) (hIc : IP σ) : Met l yX2_signHere wsX2_signHere { frames := 0, cells := 0, slots := 0, locals := 0 } (va_Pc [.ref (ad 1)] (PB D ad kk sz σ)) (va_Qi (fun r u => r = M_signHere σ ∧ u = σ) (QB D ad kk sz) (aL 96 ad sz)) 0 0 (aL 96 ad sz) := by
  refine Met.ofW (cc := cX2_signHere) (maxL := 1) (ret := (some .int)) (by decide) rfl ?_
  intro p e s m args below meth c s₁ B hml hv
  obtain ⟨rfl, hsz, hP, hK, hD0, hE⟩ := hv
  have hx := B.exec
  have hb := B.bytes
  have hr := B.returns
  have hts := atoms_spec (ws := wsX2_signHere) B.pre
  have hown : s.vm.findClass RX2 = some m.cls := findClass_of_methodNamed B.named
  have hlocks := B.notSynchronized
  subst hsz
  have hD : va_D (aL 96 ad s.heap.size) (wB ad kk σ) := aL_D hD0
  have hS : va_S (aL 96 ad s.heap.size) s.heap s.heap [] := va_S.rf
  have hl := lv_entry ([.ref (ad 1)]) (n := 1) (Nat.le_of_ble_eq_true rfl)
  rw [lg_entry_eq]
  generalize (lg_sl ([.ref (ad 1)]) ++ List.replicate (1 - (lg_sl ([.ref (ad 1)])).length) Slot.unset).toArray = ls at hl ⊢
  have hl : lv_has ls 1 [(0, .ref (ad 1))] := hl
  have CF : CallFix p m c cX2_signHere 1 s ([.ref (ad 1)] : List Value).toArray wsX2_signHere RX2 := ⟨hx, hb, hml, hown, hts⟩
  have ht : ∀ w ∈ T0, w.before ([.ref (ad 1)] : List Value).toArray s = true := fun w h => hts w (List.mem_cons_of_mem _ h)
  generalize hT : M_signHere σ = T
  rw [M_signHere] at hT
  refine lv_aload_n hx hb dX2_signHere_0 rfl (lv_at hl 0 rfl) ?_
  refine va_get (D := D) (ci := 2) (v := .int (gF σ 1 2)) (C := RX2) (T := TX2) (N := 3) hx hb ht inX2 hown hK hP 1 g_Pad rfl 2 (by decide) (ht _ mw_34) (fun _ h9 => h9) rfl dX2_signHere_1 ?_
  refine lv_aload_n hx hb dX2_signHere_4 rfl (lv_at hl 0 rfl) ?_
  refine va_get (D := D) (ci := 2) (v := .int (gF σ 1 1)) (C := RX2) (T := TX2) (N := 3) hx hb ht inX2 hown hK hP 1 g_Pad rfl 1 (by decide) (ht _ mw_33) (fun _ h9 => h9) rfl dX2_signHere_5 ?_
  refine lv_icmp_ge (tgt := 23) hx hb dX2_signHere_8 (by decide) (fun c1 => ?_) (fun c1 => ?_)
  · rw [if_pos c1] at hT
    refine lv_iconst (v := (-1)) hx hb dX2_signHere_23 (by decide) ?_
    exact W.iret (v := (-1)) hx hb hr (fun t ht hW => ⟨⟨(-1), σ, rfl, ⟨hT, rfl⟩, by rw [ht]; exact hP, va_K.moved hW.alike hK, hD⟩, hS.F ht⟩) hS.2.2 dX2_signHere_24
  · rw [if_neg c1] at hT
    have hlt := c1
    refine lv_aload_n hx hb dX2_signHere_11 rfl (lv_at hl 0 rfl) ?_
    refine va_get (D := D) (ci := 2) (v := .ref (ad 2)) (C := RX2) (T := TX2) (N := 3) hx hb ht inX2 hown hK hP 1 g_Pad rfl 0 (by decide) (ht _ mw_30) (fun _ h9 => h9) rfl dX2_signHere_12 ?_
    refine lv_aload_n hx hb dX2_signHere_15 rfl (lv_at hl 0 rfl) ?_
    refine va_get (D := D) (ci := 2) (v := .int (gF σ 1 2)) (C := RX2) (T := TX2) (N := 3) hx hb ht inX2 hown hK hP 1 g_Pad rfl 2 (by decide) (ht _ mw_34) (fun _ h9 => h9) rfl dX2_signHere_16 ?_
    refine va_iald (i := gF σ 1 2) hx hb hK hP 2 0 g_signs rfl (IP.at_in hIc hlt) dX2_signHere_19 ?_
    refine lv_goto (tgt := 24) hx hb dX2_signHere_20 (by decide) ?_
    exact W.iret (v := gA σ 2 (gF σ 1 2).toNatClampNeg) hx hb hr (fun t ht hW => ⟨⟨gA σ 2 (gF σ 1 2).toNatClampNeg, σ, rfl, ⟨hT, rfl⟩, by rw [ht]; exact hP, va_K.moved hW.alike hK, hD⟩, hS.F ht⟩) hS.2.2 dX2_signHere_24
set_option maxHeartbeats 4000000 in
set_option maxRecDepth 100000 in
theorem k_take (l : Launch) (D : va_G) (ad : Nat → Nat) (kk : Nat → ClassId) (sz : Nat) (σ : St) (p1 : Int32) (hIc : IP σ) : Met l yX2_take wsX2_take { frames := 1, cells := 0, slots := 0, locals := 20 } (va_Pc [.ref (ad 1), .int p1] (PB D ad kk sz σ)) (va_Qi (fun r u => (r, u) = M_take σ p1) (QB D ad kk sz) (aL 96 ad sz)) 0 0 (aL 96 ad sz) := by
  refine Met.ofW (cc := cX2_take) (maxL := 2) (ret := (some .boolean)) (by decide) rfl ?_
  intro p e s m args below meth c s₁ B hml hv
  obtain ⟨rfl, hsz, hP, hK, hD0, hE⟩ := hv
  have hx := B.exec
  have hb := B.bytes
  have hr := B.returns
  have hts := atoms_spec (ws := wsX2_take) B.pre
  have hown : s.vm.findClass RX2 = some m.cls := findClass_of_methodNamed B.named
  have hlocks := B.notSynchronized
  subst hsz
  have hD : va_D (aL 96 ad s.heap.size) (wB ad kk σ) := aL_D hD0
  have hS : va_S (aL 96 ad s.heap.size) s.heap s.heap [] := va_S.rf
  have hl := lv_entry ([.ref (ad 1), .int p1]) (n := 2) (Nat.le_of_ble_eq_true rfl)
  rw [lg_entry_eq]
  generalize (lg_sl ([.ref (ad 1), .int p1]) ++ List.replicate (2 - (lg_sl ([.ref (ad 1), .int p1])).length) Slot.unset).toArray = ls at hl ⊢
  have hl : lv_has ls 2 [(0, .ref (ad 1)), (1, .int p1)] := hl
  have CF : CallFix p m c cX2_take 2 s ([.ref (ad 1), .int p1] : List Value).toArray wsX2_take RX2 := ⟨hx, hb, hml, hown, hts⟩
  have ht : ∀ w ∈ T0, w.before ([.ref (ad 1), .int p1] : List Value).toArray s = true := fun w h => hts w (List.mem_cons_of_mem _ h)
  generalize hT : M_take σ p1 = T
  rw [M_take] at hT
  refine lv_aload_n hx hb dX2_take_0 rfl (lv_at hl 0 rfl) ?_
  refine kB_i (va_runV (As := []) (rest := []) CF (k_signHere l D ad kk _ σ hIc) ⟨callB_of 0 hts (gT mw_303) rfl rfl rfl (ht _ mw_2) (ht _ mw_300) (by decide +kernel) ⟨Nat.le_of_ble_eq_true rfl, Nat.le_of_ble_eq_true rfl⟩, (ht _ mw_302), (ht _ ms_2)⟩ (preV_B hK hP hD hE hS (ci := 2) rfl rfl g_Pad) rfl rfl hl.1 rfl (lv_room (Nat.le_of_ble_eq_true rfl)) dX2_take_1 ⟨Nat.le_of_ble_eq_true rfl, Nat.le_of_ble_eq_true rfl⟩) hS (fun r1 u9 H locs hw hP hD hS => ?_)
  obtain ⟨rfl, e9⟩ := hw
  rw [e9] at hP hD
  refine lv_iload_n hx hb dX2_take_4 rfl (lv_at hl 1 rfl) ?_
  refine lv_icmp_eq (tgt := 10) hx hb dX2_take_5 (by decide) (fun c2 => ?_) (fun c2 => ?_)
  · rw [if_pos c2] at hT
    refine lv_aload_n hx hb dX2_take_10 rfl (lv_at hl 0 rfl) ?_
    refine lv_dup hx hb dX2_take_11 rfl ?_
    refine va_get (D := D) (ci := 2) (v := .int (gF σ 1 2)) (C := RX2) (T := TX2) (N := 3) hx hb ht inX2 hown hK hP 1 g_Pad rfl 2 (by decide) (ht _ mw_34) (fun _ h9 => h9) rfl dX2_take_12 ?_
    refine lv_iconst (v := 1) hx hb dX2_take_15 (by decide) ?_
    refine lv_iadd hx hb dX2_take_16 ?_
    refine va_put (D := D) (ci := 2) (v := .int ((gF σ 1 2) + 1)) (ty := .int) (C := RX2) (T := TX2) (N := 3) hx hb ht inX2 tyX2 tyX2_ok nmX2 hown hK hP hD hS 1 g_Pad rfl 2 (by decide) (ht _ mw_34) (fun _ h9 => h9) rfl (by decide +kernel) rfl rfl (Nat.le_of_ble_eq_true rfl) dX2_take_17 (fun H locs hP hD hS => ?_)
    rw [s_Pad_2] at hP hD
    refine lv_iconst (v := 1) hx hb dX2_take_20 (by decide) ?_
    exact W.zret (v := 1) hx hb hr rfl (fun t ht hW => ⟨⟨1, (sF σ 1 2 ((gF σ 1 2) + 1)), rfl, hT, by rw [ht]; exact hP, va_K.moved hW.alike hK, hD⟩, hS.F ht⟩) hS.2.2 dX2_take_21
  · rw [if_neg c2] at hT
    refine lv_iconst (v := 0) hx hb dX2_take_8 (by decide) ?_
    exact W.zret (v := 0) hx hb hr rfl (fun t ht hW => ⟨⟨0, σ, rfl, hT, by rw [ht]; exact hP, va_K.moved hW.alike hK, hD⟩, hS.F ht⟩) hS.2.2 dX2_take_9
set_option maxHeartbeats 4000000 in
set_option maxRecDepth 100000 in
theorem k_readNumber (l : Launch) (D : va_G) (ad : Nat → Nat) (kk : Nat → ClassId) (sz : Nat) (σ : St) (p1 : Int32) (p2 : Int32) (hIc : IP σ) : Met l yX2_readNumber wsX2_readNumber { frames := 1, cells := 0, slots := 0, locals := 20 } (va_Pc [.ref (ad 1), .int p1, .int p2] (PB D ad kk sz σ)) (va_Qi (fun r u => (r, u) = M_readNumber σ p1 p2) (QB D ad kk sz) (aL 96 ad sz)) 0 0 (aL 96 ad sz) := by
  refine Met.ofW (cc := cX2_readNumber) (maxL := 6) (ret := (some .int)) (by decide) rfl ?_
  intro p e s m args below meth c s₁ B hml hv
  obtain ⟨rfl, hsz, hP, hK, hD0, hE⟩ := hv
  have hx := B.exec
  have hb := B.bytes
  have hr := B.returns
  have hts := atoms_spec (ws := wsX2_readNumber) B.pre
  have hown : s.vm.findClass RX2 = some m.cls := findClass_of_methodNamed B.named
  have hlocks := B.notSynchronized
  subst hsz
  have hD : va_D (aL 96 ad s.heap.size) (wB ad kk σ) := aL_D hD0
  have hS : va_S (aL 96 ad s.heap.size) s.heap s.heap [] := va_S.rf
  have hl := lv_entry ([.ref (ad 1), .int p1, .int p2]) (n := 6) (Nat.le_of_ble_eq_true rfl)
  rw [lg_entry_eq]
  generalize (lg_sl ([.ref (ad 1), .int p1, .int p2]) ++ List.replicate (6 - (lg_sl ([.ref (ad 1), .int p1, .int p2])).length) Slot.unset).toArray = ls at hl ⊢
  have hl : lv_has ls 6 [(0, .ref (ad 1)), (1, .int p1), (2, .int p2)] := hl
  have CF : CallFix p m c cX2_readNumber 6 s ([.ref (ad 1), .int p1, .int p2] : List Value).toArray wsX2_readNumber RX2 := ⟨hx, hb, hml, hown, hts⟩
  have ht : ∀ w ∈ T0, w.before ([.ref (ad 1), .int p1, .int p2] : List Value).toArray s = true := fun w h => hts w (List.mem_cons_of_mem _ h)
  generalize hT : M_readNumber σ p1 p2 = T
  refine namedQ (fun Q eQ => ?_)
  have L_5 : ∀ (n i105 : Nat) (x5_3 : Int32) (τ5 : St) (H : Heap) (locs : List Loc) (ls : Array Slot), i105 ≤ 4 → 5 ≤ i105 + n → IP τ5 → va_P D vwCl (wB ad kk τ5) H → va_D (aL 96 ad s.heap.size) (wB ad kk τ5) → va_S (aL 96 ad s.heap.size) s.heap H locs → lv_has ls 6 [(0, .ref (ad 1)), (1, .int p1), (2, .int p2), (3, .int x5_3), (4, .int (nI i105))] → M_readNumber_h5 n i105 x5_3 τ5 p1 p2 = T → W p l e (headSpec wsX2_readNumber { frames := 1, cells := 0, slots := 0, locals := 20 }).room s m ([.ref (ad 1), .int p1, .int p2] : List Value).toArray below meth c H locs 0 0 Q (F0 m 5 ls []) := by
    intro n
    induction n with
    | zero =>
      intro i105 x5_3 τ5 H locs ls h_le h_fu hv0 hP hD hS hl hT
      exact absurd h_fu (by omega)
    | succ n ih =>
      intro i105 x5_3 τ5 H locs ls h_le h_fu hv0 hP hD hS hl hT
      rw [M_readNumber_h5] at hT
      refine lv_iload hx hb dX2_readNumber_5 (lv_at hl 4 rfl) ?_
      refine lv_iconst (v := 4) hx hb dX2_readNumber_7 (by decide) ?_
      refine lv_icmp_ge (tgt := 75) hx hb dX2_readNumber_8 (by decide) (fun c1 => ?_) (fun c1 => ?_)
      · rw [if_pos c1] at hT
        refine lv_iload hx hb dX2_readNumber_75 (lv_at hl 4 rfl) ?_
        refine lv_if_eq (tgt := 85) hx hb dX2_readNumber_77 (by decide) (fun c2 => ?_) (fun c2 => ?_)
        · rw [if_pos c2] at hT
          refine lv_iconst (v := (-1)) hx hb dX2_readNumber_85 (by decide) ?_
          refine lv_goto (tgt := 90) hx hb dX2_readNumber_86 (by decide) ?_
          rw [eQ]
          exact W.iret (v := (-1)) hx hb hr (fun t ht hW => ⟨⟨(-1), τ5, rfl, hT, by rw [ht]; exact hP, va_K.moved hW.alike hK, hD⟩, hS.F ht⟩) hS.2.2 dX2_readNumber_90
        · rw [if_neg c2] at hT
          refine lv_iload_n hx hb dX2_readNumber_80 rfl (lv_at hl 3 rfl) ?_
          refine lv_iload_n hx hb dX2_readNumber_81 rfl (lv_at hl 1 rfl) ?_
          refine lv_icmp_ge (tgt := 89) hx hb dX2_readNumber_82 (by decide) (fun c3 => ?_) (fun c3 => ?_)
          · rw [if_pos c3] at hT
            refine lv_iload_n hx hb dX2_readNumber_89 rfl (lv_at hl 3 rfl) ?_
            rw [eQ]
            exact W.iret (v := x5_3) hx hb hr (fun t ht hW => ⟨⟨x5_3, τ5, rfl, hT, by rw [ht]; exact hP, va_K.moved hW.alike hK, hD⟩, hS.F ht⟩) hS.2.2 dX2_readNumber_90
          · rw [if_neg c3] at hT
            refine lv_iconst (v := (-1)) hx hb dX2_readNumber_85 (by decide) ?_
            refine lv_goto (tgt := 90) hx hb dX2_readNumber_86 (by decide) ?_
            rw [eQ]
            exact W.iret (v := (-1)) hx hb hr (fun t ht hW => ⟨⟨(-1), τ5, rfl, hT, by rw [ht]; exact hP, va_K.moved hW.alike hK, hD⟩, hS.F ht⟩) hS.2.2 dX2_readNumber_90
      · rw [if_neg c1] at hT
        have h_lt := lp_lt (N := 4) (by decide) (by decide) h_le c1
        refine lv_aload_n hx hb dX2_readNumber_11 rfl (lv_at hl 0 rfl) ?_
        refine kB_i (va_runV (As := []) (rest := []) CF (k_signHere l D ad kk _ τ5 hv0) ⟨callB_of 0 hts (gT mw_303) rfl rfl rfl (ht _ mw_2) (ht _ mw_300) (by decide +kernel) ⟨Nat.le_of_ble_eq_true rfl, Nat.le_of_ble_eq_true rfl⟩, (ht _ mw_302), (ht _ ms_2)⟩ (preV_B hK hP hD hE hS (ci := 2) rfl rfl g_Pad) rfl rfl hl.1 rfl (lv_room (Nat.le_of_ble_eq_true rfl)) dX2_readNumber_12 ⟨Nat.le_of_ble_eq_true rfl, Nat.le_of_ble_eq_true rfl⟩) hS (fun r4 u9 H locs hw hP hD hS => ?_)
        obtain ⟨rfl, e9⟩ := hw
        rw [e9] at hP hD
        refine vp_callSi (W.runS (As := [.int (M_signHere τ5)]) (rest := []) CF (k_isDigit l (M_signHere τ5)) ⟨callB_of 1 hts (gT mw_318) rfl rfl rfl (ht _ mw_2) (ht _ mw_316) (by decide +kernel) ⟨Nat.le_of_ble_eq_true rfl, Nat.le_of_ble_eq_true rfl⟩, (ht _ mw_317)⟩ preEq rfl rfl hl.1 rfl (lv_room (Nat.le_of_ble_eq_true rfl)) dX2_readNumber_15 ⟨Nat.le_of_ble_eq_true rfl, Nat.le_of_ble_eq_true rfl⟩) (fun r5 h_r5 => ?_)
        obtain rfl := h_r5
        refine lv_if_eq (tgt := 75) hx hb dX2_readNumber_18 (by decide) (fun c6 => ?_) (fun c6 => ?_)
        · rw [if_pos c6] at hT
          refine lv_iload hx hb dX2_readNumber_75 (lv_at hl 4 rfl) ?_
          refine lv_if_eq (tgt := 85) hx hb dX2_readNumber_77 (by decide) (fun c7 => ?_) (fun c7 => ?_)
          · rw [if_pos c7] at hT
            refine lv_iconst (v := (-1)) hx hb dX2_readNumber_85 (by decide) ?_
            refine lv_goto (tgt := 90) hx hb dX2_readNumber_86 (by decide) ?_
            rw [eQ]
            exact W.iret (v := (-1)) hx hb hr (fun t ht hW => ⟨⟨(-1), τ5, rfl, hT, by rw [ht]; exact hP, va_K.moved hW.alike hK, hD⟩, hS.F ht⟩) hS.2.2 dX2_readNumber_90
          · rw [if_neg c7] at hT
            refine lv_iload_n hx hb dX2_readNumber_80 rfl (lv_at hl 3 rfl) ?_
            refine lv_iload_n hx hb dX2_readNumber_81 rfl (lv_at hl 1 rfl) ?_
            refine lv_icmp_ge (tgt := 89) hx hb dX2_readNumber_82 (by decide) (fun c8 => ?_) (fun c8 => ?_)
            · rw [if_pos c8] at hT
              refine lv_iload_n hx hb dX2_readNumber_89 rfl (lv_at hl 3 rfl) ?_
              rw [eQ]
              exact W.iret (v := x5_3) hx hb hr (fun t ht hW => ⟨⟨x5_3, τ5, rfl, hT, by rw [ht]; exact hP, va_K.moved hW.alike hK, hD⟩, hS.F ht⟩) hS.2.2 dX2_readNumber_90
            · rw [if_neg c8] at hT
              refine lv_iconst (v := (-1)) hx hb dX2_readNumber_85 (by decide) ?_
              refine lv_goto (tgt := 90) hx hb dX2_readNumber_86 (by decide) ?_
              rw [eQ]
              exact W.iret (v := (-1)) hx hb hr (fun t ht hW => ⟨⟨(-1), τ5, rfl, hT, by rw [ht]; exact hP, va_K.moved hW.alike hK, hD⟩, hS.F ht⟩) hS.2.2 dX2_readNumber_90
        · rw [if_neg c6] at hT
          have hdg := c6
          refine lv_iload_n hx hb dX2_readNumber_21 rfl (lv_at hl 3 rfl) ?_
          refine lv_bipush (v := 10) hx hb dX2_readNumber_22 (by decide) ?_
          refine lv_imul hx hb dX2_readNumber_24 ?_
          refine lv_aload_n hx hb dX2_readNumber_25 rfl (lv_at hl 0 rfl) ?_
          refine kB_i (va_runV (As := []) (rest := [.int (x5_3 * 10)]) CF (k_signHere l D ad kk _ τ5 hv0) ⟨callB_of 0 hts (gT mw_303) rfl rfl rfl (ht _ mw_2) (ht _ mw_300) (by decide +kernel) ⟨Nat.le_of_ble_eq_true rfl, Nat.le_of_ble_eq_true rfl⟩, (ht _ mw_302), (ht _ ms_2)⟩ (preV_B hK hP hD hE hS (ci := 2) rfl rfl g_Pad) rfl rfl hl.1 rfl (lv_room (Nat.le_of_ble_eq_true rfl)) dX2_readNumber_26 ⟨Nat.le_of_ble_eq_true rfl, Nat.le_of_ble_eq_true rfl⟩) hS (fun r9 u9 H locs hw hP hD hS => ?_)
          obtain ⟨rfl, e9⟩ := hw
          rw [e9] at hP hD
          refine lv_bipush (v := 48) hx hb dX2_readNumber_29 (by decide) ?_
          refine lv_isub hx hb dX2_readNumber_31 ?_
          refine lv_iadd hx hb dX2_readNumber_32 ?_
          refine lv_istore (lv' := [(5, .int ((x5_3 * 10) + ((M_signHere τ5) - 48))), (0, .ref (ad 1)), (1, .int p1), (2, .int p2), (3, .int x5_3), (4, .int (nI i105))]) hx hb dX2_readNumber_33 hl (by decide) rfl (fun ls hl => ?_)
          refine lv_iload hx hb dX2_readNumber_35 (lv_at hl 0 rfl) ?_
          refine lv_iload_n hx hb dX2_readNumber_37 rfl (lv_at hl 3 rfl) ?_
          refine lv_icmp_gt (tgt := 75) hx hb dX2_readNumber_38 (by decide) (fun c10 => ?_) (fun c10 => ?_)
          · rw [if_pos c10] at hT
            refine lv_iload hx hb dX2_readNumber_75 (lv_at hl 5 rfl) ?_
            refine lv_if_eq (tgt := 85) hx hb dX2_readNumber_77 (by decide) (fun c11 => ?_) (fun c11 => ?_)
            · rw [if_pos c11] at hT
              refine lv_iconst (v := (-1)) hx hb dX2_readNumber_85 (by decide) ?_
              refine lv_goto (tgt := 90) hx hb dX2_readNumber_86 (by decide) ?_
              rw [eQ]
              exact W.iret (v := (-1)) hx hb hr (fun t ht hW => ⟨⟨(-1), τ5, rfl, hT, by rw [ht]; exact hP, va_K.moved hW.alike hK, hD⟩, hS.F ht⟩) hS.2.2 dX2_readNumber_90
            · rw [if_neg c11] at hT
              refine lv_iload_n hx hb dX2_readNumber_80 rfl (lv_at hl 4 rfl) ?_
              refine lv_iload_n hx hb dX2_readNumber_81 rfl (lv_at hl 2 rfl) ?_
              refine lv_icmp_ge (tgt := 89) hx hb dX2_readNumber_82 (by decide) (fun c12 => ?_) (fun c12 => ?_)
              · rw [if_pos c12] at hT
                refine lv_iload_n hx hb dX2_readNumber_89 rfl (lv_at hl 4 rfl) ?_
                rw [eQ]
                exact W.iret (v := x5_3) hx hb hr (fun t ht hW => ⟨⟨x5_3, τ5, rfl, hT, by rw [ht]; exact hP, va_K.moved hW.alike hK, hD⟩, hS.F ht⟩) hS.2.2 dX2_readNumber_90
              · rw [if_neg c12] at hT
                refine lv_iconst (v := (-1)) hx hb dX2_readNumber_85 (by decide) ?_
                refine lv_goto (tgt := 90) hx hb dX2_readNumber_86 (by decide) ?_
                rw [eQ]
                exact W.iret (v := (-1)) hx hb hr (fun t ht hW => ⟨⟨(-1), τ5, rfl, hT, by rw [ht]; exact hP, va_K.moved hW.alike hK, hD⟩, hS.F ht⟩) hS.2.2 dX2_readNumber_90
          · rw [if_neg c10] at hT
            refine lv_iload hx hb dX2_readNumber_41 (lv_at hl 5 rfl) ?_
            refine lv_iconst (v := 3) hx hb dX2_readNumber_43 (by decide) ?_
            refine lv_icmp_ne (tgt := 56) hx hb dX2_readNumber_44 (by decide) (fun c13 => ?_) (fun c13 => ?_)
            · rw [if_neg c13] at hT
              refine lv_iload hx hb dX2_readNumber_56 (lv_at hl 0 rfl) ?_
              refine lv_istore_n (lv' := [(3, .int ((x5_3 * 10) + ((M_signHere τ5) - 48))), (5, .int ((x5_3 * 10) + ((M_signHere τ5) - 48))), (0, .ref (ad 1)), (1, .int p1), (2, .int p2), (4, .int (nI i105))]) hx hb dX2_readNumber_58 rfl hl (by decide) rfl (fun ls hl => ?_)
              refine lv_iinc (v := nI (i105 + 1)) (lv' := [(4, .int (nI (i105 + 1))), (3, .int ((x5_3 * 10) + ((M_signHere τ5) - 48))), (5, .int ((x5_3 * 10) + ((M_signHere τ5) - 48))), (0, .ref (ad 1)), (1, .int p1), (2, .int p2)]) hx hb dX2_readNumber_59 hl (k := 5) rfl (nI_1 i105) (by decide) rfl (fun ls hl => ?_)
              refine lv_aload_n hx hb dX2_readNumber_62 rfl (lv_at hl 3 rfl) ?_
              refine lv_dup hx hb dX2_readNumber_63 rfl ?_
              refine va_get (D := D) (ci := 2) (v := .int (gF τ5 1 2)) (C := RX2) (T := TX2) (N := 3) hx hb ht inX2 hown hK hP 1 g_Pad rfl 2 (by decide) (ht _ mw_34) (fun _ h9 => h9) rfl dX2_readNumber_64 ?_
              refine lv_iconst (v := 1) hx hb dX2_readNumber_67 (by decide) ?_
              refine lv_iadd hx hb dX2_readNumber_68 ?_
              refine va_put (D := D) (ci := 2) (v := .int ((gF τ5 1 2) + 1)) (ty := .int) (C := RX2) (T := TX2) (N := 3) hx hb ht inX2 tyX2 tyX2_ok nmX2 hown hK hP hD hS 1 g_Pad rfl 2 (by decide) (ht _ mw_34) (fun _ h9 => h9) rfl (by decide +kernel) rfl rfl (Nat.le_of_ble_eq_true rfl) dX2_readNumber_69 (fun H locs hP hD hS => ?_)
              rw [s_Pad_2] at hP hD
              refine lv_goto (tgt := 5) hx hb dX2_readNumber_72 (by decide) ?_
              exact ih  (i105 + 1) ((x5_3 * 10) + ((M_signHere τ5) - 48)) (sF τ5 1 2 ((gF τ5 1 2) + 1)) _ _ ls h_lt (by omega) (IP.step hv0 hdg) hP hD hS (lv_sub hl [3, 4, 5, 1, 0] rfl) hT
            · rw [if_pos c13] at hT
              refine lv_iload hx hb dX2_readNumber_47 (lv_at hl 0 rfl) ?_
              refine lv_iload_n hx hb dX2_readNumber_49 rfl (lv_at hl 2 rfl) ?_
              refine lv_icmp_ge (tgt := 56) hx hb dX2_readNumber_50 (by decide) (fun c14 => ?_) (fun c14 => ?_)
              · rw [if_pos c14] at hT
                refine lv_iload hx hb dX2_readNumber_56 (lv_at hl 0 rfl) ?_
                refine lv_istore_n (lv' := [(3, .int ((x5_3 * 10) + ((M_signHere τ5) - 48))), (5, .int ((x5_3 * 10) + ((M_signHere τ5) - 48))), (0, .ref (ad 1)), (1, .int p1), (2, .int p2), (4, .int (nI i105))]) hx hb dX2_readNumber_58 rfl hl (by decide) rfl (fun ls hl => ?_)
                refine lv_iinc (v := nI (i105 + 1)) (lv' := [(4, .int (nI (i105 + 1))), (3, .int ((x5_3 * 10) + ((M_signHere τ5) - 48))), (5, .int ((x5_3 * 10) + ((M_signHere τ5) - 48))), (0, .ref (ad 1)), (1, .int p1), (2, .int p2)]) hx hb dX2_readNumber_59 hl (k := 5) rfl (nI_1 i105) (by decide) rfl (fun ls hl => ?_)
                refine lv_aload_n hx hb dX2_readNumber_62 rfl (lv_at hl 3 rfl) ?_
                refine lv_dup hx hb dX2_readNumber_63 rfl ?_
                refine va_get (D := D) (ci := 2) (v := .int (gF τ5 1 2)) (C := RX2) (T := TX2) (N := 3) hx hb ht inX2 hown hK hP 1 g_Pad rfl 2 (by decide) (ht _ mw_34) (fun _ h9 => h9) rfl dX2_readNumber_64 ?_
                refine lv_iconst (v := 1) hx hb dX2_readNumber_67 (by decide) ?_
                refine lv_iadd hx hb dX2_readNumber_68 ?_
                refine va_put (D := D) (ci := 2) (v := .int ((gF τ5 1 2) + 1)) (ty := .int) (C := RX2) (T := TX2) (N := 3) hx hb ht inX2 tyX2 tyX2_ok nmX2 hown hK hP hD hS 1 g_Pad rfl 2 (by decide) (ht _ mw_34) (fun _ h9 => h9) rfl (by decide +kernel) rfl rfl (Nat.le_of_ble_eq_true rfl) dX2_readNumber_69 (fun H locs hP hD hS => ?_)
                rw [s_Pad_2] at hP hD
                refine lv_goto (tgt := 5) hx hb dX2_readNumber_72 (by decide) ?_
                exact ih  (i105 + 1) ((x5_3 * 10) + ((M_signHere τ5) - 48)) (sF τ5 1 2 ((gF τ5 1 2) + 1)) _ _ ls h_lt (by omega) (IP.step hv0 hdg) hP hD hS (lv_sub hl [3, 4, 5, 1, 0] rfl) hT
              · rw [if_neg c14] at hT
                refine lv_goto (tgt := 75) hx hb dX2_readNumber_53 (by decide) ?_
                refine lv_iload hx hb dX2_readNumber_75 (lv_at hl 5 rfl) ?_
                refine lv_if_eq (tgt := 85) hx hb dX2_readNumber_77 (by decide) (fun c15 => ?_) (fun c15 => ?_)
                · rw [if_pos c15] at hT
                  refine lv_iconst (v := (-1)) hx hb dX2_readNumber_85 (by decide) ?_
                  refine lv_goto (tgt := 90) hx hb dX2_readNumber_86 (by decide) ?_
                  rw [eQ]
                  exact W.iret (v := (-1)) hx hb hr (fun t ht hW => ⟨⟨(-1), τ5, rfl, hT, by rw [ht]; exact hP, va_K.moved hW.alike hK, hD⟩, hS.F ht⟩) hS.2.2 dX2_readNumber_90
                · rw [if_neg c15] at hT
                  refine lv_iload_n hx hb dX2_readNumber_80 rfl (lv_at hl 4 rfl) ?_
                  refine lv_iload_n hx hb dX2_readNumber_81 rfl (lv_at hl 2 rfl) ?_
                  refine lv_icmp_ge (tgt := 89) hx hb dX2_readNumber_82 (by decide) (fun c16 => ?_) (fun c16 => ?_)
                  · rw [if_pos c16] at hT
                    refine lv_iload_n hx hb dX2_readNumber_89 rfl (lv_at hl 4 rfl) ?_
                    rw [eQ]
                    exact W.iret (v := x5_3) hx hb hr (fun t ht hW => ⟨⟨x5_3, τ5, rfl, hT, by rw [ht]; exact hP, va_K.moved hW.alike hK, hD⟩, hS.F ht⟩) hS.2.2 dX2_readNumber_90
                  · rw [if_neg c16] at hT
                    refine lv_iconst (v := (-1)) hx hb dX2_readNumber_85 (by decide) ?_
                    refine lv_goto (tgt := 90) hx hb dX2_readNumber_86 (by decide) ?_
                    rw [eQ]
                    exact W.iret (v := (-1)) hx hb hr (fun t ht hW => ⟨⟨(-1), τ5, rfl, hT, by rw [ht]; exact hP, va_K.moved hW.alike hK, hD⟩, hS.F ht⟩) hS.2.2 dX2_readNumber_90
  rw [M_readNumber] at hT
  refine lv_iconst (v := 0) hx hb dX2_readNumber_0 (by decide) ?_
  refine lv_istore_n (lv' := [(3, .int 0), (0, .ref (ad 1)), (1, .int p1), (2, .int p2)]) hx hb dX2_readNumber_1 rfl hl (by decide) rfl (fun ls hl => ?_)
  refine lv_iconst (v := 0) hx hb dX2_readNumber_2 (by decide) ?_
  refine lv_istore (lv' := [(4, .int 0), (3, .int 0), (0, .ref (ad 1)), (1, .int p1), (2, .int p2)]) hx hb dX2_readNumber_3 hl (by decide) rfl (fun ls hl => ?_)
  exact L_5 5 0 0 σ _ _ ls (Nat.zero_le _) (by decide) hIc hP hD hS (lv_sub hl [2, 3, 4, 1, 0] rfl) hT
set_option maxHeartbeats 4000000 in
set_option maxRecDepth 100000 in
theorem k_readUse (l : Launch) (D : va_G) (ad : Nat → Nat) (kk : Nat → ClassId) (sz : Nat) (σ : St) (i1 : Nat) (h1 : i1 < 12) (hIc : IP σ) : Met l yX2_readUse wsX2_readUse { frames := 2, cells := 0, slots := 0, locals := 45 } (va_Pc [.ref (ad 1), .ref (ad (pMe i1))] (PB D ad kk sz σ)) (va_Qi (fun r u => (r, u) = M_readUse σ i1) (QB D ad kk sz) (aL 96 ad sz)) 0 0 (aL 96 ad sz) := by
  refine Met.ofW (cc := cX2_readUse) (maxL := 4) (ret := (some .boolean)) (by decide) rfl ?_
  intro p e s m args below meth c s₁ B hml hv
  obtain ⟨rfl, hsz, hP, hK, hD0, hE⟩ := hv
  have hx := B.exec
  have hb := B.bytes
  have hr := B.returns
  have hts := atoms_spec (ws := wsX2_readUse) B.pre
  have hown : s.vm.findClass RX2 = some m.cls := findClass_of_methodNamed B.named
  have hlocks := B.notSynchronized
  subst hsz
  have hD : va_D (aL 96 ad s.heap.size) (wB ad kk σ) := aL_D hD0
  have hS : va_S (aL 96 ad s.heap.size) s.heap s.heap [] := va_S.rf
  have hl := lv_entry ([.ref (ad 1), .ref (ad (pMe i1))]) (n := 4) (Nat.le_of_ble_eq_true rfl)
  rw [lg_entry_eq]
  generalize (lg_sl ([.ref (ad 1), .ref (ad (pMe i1))]) ++ List.replicate (4 - (lg_sl ([.ref (ad 1), .ref (ad (pMe i1))])).length) Slot.unset).toArray = ls at hl ⊢
  have hl : lv_has ls 4 [(0, .ref (ad 1)), (1, .ref (ad (pMe i1)))] := hl
  have CF : CallFix p m c cX2_readUse 4 s ([.ref (ad 1), .ref (ad (pMe i1))] : List Value).toArray wsX2_readUse RX2 := ⟨hx, hb, hml, hown, hts⟩
  have ht : ∀ w ∈ T0, w.before ([.ref (ad 1), .ref (ad (pMe i1))] : List Value).toArray s = true := fun w h => hts w (List.mem_cons_of_mem _ h)
  generalize hT : M_readUse σ i1 = T
  rw [M_readUse] at hT
  refine lv_aload_n hx hb dX2_readUse_0 rfl (lv_at hl 0 rfl) ?_
  refine lv_iconst (v := 0) hx hb dX2_readUse_1 (by decide) ?_
  refine lv_bipush (v := 11) hx hb dX2_readUse_2 (by decide) ?_
  refine kB_i (va_runV (As := [.int 0, .int 11]) (rest := []) CF (k_readNumber l D ad kk _ σ 0 11 hIc) ⟨callB_of 2 hts (gT mw_315) rfl rfl rfl (ht _ mw_2) (ht _ mw_312) (by decide +kernel) ⟨Nat.le_of_ble_eq_true rfl, Nat.le_of_ble_eq_true rfl⟩, (ht _ mw_314), (ht _ ms_5)⟩ (preV_B hK hP hD hE hS (ci := 2) rfl rfl g_Pad) rfl rfl hl.1 rfl (lv_room (Nat.le_of_ble_eq_true rfl)) dX2_readUse_4 ⟨Nat.le_of_ble_eq_true rfl, Nat.le_of_ble_eq_true rfl⟩) hS (fun r1 σ2 H locs hw hP hD hS => ?_)
  rw [← hw, pb_mk] at hT
  have h_r1 := hw
  have hn := num_in (N := 12) hIc h_r1 (by decide) (by decide) (by decide)
  have hIc := IP.num hIc h_r1
  refine lv_istore_n (lv' := [(2, .int r1), (0, .ref (ad 1)), (1, .ref (ad (pMe i1)))]) hx hb dX2_readUse_7 rfl hl (by decide) rfl (fun ls hl => ?_)
  refine lv_iload_n hx hb dX2_readUse_8 rfl (lv_at hl 0 rfl) ?_
  refine lv_iconst (v := (-1)) hx hb dX2_readUse_9 (by decide) ?_
  refine lv_icmp_eq (tgt := 22) hx hb dX2_readUse_10 (by decide) (fun c3 => ?_) (fun c3 => ?_)
  · rw [if_pos c3] at hT
    refine lv_iconst (v := 0) hx hb dX2_readUse_22 (by decide) ?_
    exact W.zret (v := 0) hx hb hr rfl (fun t ht hW => ⟨⟨0, σ2, rfl, hT, by rw [ht]; exact hP, va_K.moved hW.alike hK, hD⟩, hS.F ht⟩) hS.2.2 dX2_readUse_23
  · rw [if_neg c3] at hT
    have hne := c3
    refine lv_aload_n hx hb dX2_readUse_13 rfl (lv_at hl 1 rfl) ?_
    refine lv_bipush (v := 42) hx hb dX2_readUse_14 (by decide) ?_
    refine kB_i (va_runV (As := [.int 42]) (rest := []) CF (k_take l D ad kk _ σ2 42 hIc) ⟨callB_of 1 hts (gT mw_299) rfl rfl rfl (ht _ mw_2) (ht _ mw_296) (by decide +kernel) ⟨Nat.le_of_ble_eq_true rfl, Nat.le_of_ble_eq_true rfl⟩, (ht _ mw_298), (ht _ ms_1)⟩ (preV_B hK hP hD hE hS (ci := 2) rfl rfl g_Pad) rfl rfl hl.1 rfl (lv_room (Nat.le_of_ble_eq_true rfl)) dX2_readUse_16 ⟨Nat.le_of_ble_eq_true rfl, Nat.le_of_ble_eq_true rfl⟩) hS (fun r4 σ5 H locs hw hP hD hS => ?_)
    rw [← hw, pb_mk] at hT
    have h_r4 := hw
    have hIc := IP.take hIc h_r4
    refine lv_if_ne (tgt := 24) hx hb dX2_readUse_19 (by decide) (fun c6 => ?_) (fun c6 => ?_)
    · rw [if_neg c6] at hT
      refine lv_aload_n hx hb dX2_readUse_24 rfl (lv_at hl 1 rfl) ?_
      refine lv_iconst (v := 1) hx hb dX2_readUse_25 (by decide) ?_
      refine lv_sipush (v := 9999) hx hb dX2_readUse_26 (by decide) ?_
      refine kB_i (va_runV (As := [.int 1, .int 9999]) (rest := []) CF (k_readNumber l D ad kk _ σ5 1 9999 hIc) ⟨callB_of 2 hts (gT mw_315) rfl rfl rfl (ht _ mw_2) (ht _ mw_312) (by decide +kernel) ⟨Nat.le_of_ble_eq_true rfl, Nat.le_of_ble_eq_true rfl⟩, (ht _ mw_314), (ht _ ms_5)⟩ (preV_B hK hP hD hE hS (ci := 2) rfl rfl g_Pad) rfl rfl hl.1 rfl (lv_room (Nat.le_of_ble_eq_true rfl)) dX2_readUse_29 ⟨Nat.le_of_ble_eq_true rfl, Nat.le_of_ble_eq_true rfl⟩) hS (fun r7 σ8 H locs hw hP hD hS => ?_)
      rw [← hw, pb_mk] at hT
      have h_r7 := hw
      refine lv_istore_n (lv' := [(3, .int r7), (2, .int r1), (0, .ref (ad 1)), (1, .ref (ad (pMe i1)))]) hx hb dX2_readUse_32 rfl hl (by decide) rfl (fun ls hl => ?_)
      refine lv_iload_n hx hb dX2_readUse_33 rfl (lv_at hl 0 rfl) ?_
      refine lv_iconst (v := (-1)) hx hb dX2_readUse_34 (by decide) ?_
      refine lv_icmp_ne (tgt := 40) hx hb dX2_readUse_35 (by decide) (fun c9 => ?_) (fun c9 => ?_)
      · rw [if_neg c9] at hT
        refine lv_aload_n hx hb dX2_readUse_40 rfl (lv_at hl 3 rfl) ?_
        refine va_get (D := D) (ci := 1) (v := .ref (ad (pMe i1 + 1))) (C := RX1) (T := TX1) (N := 9) hx hb ht inX1 hown hK hP (pMe i1) (g_Me h1) rfl 0 (by decide) (ht _ mw_53) (fun _ h9 => h9) rfl dX2_readUse_41 ?_
        refine lv_iload_n hx hb dX2_readUse_44 rfl (lv_at hl 1 rfl) ?_
        refine lv_dup2_11 hx hb dX2_readUse_45 rfl rfl ?_
        refine va_iald (i := r1) hx hb hK hP (pMe i1 + 1) 0 (g_Ma h1) rfl (hn hne) dX2_readUse_46 ?_
        refine lv_iload_n hx hb dX2_readUse_47 rfl (lv_at hl 0 rfl) ?_
        refine lv_iadd hx hb dX2_readUse_48 ?_
        refine va_iast (i := r1) (x := (gA σ8 (pMe i1 + 1) r1.toNatClampNeg) + r7) hx hb hK hP hD hS (pMe i1 + 1) 0 (g_Ma h1) rfl (hn hne) dX2_readUse_49 (fun H locs hP hD hS => ?_)
        rw [s_Ma h1] at hP hD
        refine lv_iconst (v := 1) hx hb dX2_readUse_50 (by decide) ?_
        exact W.zret (v := 1) hx hb hr rfl (fun t ht hW => ⟨⟨1, (sA σ8 (pMe i1 + 1) r1.toNatClampNeg ((gA σ8 (pMe i1 + 1) r1.toNatClampNeg) + r7)), rfl, hT, by rw [ht]; exact hP, va_K.moved hW.alike hK, hD⟩, hS.F ht⟩) hS.2.2 dX2_readUse_51
      · rw [if_pos c9] at hT
        refine lv_iconst (v := 0) hx hb dX2_readUse_38 (by decide) ?_
        exact W.zret (v := 0) hx hb hr rfl (fun t ht hW => ⟨⟨0, σ8, rfl, hT, by rw [ht]; exact hP, va_K.moved hW.alike hK, hD⟩, hS.F ht⟩) hS.2.2 dX2_readUse_39
    · rw [if_pos c6] at hT
      refine lv_iconst (v := 0) hx hb dX2_readUse_22 (by decide) ?_
      exact W.zret (v := 0) hx hb hr rfl (fun t ht hW => ⟨⟨0, σ5, rfl, hT, by rw [ht]; exact hP, va_K.moved hW.alike hK, hD⟩, hS.F ht⟩) hS.2.2 dX2_readUse_23
set_option maxHeartbeats 4000000 in
set_option maxRecDepth 100000 in
theorem k_readBar (l : Launch) (D : va_G) (ad : Nat → Nat) (kk : Nat → ClassId) (sz : Nat) (σ : St) (i1 : Nat) (h1 : i1 < 12) (hIc : IP σ) : Met l yX2_readBar wsX2_readBar { frames := 2, cells := 0, slots := 0, locals := 45 } (va_Pc [.ref (ad 1), .ref (ad (pMe i1))] (PB D ad kk sz σ)) (va_Qi (fun r u => (r, u) = M_readBar σ i1) (QB D ad kk sz) (aL 96 ad sz)) 0 0 (aL 96 ad sz) := by
  refine Met.ofW (cc := cX2_readBar) (maxL := 3) (ret := (some .boolean)) (by decide) rfl ?_
  intro p e s m args below meth c s₁ B hml hv
  obtain ⟨rfl, hsz, hP, hK, hD0, hE⟩ := hv
  have hx := B.exec
  have hb := B.bytes
  have hr := B.returns
  have hts := atoms_spec (ws := wsX2_readBar) B.pre
  have hown : s.vm.findClass RX2 = some m.cls := findClass_of_methodNamed B.named
  have hlocks := B.notSynchronized
  subst hsz
  have hD : va_D (aL 96 ad s.heap.size) (wB ad kk σ) := aL_D hD0
  have hS : va_S (aL 96 ad s.heap.size) s.heap s.heap [] := va_S.rf
  have hl := lv_entry ([.ref (ad 1), .ref (ad (pMe i1))]) (n := 3) (Nat.le_of_ble_eq_true rfl)
  rw [lg_entry_eq]
  generalize (lg_sl ([.ref (ad 1), .ref (ad (pMe i1))]) ++ List.replicate (3 - (lg_sl ([.ref (ad 1), .ref (ad (pMe i1))])).length) Slot.unset).toArray = ls at hl ⊢
  have hl : lv_has ls 3 [(0, .ref (ad 1)), (1, .ref (ad (pMe i1)))] := hl
  have CF : CallFix p m c cX2_readBar 3 s ([.ref (ad 1), .ref (ad (pMe i1))] : List Value).toArray wsX2_readBar RX2 := ⟨hx, hb, hml, hown, hts⟩
  have ht : ∀ w ∈ T0, w.before ([.ref (ad 1), .ref (ad (pMe i1))] : List Value).toArray s = true := fun w h => hts w (List.mem_cons_of_mem _ h)
  generalize hT : M_readBar σ i1 = T
  rw [M_readBar] at hT
  refine lv_aload_n hx hb dX2_readBar_0 rfl (lv_at hl 0 rfl) ?_
  refine lv_iconst (v := 0) hx hb dX2_readBar_1 (by decide) ?_
  refine lv_bipush (v := 9) hx hb dX2_readBar_2 (by decide) ?_
  refine kB_i (va_runV (As := [.int 0, .int 9]) (rest := []) CF (k_readNumber l D ad kk _ σ 0 9 hIc) ⟨callB_of 2 hts (gT mw_315) rfl rfl rfl (ht _ mw_2) (ht _ mw_312) (by decide +kernel) ⟨Nat.le_of_ble_eq_true rfl, Nat.le_of_ble_eq_true rfl⟩, (ht _ mw_314), (ht _ ms_5)⟩ (preV_B hK hP hD hE hS (ci := 2) rfl rfl g_Pad) rfl rfl hl.1 rfl (lv_room (Nat.le_of_ble_eq_true rfl)) dX2_readBar_4 ⟨Nat.le_of_ble_eq_true rfl, Nat.le_of_ble_eq_true rfl⟩) hS (fun r1 σ2 H locs hw hP hD hS => ?_)
  rw [← hw, pb_mk] at hT
  have h_r1 := hw
  refine lv_istore_n (lv' := [(2, .int r1), (0, .ref (ad 1)), (1, .ref (ad (pMe i1)))]) hx hb dX2_readBar_7 rfl hl (by decide) rfl (fun ls hl => ?_)
  refine lv_iload_n hx hb dX2_readBar_8 rfl (lv_at hl 0 rfl) ?_
  refine lv_iconst (v := (-1)) hx hb dX2_readBar_9 (by decide) ?_
  refine lv_icmp_ne (tgt := 15) hx hb dX2_readBar_10 (by decide) (fun c3 => ?_) (fun c3 => ?_)
  · rw [if_neg c3] at hT
    refine lv_aload_n hx hb dX2_readBar_15 rfl (lv_at hl 2 rfl) ?_
    refine lv_aload_n hx hb dX2_readBar_16 rfl (lv_at hl 2 rfl) ?_
    refine va_get (D := D) (ci := 1) (v := .int (gF σ2 (pMe i1) 2)) (C := RX1) (T := TX1) (N := 9) hx hb ht inX1 hown hK hP (pMe i1) (g_Me h1) rfl 2 (by decide) (ht _ mw_58) (fun _ h9 => h9) rfl dX2_readBar_17 ?_
    refine lv_iload_n hx hb dX2_readBar_20 rfl (lv_at hl 0 rfl) ?_
    refine lv_iconst (v := 1) hx hb dX2_readBar_21 (by decide) ?_
    refine vp_callSi ((va_runSN (As := [.int (gF σ2 (pMe i1) 2), .int r1, .int 1]) (rest := [.ref (ad (pMe i1))]) CF (k_with l (gF σ2 (pMe i1) 2) r1 1) ⟨va_cnB (host := "MaterialBars") 3 hts (gT mw_325) rfl rfl rfl (hE.nest (own := RX2) (k := 61) (y := yX4_with) (host := "MaterialBars") (by decide +kernel)) (ht _ mw_1) (by decide +kernel) ⟨Nat.le_of_ble_eq_true rfl, Nat.le_of_ble_eq_true rfl⟩, (ht _ mw_324), trivial⟩ preEq rfl rfl hl.1 rfl (lv_room (Nat.le_of_ble_eq_true rfl)) dX2_readBar_22 ⟨Nat.le_of_ble_eq_true rfl, Nat.le_of_ble_eq_true rfl⟩).run) (fun r4 h_r4 => ?_)
    obtain rfl := h_r4
    refine va_put (D := D) (ci := 1) (v := .int (M_with (gF σ2 (pMe i1) 2) r1 1)) (ty := .int) (C := RX1) (T := TX1) (N := 9) hx hb ht inX1 tyX1 tyX1_ok nmX1 hown hK hP hD hS (pMe i1) (g_Me h1) rfl 2 (by decide) (ht _ mw_58) (fun _ h9 => h9) rfl (by decide +kernel) rfl rfl (Nat.le_of_ble_eq_true rfl) dX2_readBar_25 (fun H locs hP hD hS => ?_)
    rw [s_Me_2 h1] at hP hD
    refine lv_iconst (v := 1) hx hb dX2_readBar_28 (by decide) ?_
    exact W.zret (v := 1) hx hb hr rfl (fun t ht hW => ⟨⟨1, (sF σ2 (pMe i1) 2 (M_with (gF σ2 (pMe i1) 2) r1 1)), rfl, hT, by rw [ht]; exact hP, va_K.moved hW.alike hK, hD⟩, hS.F ht⟩) hS.2.2 dX2_readBar_29
  · rw [if_pos c3] at hT
    refine lv_iconst (v := 0) hx hb dX2_readBar_13 (by decide) ?_
    exact W.zret (v := 0) hx hb hr rfl (fun t ht hW => ⟨⟨0, σ2, rfl, hT, by rw [ht]; exact hP, va_K.moved hW.alike hK, hD⟩, hS.F ht⟩) hS.2.2 dX2_readBar_14
set_option maxHeartbeats 4000000 in
set_option maxRecDepth 100000 in
theorem k_readNotBehind (l : Launch) (D : va_G) (ad : Nat → Nat) (kk : Nat → ClassId) (sz : Nat) (σ : St) (i1 : Nat) (h1 : i1 < 12) (hIc : IP σ) : Met l yX2_readNotBehind wsX2_readNotBehind { frames := 2, cells := 0, slots := 0, locals := 45 } (va_Pc [.ref (ad 1), .ref (ad (pMe i1))] (PB D ad kk sz σ)) (va_Qi (fun r u => (r, u) = M_readNotBehind σ i1) (QB D ad kk sz) (aL 96 ad sz)) 0 0 (aL 96 ad sz) := by
  refine Met.ofW (cc := cX2_readNotBehind) (maxL := 3) (ret := (some .boolean)) (by decide) rfl ?_
  intro p e s m args below meth c s₁ B hml hv
  obtain ⟨rfl, hsz, hP, hK, hD0, hE⟩ := hv
  have hx := B.exec
  have hb := B.bytes
  have hr := B.returns
  have hts := atoms_spec (ws := wsX2_readNotBehind) B.pre
  have hown : s.vm.findClass RX2 = some m.cls := findClass_of_methodNamed B.named
  have hlocks := B.notSynchronized
  subst hsz
  have hD : va_D (aL 96 ad s.heap.size) (wB ad kk σ) := aL_D hD0
  have hS : va_S (aL 96 ad s.heap.size) s.heap s.heap [] := va_S.rf
  have hl := lv_entry ([.ref (ad 1), .ref (ad (pMe i1))]) (n := 3) (Nat.le_of_ble_eq_true rfl)
  rw [lg_entry_eq]
  generalize (lg_sl ([.ref (ad 1), .ref (ad (pMe i1))]) ++ List.replicate (3 - (lg_sl ([.ref (ad 1), .ref (ad (pMe i1))])).length) Slot.unset).toArray = ls at hl ⊢
  have hl : lv_has ls 3 [(0, .ref (ad 1)), (1, .ref (ad (pMe i1)))] := hl
  have CF : CallFix p m c cX2_readNotBehind 3 s ([.ref (ad 1), .ref (ad (pMe i1))] : List Value).toArray wsX2_readNotBehind RX2 := ⟨hx, hb, hml, hown, hts⟩
  have ht : ∀ w ∈ T0, w.before ([.ref (ad 1), .ref (ad (pMe i1))] : List Value).toArray s = true := fun w h => hts w (List.mem_cons_of_mem _ h)
  generalize hT : M_readNotBehind σ i1 = T
  rw [M_readNotBehind] at hT
  refine lv_aload_n hx hb dX2_readNotBehind_0 rfl (lv_at hl 0 rfl) ?_
  refine lv_iconst (v := 0) hx hb dX2_readNotBehind_1 (by decide) ?_
  refine lv_bipush (v := 11) hx hb dX2_readNotBehind_2 (by decide) ?_
  refine kB_i (va_runV (As := [.int 0, .int 11]) (rest := []) CF (k_readNumber l D ad kk _ σ 0 11 hIc) ⟨callB_of 2 hts (gT mw_315) rfl rfl rfl (ht _ mw_2) (ht _ mw_312) (by decide +kernel) ⟨Nat.le_of_ble_eq_true rfl, Nat.le_of_ble_eq_true rfl⟩, (ht _ mw_314), (ht _ ms_5)⟩ (preV_B hK hP hD hE hS (ci := 2) rfl rfl g_Pad) rfl rfl hl.1 rfl (lv_room (Nat.le_of_ble_eq_true rfl)) dX2_readNotBehind_4 ⟨Nat.le_of_ble_eq_true rfl, Nat.le_of_ble_eq_true rfl⟩) hS (fun r1 σ2 H locs hw hP hD hS => ?_)
  rw [← hw, pb_mk] at hT
  have h_r1 := hw
  refine lv_istore_n (lv' := [(2, .int r1), (0, .ref (ad 1)), (1, .ref (ad (pMe i1)))]) hx hb dX2_readNotBehind_7 rfl hl (by decide) rfl (fun ls hl => ?_)
  refine lv_iload_n hx hb dX2_readNotBehind_8 rfl (lv_at hl 0 rfl) ?_
  refine lv_iconst (v := (-1)) hx hb dX2_readNotBehind_9 (by decide) ?_
  refine lv_icmp_ne (tgt := 15) hx hb dX2_readNotBehind_10 (by decide) (fun c3 => ?_) (fun c3 => ?_)
  · rw [if_neg c3] at hT
    refine lv_aload_n hx hb dX2_readNotBehind_15 rfl (lv_at hl 2 rfl) ?_
    refine lv_aload_n hx hb dX2_readNotBehind_16 rfl (lv_at hl 2 rfl) ?_
    refine va_get (D := D) (ci := 1) (v := .int (gF σ2 (pMe i1) 3)) (C := RX1) (T := TX1) (N := 9) hx hb ht inX1 hown hK hP (pMe i1) (g_Me h1) rfl 3 (by decide) (ht _ mw_61) (fun _ h9 => h9) rfl dX2_readNotBehind_17 ?_
    refine lv_iload_n hx hb dX2_readNotBehind_20 rfl (lv_at hl 0 rfl) ?_
    refine lv_iconst (v := 1) hx hb dX2_readNotBehind_21 (by decide) ?_
    refine vp_callSi ((va_runSN (As := [.int (gF σ2 (pMe i1) 3), .int r1, .int 1]) (rest := [.ref (ad (pMe i1))]) CF (k_with l (gF σ2 (pMe i1) 3) r1 1) ⟨va_cnB (host := "MaterialBars") 3 hts (gT mw_325) rfl rfl rfl (hE.nest (own := RX2) (k := 61) (y := yX4_with) (host := "MaterialBars") (by decide +kernel)) (ht _ mw_1) (by decide +kernel) ⟨Nat.le_of_ble_eq_true rfl, Nat.le_of_ble_eq_true rfl⟩, (ht _ mw_324), trivial⟩ preEq rfl rfl hl.1 rfl (lv_room (Nat.le_of_ble_eq_true rfl)) dX2_readNotBehind_22 ⟨Nat.le_of_ble_eq_true rfl, Nat.le_of_ble_eq_true rfl⟩).run) (fun r4 h_r4 => ?_)
    obtain rfl := h_r4
    refine va_put (D := D) (ci := 1) (v := .int (M_with (gF σ2 (pMe i1) 3) r1 1)) (ty := .int) (C := RX1) (T := TX1) (N := 9) hx hb ht inX1 tyX1 tyX1_ok nmX1 hown hK hP hD hS (pMe i1) (g_Me h1) rfl 3 (by decide) (ht _ mw_61) (fun _ h9 => h9) rfl (by decide +kernel) rfl rfl (Nat.le_of_ble_eq_true rfl) dX2_readNotBehind_25 (fun H locs hP hD hS => ?_)
    rw [s_Me_3 h1] at hP hD
    refine lv_iconst (v := 1) hx hb dX2_readNotBehind_28 (by decide) ?_
    exact W.zret (v := 1) hx hb hr rfl (fun t ht hW => ⟨⟨1, (sF σ2 (pMe i1) 3 (M_with (gF σ2 (pMe i1) 3) r1 1)), rfl, hT, by rw [ht]; exact hP, va_K.moved hW.alike hK, hD⟩, hS.F ht⟩) hS.2.2 dX2_readNotBehind_29
  · rw [if_pos c3] at hT
    refine lv_iconst (v := 0) hx hb dX2_readNotBehind_13 (by decide) ?_
    exact W.zret (v := 0) hx hb hr rfl (fun t ht hW => ⟨⟨0, σ2, rfl, hT, by rw [ht]; exact hP, va_K.moved hW.alike hK, hD⟩, hS.F ht⟩) hS.2.2 dX2_readNotBehind_14
set_option maxHeartbeats 4000000 in
set_option maxRecDepth 100000 in
theorem k_readAfter (l : Launch) (D : va_G) (ad : Nat → Nat) (kk : Nat → ClassId) (sz : Nat) (σ : St) (i1 : Nat) (h1 : i1 < 12) (hIc : IP σ) : Met l yX2_readAfter wsX2_readAfter { frames := 2, cells := 0, slots := 0, locals := 45 } (va_Pc [.ref (ad 1), .ref (ad (pMe i1))] (PB D ad kk sz σ)) (va_Qi (fun r u => (r, u) = M_readAfter σ i1) (QB D ad kk sz) (aL 96 ad sz)) 0 0 (aL 96 ad sz) := by
  refine Met.ofW (cc := cX2_readAfter) (maxL := 4) (ret := (some .boolean)) (by decide) rfl ?_
  intro p e s m args below meth c s₁ B hml hv
  obtain ⟨rfl, hsz, hP, hK, hD0, hE⟩ := hv
  have hx := B.exec
  have hb := B.bytes
  have hr := B.returns
  have hts := atoms_spec (ws := wsX2_readAfter) B.pre
  have hown : s.vm.findClass RX2 = some m.cls := findClass_of_methodNamed B.named
  have hlocks := B.notSynchronized
  subst hsz
  have hD : va_D (aL 96 ad s.heap.size) (wB ad kk σ) := aL_D hD0
  have hS : va_S (aL 96 ad s.heap.size) s.heap s.heap [] := va_S.rf
  have hl := lv_entry ([.ref (ad 1), .ref (ad (pMe i1))]) (n := 4) (Nat.le_of_ble_eq_true rfl)
  rw [lg_entry_eq]
  generalize (lg_sl ([.ref (ad 1), .ref (ad (pMe i1))]) ++ List.replicate (4 - (lg_sl ([.ref (ad 1), .ref (ad (pMe i1))])).length) Slot.unset).toArray = ls at hl ⊢
  have hl : lv_has ls 4 [(0, .ref (ad 1)), (1, .ref (ad (pMe i1)))] := hl
  have CF : CallFix p m c cX2_readAfter 4 s ([.ref (ad 1), .ref (ad (pMe i1))] : List Value).toArray wsX2_readAfter RX2 := ⟨hx, hb, hml, hown, hts⟩
  have ht : ∀ w ∈ T0, w.before ([.ref (ad 1), .ref (ad (pMe i1))] : List Value).toArray s = true := fun w h => hts w (List.mem_cons_of_mem _ h)
  generalize hT : M_readAfter σ i1 = T
  rw [M_readAfter] at hT
  refine lv_aload_n hx hb dX2_readAfter_0 rfl (lv_at hl 0 rfl) ?_
  refine lv_iconst (v := 0) hx hb dX2_readAfter_1 (by decide) ?_
  refine lv_bipush (v := 11) hx hb dX2_readAfter_2 (by decide) ?_
  refine kB_i (va_runV (As := [.int 0, .int 11]) (rest := []) CF (k_readNumber l D ad kk _ σ 0 11 hIc) ⟨callB_of 2 hts (gT mw_315) rfl rfl rfl (ht _ mw_2) (ht _ mw_312) (by decide +kernel) ⟨Nat.le_of_ble_eq_true rfl, Nat.le_of_ble_eq_true rfl⟩, (ht _ mw_314), (ht _ ms_5)⟩ (preV_B hK hP hD hE hS (ci := 2) rfl rfl g_Pad) rfl rfl hl.1 rfl (lv_room (Nat.le_of_ble_eq_true rfl)) dX2_readAfter_4 ⟨Nat.le_of_ble_eq_true rfl, Nat.le_of_ble_eq_true rfl⟩) hS (fun r1 σ2 H locs hw hP hD hS => ?_)
  rw [← hw, pb_mk] at hT
  have h_r1 := hw
  have hn := num_in (N := 12) hIc h_r1 (by decide) (by decide) (by decide)
  have hIc := IP.num hIc h_r1
  refine lv_istore_n (lv' := [(2, .int r1), (0, .ref (ad 1)), (1, .ref (ad (pMe i1)))]) hx hb dX2_readAfter_7 rfl hl (by decide) rfl (fun ls hl => ?_)
  refine lv_iload_n hx hb dX2_readAfter_8 rfl (lv_at hl 0 rfl) ?_
  refine lv_iconst (v := (-1)) hx hb dX2_readAfter_9 (by decide) ?_
  refine lv_icmp_eq (tgt := 22) hx hb dX2_readAfter_10 (by decide) (fun c3 => ?_) (fun c3 => ?_)
  · rw [if_pos c3] at hT
    refine lv_iconst (v := 0) hx hb dX2_readAfter_22 (by decide) ?_
    exact W.zret (v := 0) hx hb hr rfl (fun t ht hW => ⟨⟨0, σ2, rfl, hT, by rw [ht]; exact hP, va_K.moved hW.alike hK, hD⟩, hS.F ht⟩) hS.2.2 dX2_readAfter_23
  · rw [if_neg c3] at hT
    have hne := c3
    refine lv_aload_n hx hb dX2_readAfter_13 rfl (lv_at hl 1 rfl) ?_
    refine lv_bipush (v := 58) hx hb dX2_readAfter_14 (by decide) ?_
    refine kB_i (va_runV (As := [.int 58]) (rest := []) CF (k_take l D ad kk _ σ2 58 hIc) ⟨callB_of 1 hts (gT mw_299) rfl rfl rfl (ht _ mw_2) (ht _ mw_296) (by decide +kernel) ⟨Nat.le_of_ble_eq_true rfl, Nat.le_of_ble_eq_true rfl⟩, (ht _ mw_298), (ht _ ms_1)⟩ (preV_B hK hP hD hE hS (ci := 2) rfl rfl g_Pad) rfl rfl hl.1 rfl (lv_room (Nat.le_of_ble_eq_true rfl)) dX2_readAfter_16 ⟨Nat.le_of_ble_eq_true rfl, Nat.le_of_ble_eq_true rfl⟩) hS (fun r4 σ5 H locs hw hP hD hS => ?_)
    rw [← hw, pb_mk] at hT
    have h_r4 := hw
    have hIc := IP.take hIc h_r4
    refine lv_if_ne (tgt := 24) hx hb dX2_readAfter_19 (by decide) (fun c6 => ?_) (fun c6 => ?_)
    · rw [if_neg c6] at hT
      refine lv_aload_n hx hb dX2_readAfter_24 rfl (lv_at hl 1 rfl) ?_
      refine lv_iconst (v := 0) hx hb dX2_readAfter_25 (by decide) ?_
      refine lv_sipush (v := 9999) hx hb dX2_readAfter_26 (by decide) ?_
      refine kB_i (va_runV (As := [.int 0, .int 9999]) (rest := []) CF (k_readNumber l D ad kk _ σ5 0 9999 hIc) ⟨callB_of 2 hts (gT mw_315) rfl rfl rfl (ht _ mw_2) (ht _ mw_312) (by decide +kernel) ⟨Nat.le_of_ble_eq_true rfl, Nat.le_of_ble_eq_true rfl⟩, (ht _ mw_314), (ht _ ms_5)⟩ (preV_B hK hP hD hE hS (ci := 2) rfl rfl g_Pad) rfl rfl hl.1 rfl (lv_room (Nat.le_of_ble_eq_true rfl)) dX2_readAfter_29 ⟨Nat.le_of_ble_eq_true rfl, Nat.le_of_ble_eq_true rfl⟩) hS (fun r7 σ8 H locs hw hP hD hS => ?_)
      rw [← hw, pb_mk] at hT
      have h_r7 := hw
      refine lv_istore_n (lv' := [(3, .int r7), (2, .int r1), (0, .ref (ad 1)), (1, .ref (ad (pMe i1)))]) hx hb dX2_readAfter_32 rfl hl (by decide) rfl (fun ls hl => ?_)
      refine lv_iload_n hx hb dX2_readAfter_33 rfl (lv_at hl 0 rfl) ?_
      refine lv_iconst (v := (-1)) hx hb dX2_readAfter_34 (by decide) ?_
      refine lv_icmp_ne (tgt := 40) hx hb dX2_readAfter_35 (by decide) (fun c9 => ?_) (fun c9 => ?_)
      · rw [if_neg c9] at hT
        refine lv_aload_n hx hb dX2_readAfter_40 rfl (lv_at hl 3 rfl) ?_
        refine lv_aload_n hx hb dX2_readAfter_41 rfl (lv_at hl 3 rfl) ?_
        refine va_get (D := D) (ci := 1) (v := .int (gF σ8 (pMe i1) 4)) (C := RX1) (T := TX1) (N := 9) hx hb ht inX1 hown hK hP (pMe i1) (g_Me h1) rfl 4 (by decide) (ht _ mw_64) (fun _ h9 => h9) rfl dX2_readAfter_42 ?_
        refine lv_iload_n hx hb dX2_readAfter_45 rfl (lv_at hl 1 rfl) ?_
        refine lv_iconst (v := 1) hx hb dX2_readAfter_46 (by decide) ?_
        refine vp_callSi ((va_runSN (As := [.int (gF σ8 (pMe i1) 4), .int r1, .int 1]) (rest := [.ref (ad (pMe i1))]) CF (k_with l (gF σ8 (pMe i1) 4) r1 1) ⟨va_cnB (host := "MaterialBars") 3 hts (gT mw_325) rfl rfl rfl (hE.nest (own := RX2) (k := 61) (y := yX4_with) (host := "MaterialBars") (by decide +kernel)) (ht _ mw_1) (by decide +kernel) ⟨Nat.le_of_ble_eq_true rfl, Nat.le_of_ble_eq_true rfl⟩, (ht _ mw_324), trivial⟩ preEq rfl rfl hl.1 rfl (lv_room (Nat.le_of_ble_eq_true rfl)) dX2_readAfter_47 ⟨Nat.le_of_ble_eq_true rfl, Nat.le_of_ble_eq_true rfl⟩).run) (fun r10 h_r10 => ?_)
        obtain rfl := h_r10
        refine va_put (D := D) (ci := 1) (v := .int (M_with (gF σ8 (pMe i1) 4) r1 1)) (ty := .int) (C := RX1) (T := TX1) (N := 9) hx hb ht inX1 tyX1 tyX1_ok nmX1 hown hK hP hD hS (pMe i1) (g_Me h1) rfl 4 (by decide) (ht _ mw_64) (fun _ h9 => h9) rfl (by decide +kernel) rfl rfl (Nat.le_of_ble_eq_true rfl) dX2_readAfter_50 (fun H locs hP hD hS => ?_)
        rw [s_Me_4 h1] at hP hD
        refine lv_aload_n hx hb dX2_readAfter_53 rfl (lv_at hl 3 rfl) ?_
        refine va_get (D := D) (ci := 1) (v := .ref (ad (pMe i1 + 2))) (C := RX1) (T := TX1) (N := 9) hx hb ht inX1 hown hK hP (pMe i1) (g_Me h1) rfl 1 (by decide) (ht _ mw_55) (fun _ h9 => h9) rfl dX2_readAfter_54 ?_
        refine lv_iload_n hx hb dX2_readAfter_57 rfl (lv_at hl 1 rfl) ?_
        refine lv_aload_n hx hb dX2_readAfter_58 rfl (lv_at hl 3 rfl) ?_
        refine va_get (D := D) (ci := 1) (v := .ref (ad (pMe i1 + 2))) (C := RX1) (T := TX1) (N := 9) hx hb ht inX1 hown hK hP (pMe i1) (g_Me h1) rfl 1 (by decide) (ht _ mw_55) (fun _ h9 => h9) rfl dX2_readAfter_59 ?_
        refine lv_iload_n hx hb dX2_readAfter_62 rfl (lv_at hl 1 rfl) ?_
        refine va_iald (i := r1) hx hb hK hP (pMe i1 + 2) 0 (g_Mh h1) rfl (hn hne) dX2_readAfter_63 ?_
        refine lv_iload_n hx hb dX2_readAfter_64 rfl (lv_at hl 0 rfl) ?_
        refine va_mmax hx hb (hml.trans hl.1.symm) hown (ht _ mw_334) (ht _ mw_335) (ht _ mw_12) (ht _ mw_336) (Nat.le_of_ble_eq_true rfl) (Nat.le_of_ble_eq_true rfl) (Nat.le_of_ble_eq_true rfl) (Nat.le_of_ble_eq_true rfl) dX2_readAfter_65 ?_
        refine va_iast (i := r1) (x := if (gA (sF σ8 (pMe i1) 4 (M_with (gF σ8 (pMe i1) 4) r1 1)) (pMe i1 + 2) r1.toNatClampNeg) < r7 then r7 else (gA (sF σ8 (pMe i1) 4 (M_with (gF σ8 (pMe i1) 4) r1 1)) (pMe i1 + 2) r1.toNatClampNeg)) hx hb hK hP hD hS (pMe i1 + 2) 0 (g_Mh h1) rfl (hn hne) dX2_readAfter_68 (fun H locs hP hD hS => ?_)
        rw [s_Mh h1] at hP hD
        refine lv_iconst (v := 1) hx hb dX2_readAfter_69 (by decide) ?_
        exact W.zret (v := 1) hx hb hr rfl (fun t ht hW => ⟨⟨1, (sA (sF σ8 (pMe i1) 4 (M_with (gF σ8 (pMe i1) 4) r1 1)) (pMe i1 + 2) r1.toNatClampNeg (if (gA (sF σ8 (pMe i1) 4 (M_with (gF σ8 (pMe i1) 4) r1 1)) (pMe i1 + 2) r1.toNatClampNeg) < r7 then r7 else (gA (sF σ8 (pMe i1) 4 (M_with (gF σ8 (pMe i1) 4) r1 1)) (pMe i1 + 2) r1.toNatClampNeg))), rfl, hT, by rw [ht]; exact hP, va_K.moved hW.alike hK, hD⟩, hS.F ht⟩) hS.2.2 dX2_readAfter_70
      · rw [if_pos c9] at hT
        refine lv_iconst (v := 0) hx hb dX2_readAfter_38 (by decide) ?_
        exact W.zret (v := 0) hx hb hr rfl (fun t ht hW => ⟨⟨0, σ8, rfl, hT, by rw [ht]; exact hP, va_K.moved hW.alike hK, hD⟩, hS.F ht⟩) hS.2.2 dX2_readAfter_39
    · rw [if_pos c6] at hT
      refine lv_iconst (v := 0) hx hb dX2_readAfter_22 (by decide) ?_
      exact W.zret (v := 0) hx hb hr rfl (fun t ht hW => ⟨⟨0, σ5, rfl, hT, by rw [ht]; exact hP, va_K.moved hW.alike hK, hD⟩, hS.F ht⟩) hS.2.2 dX2_readAfter_23
set_option maxHeartbeats 4000000 in
set_option maxRecDepth 100000 in
theorem k_readClause (l : Launch) (D : va_G) (ad : Nat → Nat) (kk : Nat → ClassId) (sz : Nat) (σ : St) (i1 : Nat) (h1 : i1 < 12) (hIc : IP σ) : Met l yX2_readClause wsX2_readClause { frames := 3, cells := 0, slots := 0, locals := 68 } (va_Pc [.ref (ad 1), .ref (ad (pMe i1))] (PB D ad kk sz σ)) (va_Qi (fun r u => (r, u) = M_readClause σ i1) (QB D ad kk sz) (aL 96 ad sz)) 0 0 (aL 96 ad sz) := by
  refine Met.ofW (cc := cX2_readClause) (maxL := 2) (ret := (some .boolean)) (by decide) rfl ?_
  intro p e s m args below meth c s₁ B hml hv
  obtain ⟨rfl, hsz, hP, hK, hD0, hE⟩ := hv
  have hx := B.exec
  have hb := B.bytes
  have hr := B.returns
  have hts := atoms_spec (ws := wsX2_readClause) B.pre
  have hown : s.vm.findClass RX2 = some m.cls := findClass_of_methodNamed B.named
  have hlocks := B.notSynchronized
  subst hsz
  have hD : va_D (aL 96 ad s.heap.size) (wB ad kk σ) := aL_D hD0
  have hS : va_S (aL 96 ad s.heap.size) s.heap s.heap [] := va_S.rf
  have hl := lv_entry ([.ref (ad 1), .ref (ad (pMe i1))]) (n := 2) (Nat.le_of_ble_eq_true rfl)
  rw [lg_entry_eq]
  generalize (lg_sl ([.ref (ad 1), .ref (ad (pMe i1))]) ++ List.replicate (2 - (lg_sl ([.ref (ad 1), .ref (ad (pMe i1))])).length) Slot.unset).toArray = ls at hl ⊢
  have hl : lv_has ls 2 [(0, .ref (ad 1)), (1, .ref (ad (pMe i1)))] := hl
  have CF : CallFix p m c cX2_readClause 2 s ([.ref (ad 1), .ref (ad (pMe i1))] : List Value).toArray wsX2_readClause RX2 := ⟨hx, hb, hml, hown, hts⟩
  have ht : ∀ w ∈ T0, w.before ([.ref (ad 1), .ref (ad (pMe i1))] : List Value).toArray s = true := fun w h => hts w (List.mem_cons_of_mem _ h)
  generalize hT : M_readClause σ i1 = T
  rw [M_readClause] at hT
  refine lv_aload_n hx hb dX2_readClause_0 rfl (lv_at hl 0 rfl) ?_
  refine lv_bipush (v := 117) hx hb dX2_readClause_1 (by decide) ?_
  refine kB_i (va_runV (As := [.int 117]) (rest := []) CF (k_take l D ad kk _ σ 117 hIc) ⟨callB_of 1 hts (gT mw_299) rfl rfl rfl (ht _ mw_2) (ht _ mw_296) (by decide +kernel) ⟨Nat.le_of_ble_eq_true rfl, Nat.le_of_ble_eq_true rfl⟩, (ht _ mw_298), (ht _ ms_1)⟩ (preV_B hK hP hD hE hS (ci := 2) rfl rfl g_Pad) rfl rfl hl.1 rfl (lv_room (Nat.le_of_ble_eq_true rfl)) dX2_readClause_3 ⟨Nat.le_of_ble_eq_true rfl, Nat.le_of_ble_eq_true rfl⟩) hS (fun r1 σ2 H locs hw hP hD hS => ?_)
  rw [← hw, pb_mk] at hT
  have h_r1 := hw
  have hIc := IP.take hIc h_r1
  refine lv_if_eq (tgt := 15) hx hb dX2_readClause_6 (by decide) (fun c3 => ?_) (fun c3 => ?_)
  · rw [if_pos c3] at hT
    refine lv_aload_n hx hb dX2_readClause_15 rfl (lv_at hl 0 rfl) ?_
    refine lv_bipush (v := 98) hx hb dX2_readClause_16 (by decide) ?_
    refine kB_i (va_runV (As := [.int 98]) (rest := []) CF (k_take l D ad kk _ σ2 98 hIc) ⟨callB_of 1 hts (gT mw_299) rfl rfl rfl (ht _ mw_2) (ht _ mw_296) (by decide +kernel) ⟨Nat.le_of_ble_eq_true rfl, Nat.le_of_ble_eq_true rfl⟩, (ht _ mw_298), (ht _ ms_1)⟩ (preV_B hK hP hD hE hS (ci := 2) rfl rfl g_Pad) rfl rfl hl.1 rfl (lv_room (Nat.le_of_ble_eq_true rfl)) dX2_readClause_18 ⟨Nat.le_of_ble_eq_true rfl, Nat.le_of_ble_eq_true rfl⟩) hS (fun r4 σ5 H locs hw hP hD hS => ?_)
    rw [← hw, pb_mk] at hT
    have h_r4 := hw
    have hIc := IP.take hIc h_r4
    refine lv_if_eq (tgt := 30) hx hb dX2_readClause_21 (by decide) (fun c6 => ?_) (fun c6 => ?_)
    · rw [if_pos c6] at hT
      refine lv_aload_n hx hb dX2_readClause_30 rfl (lv_at hl 0 rfl) ?_
      refine lv_bipush (v := 120) hx hb dX2_readClause_31 (by decide) ?_
      refine kB_i (va_runV (As := [.int 120]) (rest := []) CF (k_take l D ad kk _ σ5 120 hIc) ⟨callB_of 1 hts (gT mw_299) rfl rfl rfl (ht _ mw_2) (ht _ mw_296) (by decide +kernel) ⟨Nat.le_of_ble_eq_true rfl, Nat.le_of_ble_eq_true rfl⟩, (ht _ mw_298), (ht _ ms_1)⟩ (preV_B hK hP hD hE hS (ci := 2) rfl rfl g_Pad) rfl rfl hl.1 rfl (lv_room (Nat.le_of_ble_eq_true rfl)) dX2_readClause_33 ⟨Nat.le_of_ble_eq_true rfl, Nat.le_of_ble_eq_true rfl⟩) hS (fun r7 σ8 H locs hw hP hD hS => ?_)
      rw [← hw, pb_mk] at hT
      have h_r7 := hw
      have hIc := IP.take hIc h_r7
      refine lv_if_eq (tgt := 45) hx hb dX2_readClause_36 (by decide) (fun c9 => ?_) (fun c9 => ?_)
      · rw [if_pos c9] at hT
        refine lv_aload_n hx hb dX2_readClause_45 rfl (lv_at hl 0 rfl) ?_
        refine lv_bipush (v := 97) hx hb dX2_readClause_46 (by decide) ?_
        refine kB_i (va_runV (As := [.int 97]) (rest := []) CF (k_take l D ad kk _ σ8 97 hIc) ⟨callB_of 1 hts (gT mw_299) rfl rfl rfl (ht _ mw_2) (ht _ mw_296) (by decide +kernel) ⟨Nat.le_of_ble_eq_true rfl, Nat.le_of_ble_eq_true rfl⟩, (ht _ mw_298), (ht _ ms_1)⟩ (preV_B hK hP hD hE hS (ci := 2) rfl rfl g_Pad) rfl rfl hl.1 rfl (lv_room (Nat.le_of_ble_eq_true rfl)) dX2_readClause_48 ⟨Nat.le_of_ble_eq_true rfl, Nat.le_of_ble_eq_true rfl⟩) hS (fun r10 σ11 H locs hw hP hD hS => ?_)
        rw [← hw, pb_mk] at hT
        have h_r10 := hw
        have hIc := IP.take hIc h_r10
        refine lv_if_eq (tgt := 60) hx hb dX2_readClause_51 (by decide) (fun c12 => ?_) (fun c12 => ?_)
        · rw [if_pos c12] at hT
          refine lv_aload_n hx hb dX2_readClause_60 rfl (lv_at hl 0 rfl) ?_
          refine lv_bipush (v := 116) hx hb dX2_readClause_61 (by decide) ?_
          refine kB_i (va_runV (As := [.int 116]) (rest := []) CF (k_take l D ad kk _ σ11 116 hIc) ⟨callB_of 1 hts (gT mw_299) rfl rfl rfl (ht _ mw_2) (ht _ mw_296) (by decide +kernel) ⟨Nat.le_of_ble_eq_true rfl, Nat.le_of_ble_eq_true rfl⟩, (ht _ mw_298), (ht _ ms_1)⟩ (preV_B hK hP hD hE hS (ci := 2) rfl rfl g_Pad) rfl rfl hl.1 rfl (lv_room (Nat.le_of_ble_eq_true rfl)) dX2_readClause_63 ⟨Nat.le_of_ble_eq_true rfl, Nat.le_of_ble_eq_true rfl⟩) hS (fun r13 σ14 H locs hw hP hD hS => ?_)
          rw [← hw, pb_mk] at hT
          have h_r13 := hw
          have hIc := IP.take hIc h_r13
          refine lv_if_eq (tgt := 76) hx hb dX2_readClause_66 (by decide) (fun c15 => ?_) (fun c15 => ?_)
          · rw [if_pos c15] at hT
            refine lv_aload_n hx hb dX2_readClause_76 rfl (lv_at hl 0 rfl) ?_
            refine lv_bipush (v := 105) hx hb dX2_readClause_77 (by decide) ?_
            refine kB_i (va_runV (As := [.int 105]) (rest := []) CF (k_take l D ad kk _ σ14 105 hIc) ⟨callB_of 1 hts (gT mw_299) rfl rfl rfl (ht _ mw_2) (ht _ mw_296) (by decide +kernel) ⟨Nat.le_of_ble_eq_true rfl, Nat.le_of_ble_eq_true rfl⟩, (ht _ mw_298), (ht _ ms_1)⟩ (preV_B hK hP hD hE hS (ci := 2) rfl rfl g_Pad) rfl rfl hl.1 rfl (lv_room (Nat.le_of_ble_eq_true rfl)) dX2_readClause_79 ⟨Nat.le_of_ble_eq_true rfl, Nat.le_of_ble_eq_true rfl⟩) hS (fun r16 σ17 H locs hw hP hD hS => ?_)
            rw [← hw, pb_mk] at hT
            have h_r16 := hw
            have hIc := IP.take hIc h_r16
            refine lv_if_eq (tgt := 92) hx hb dX2_readClause_82 (by decide) (fun c18 => ?_) (fun c18 => ?_)
            · rw [if_pos c18] at hT
              refine lv_iconst (v := 0) hx hb dX2_readClause_92 (by decide) ?_
              exact W.zret (v := 0) hx hb hr rfl (fun t ht hW => ⟨⟨0, σ17, rfl, hT, by rw [ht]; exact hP, va_K.moved hW.alike hK, hD⟩, hS.F ht⟩) hS.2.2 dX2_readClause_93
            · rw [if_neg c18] at hT
              refine lv_aload_n hx hb dX2_readClause_85 rfl (lv_at hl 1 rfl) ?_
              refine lv_iconst (v := 1) hx hb dX2_readClause_86 (by decide) ?_
              refine va_put (D := D) (ci := 1) (v := .int 1) (ty := .boolean) (C := RX1) (T := TX1) (N := 9) hx hb ht inX1 tyX1 tyX1_ok nmX1 hown hK hP hD hS (pMe i1) (g_Me h1) rfl 6 (by decide) (ht _ mw_70) (fun _ h9 => h9) rfl (by decide +kernel) rfl rfl (Nat.le_of_ble_eq_true rfl) dX2_readClause_87 (fun H locs hP hD hS => ?_)
              rw [s_Me_6 h1] at hP hD
              refine lv_iconst (v := 1) hx hb dX2_readClause_90 (by decide) ?_
              exact W.zret (v := 1) hx hb hr rfl (fun t ht hW => ⟨⟨1, (sF σ17 (pMe i1) 6 1), rfl, hT, by rw [ht]; exact hP, va_K.moved hW.alike hK, hD⟩, hS.F ht⟩) hS.2.2 dX2_readClause_91
          · rw [if_neg c15] at hT
            refine lv_aload_n hx hb dX2_readClause_69 rfl (lv_at hl 1 rfl) ?_
            refine lv_iconst (v := 1) hx hb dX2_readClause_70 (by decide) ?_
            refine va_put (D := D) (ci := 1) (v := .int 1) (ty := .boolean) (C := RX1) (T := TX1) (N := 9) hx hb ht inX1 tyX1 tyX1_ok nmX1 hown hK hP hD hS (pMe i1) (g_Me h1) rfl 5 (by decide) (ht _ mw_67) (fun _ h9 => h9) rfl (by decide +kernel) rfl rfl (Nat.le_of_ble_eq_true rfl) dX2_readClause_71 (fun H locs hP hD hS => ?_)
            rw [s_Me_5 h1] at hP hD
            refine lv_iconst (v := 1) hx hb dX2_readClause_74 (by decide) ?_
            exact W.zret (v := 1) hx hb hr rfl (fun t ht hW => ⟨⟨1, (sF σ14 (pMe i1) 5 1), rfl, hT, by rw [ht]; exact hP, va_K.moved hW.alike hK, hD⟩, hS.F ht⟩) hS.2.2 dX2_readClause_75
        · rw [if_neg c12] at hT
          refine lv_aload_n hx hb dX2_readClause_54 rfl (lv_at hl 0 rfl) ?_
          refine lv_aload_n hx hb dX2_readClause_55 rfl (lv_at hl 1 rfl) ?_
          refine kB_i (va_runV (As := [.ref (ad (pMe i1))]) (rest := []) CF (k_readAfter l D ad kk _ σ11 i1 h1 hIc) ⟨callB_of 1 hts (gT mw_333) rfl rfl rfl (ht _ mw_2) (ht _ mw_330) (by decide +kernel) ⟨Nat.le_of_ble_eq_true rfl, Nat.le_of_ble_eq_true rfl⟩, (ht _ mw_332), (ht _ ms_8)⟩ (preV_B hK hP hD hE hS (ci := 2) rfl rfl g_Pad) rfl rfl hl.1 rfl (lv_room (Nat.le_of_ble_eq_true rfl)) dX2_readClause_56 ⟨Nat.le_of_ble_eq_true rfl, Nat.le_of_ble_eq_true rfl⟩) hS (fun r19 σ20 H locs hw hP hD hS => ?_)
          rw [← hw, pb_mk] at hT
          have h_r19 := hw
          have h01 := (IP.after hIc h_r19).2
          exact W.zret (v := r19) hx hb hr (nb01 h01) (fun t ht hW => ⟨⟨r19, σ20, rfl, hT, by rw [ht]; exact hP, va_K.moved hW.alike hK, hD⟩, hS.F ht⟩) hS.2.2 dX2_readClause_59
      · rw [if_neg c9] at hT
        refine lv_aload_n hx hb dX2_readClause_39 rfl (lv_at hl 0 rfl) ?_
        refine lv_aload_n hx hb dX2_readClause_40 rfl (lv_at hl 1 rfl) ?_
        refine kB_i (va_runV (As := [.ref (ad (pMe i1))]) (rest := []) CF (k_readNotBehind l D ad kk _ σ8 i1 h1 hIc) ⟨callB_of 1 hts (gT mw_329) rfl rfl rfl (ht _ mw_2) (ht _ mw_326) (by decide +kernel) ⟨Nat.le_of_ble_eq_true rfl, Nat.le_of_ble_eq_true rfl⟩, (ht _ mw_328), (ht _ ms_7)⟩ (preV_B hK hP hD hE hS (ci := 2) rfl rfl g_Pad) rfl rfl hl.1 rfl (lv_room (Nat.le_of_ble_eq_true rfl)) dX2_readClause_41 ⟨Nat.le_of_ble_eq_true rfl, Nat.le_of_ble_eq_true rfl⟩) hS (fun r21 σ22 H locs hw hP hD hS => ?_)
        rw [← hw, pb_mk] at hT
        have h_r21 := hw
        have h01 := (IP.notBehind hIc h_r21).2
        exact W.zret (v := r21) hx hb hr (nb01 h01) (fun t ht hW => ⟨⟨r21, σ22, rfl, hT, by rw [ht]; exact hP, va_K.moved hW.alike hK, hD⟩, hS.F ht⟩) hS.2.2 dX2_readClause_44
    · rw [if_neg c6] at hT
      refine lv_aload_n hx hb dX2_readClause_24 rfl (lv_at hl 0 rfl) ?_
      refine lv_aload_n hx hb dX2_readClause_25 rfl (lv_at hl 1 rfl) ?_
      refine kB_i (va_runV (As := [.ref (ad (pMe i1))]) (rest := []) CF (k_readBar l D ad kk _ σ5 i1 h1 hIc) ⟨callB_of 1 hts (gT mw_322) rfl rfl rfl (ht _ mw_2) (ht _ mw_319) (by decide +kernel) ⟨Nat.le_of_ble_eq_true rfl, Nat.le_of_ble_eq_true rfl⟩, (ht _ mw_321), (ht _ ms_6)⟩ (preV_B hK hP hD hE hS (ci := 2) rfl rfl g_Pad) rfl rfl hl.1 rfl (lv_room (Nat.le_of_ble_eq_true rfl)) dX2_readClause_26 ⟨Nat.le_of_ble_eq_true rfl, Nat.le_of_ble_eq_true rfl⟩) hS (fun r23 σ24 H locs hw hP hD hS => ?_)
      rw [← hw, pb_mk] at hT
      have h_r23 := hw
      have h01 := (IP.bar hIc h_r23).2
      exact W.zret (v := r23) hx hb hr (nb01 h01) (fun t ht hW => ⟨⟨r23, σ24, rfl, hT, by rw [ht]; exact hP, va_K.moved hW.alike hK, hD⟩, hS.F ht⟩) hS.2.2 dX2_readClause_29
  · rw [if_neg c3] at hT
    refine lv_aload_n hx hb dX2_readClause_9 rfl (lv_at hl 0 rfl) ?_
    refine lv_aload_n hx hb dX2_readClause_10 rfl (lv_at hl 1 rfl) ?_
    refine kB_i (va_runV (As := [.ref (ad (pMe i1))]) (rest := []) CF (k_readUse l D ad kk _ σ2 i1 h1 hIc) ⟨callB_of 1 hts (gT mw_311) rfl rfl rfl (ht _ mw_2) (ht _ mw_308) (by decide +kernel) ⟨Nat.le_of_ble_eq_true rfl, Nat.le_of_ble_eq_true rfl⟩, (ht _ mw_310), (ht _ ms_4)⟩ (preV_B hK hP hD hE hS (ci := 2) rfl rfl g_Pad) rfl rfl hl.1 rfl (lv_room (Nat.le_of_ble_eq_true rfl)) dX2_readClause_11 ⟨Nat.le_of_ble_eq_true rfl, Nat.le_of_ble_eq_true rfl⟩) hS (fun r25 σ26 H locs hw hP hD hS => ?_)
    rw [← hw, pb_mk] at hT
    have h_r25 := hw
    have h01 := (IP.use hIc h_r25).2
    exact W.zret (v := r25) hx hb hr (nb01 h01) (fun t ht hW => ⟨⟨r25, σ26, rfl, hT, by rw [ht]; exact hP, va_K.moved hW.alike hK, hD⟩, hS.F ht⟩) hS.2.2 dX2_readClause_14
set_option maxHeartbeats 4000000 in
set_option maxRecDepth 100000 in
theorem k_readText (l : Launch) (D : va_G) (ad : Nat → Nat) (kk : Nat → ClassId) (sz : Nat) (σ : St) (i1 : Nat) (h1 : i1 < 12) (hIc : IP σ) : Met l yX2_readText wsX2_readText { frames := 4, cells := 0, slots := 0, locals := 89 } (va_Pc [.ref (ad 1), .ref (ad (pMe i1))] (PB D ad kk sz σ)) (va_Qi (fun r u => (r, u) = M_readText σ i1) (QB D ad kk sz) (aL 96 ad sz)) 0 0 (aL 96 ad sz) := by
  refine Met.ofW (cc := cX2_readText) (maxL := 3) (ret := (some .boolean)) (by decide) rfl ?_
  intro p e s m args below meth c s₁ B hml hv
  obtain ⟨rfl, hsz, hP, hK, hD0, hE⟩ := hv
  have hx := B.exec
  have hb := B.bytes
  have hr := B.returns
  have hts := atoms_spec (ws := wsX2_readText) B.pre
  have hown : s.vm.findClass RX2 = some m.cls := findClass_of_methodNamed B.named
  have hlocks := B.notSynchronized
  subst hsz
  have hD : va_D (aL 96 ad s.heap.size) (wB ad kk σ) := aL_D hD0
  have hS : va_S (aL 96 ad s.heap.size) s.heap s.heap [] := va_S.rf
  have hl := lv_entry ([.ref (ad 1), .ref (ad (pMe i1))]) (n := 3) (Nat.le_of_ble_eq_true rfl)
  rw [lg_entry_eq]
  generalize (lg_sl ([.ref (ad 1), .ref (ad (pMe i1))]) ++ List.replicate (3 - (lg_sl ([.ref (ad 1), .ref (ad (pMe i1))])).length) Slot.unset).toArray = ls at hl ⊢
  have hl : lv_has ls 3 [(0, .ref (ad 1)), (1, .ref (ad (pMe i1)))] := hl
  have CF : CallFix p m c cX2_readText 3 s ([.ref (ad 1), .ref (ad (pMe i1))] : List Value).toArray wsX2_readText RX2 := ⟨hx, hb, hml, hown, hts⟩
  have ht : ∀ w ∈ T0, w.before ([.ref (ad 1), .ref (ad (pMe i1))] : List Value).toArray s = true := fun w h => hts w (List.mem_cons_of_mem _ h)
  generalize hT : M_readText σ i1 = T
  refine namedQ (fun Q eQ => ?_)
  have L_16 : ∀ (n i116 : Nat) (τ16 : St) (H : Heap) (locs : List Loc) (ls : Array Slot), i116 ≤ 10 → 11 ≤ i116 + n → IP τ16 → va_P D vwCl (wB ad kk τ16) H → va_D (aL 96 ad s.heap.size) (wB ad kk τ16) → va_S (aL 96 ad s.heap.size) s.heap H locs → lv_has ls 3 [(0, .ref (ad 1)), (1, .ref (ad (pMe i1))), (2, .int (nI i116))] → M_readText_h16 n i116 τ16 i1 = T → W p l e (headSpec wsX2_readText { frames := 4, cells := 0, slots := 0, locals := 89 }).room s m ([.ref (ad 1), .ref (ad (pMe i1))] : List Value).toArray below meth c H locs 0 0 Q (F0 m 16 ls []) := by
    intro n
    induction n with
    | zero =>
      intro i116 τ16 H locs ls h_le h_fu hv0 hP hD hS hl hT
      exact absurd h_fu (by omega)
    | succ n ih =>
      intro i116 τ16 H locs ls h_le h_fu hv0 hP hD hS hl hT
      rw [M_readText_h16] at hT
      have hIc := hv0
      refine lv_iload_n hx hb dX2_readText_16 rfl (lv_at hl 2 rfl) ?_
      refine lv_bipush (v := 10) hx hb dX2_readText_17 (by decide) ?_
      refine lv_icmp_ge (tgt := 66) hx hb dX2_readText_19 (by decide) (fun c2 => ?_) (fun c2 => ?_)
      · rw [if_pos c2] at hT
        refine lv_iconst (v := 0) hx hb dX2_readText_66 (by decide) ?_
        rw [eQ]
        exact W.zret (v := 0) hx hb hr rfl (fun t ht hW => ⟨⟨0, τ16, rfl, hT, by rw [ht]; exact hP, va_K.moved hW.alike hK, hD⟩, hS.F ht⟩) hS.2.2 dX2_readText_67
      · rw [if_neg c2] at hT
        have h_lt := lp_lt (N := 10) (by decide) (by decide) h_le c2
        refine lv_iload_n hx hb dX2_readText_22 rfl (lv_at hl 2 rfl) ?_
        refine lv_if_le (tgt := 37) hx hb dX2_readText_23 (by decide) (fun c3 => ?_) (fun c3 => ?_)
        · rw [if_pos c3] at hT
          refine lv_aload_n hx hb dX2_readText_37 rfl (lv_at hl 0 rfl) ?_
          refine lv_aload_n hx hb dX2_readText_38 rfl (lv_at hl 1 rfl) ?_
          refine kB_i (va_runV (As := [.ref (ad (pMe i1))]) (rest := []) CF (k_readClause l D ad kk _ τ16 i1 h1 hIc) ⟨callB_of 1 hts (gT mw_307) rfl rfl rfl (ht _ mw_2) (ht _ mw_304) (by decide +kernel) ⟨Nat.le_of_ble_eq_true rfl, Nat.le_of_ble_eq_true rfl⟩, (ht _ mw_306), (ht _ ms_3)⟩ (preV_B hK hP hD hE hS (ci := 2) rfl rfl g_Pad) rfl rfl hl.1 rfl (lv_room (Nat.le_of_ble_eq_true rfl)) dX2_readText_39 ⟨Nat.le_of_ble_eq_true rfl, Nat.le_of_ble_eq_true rfl⟩) hS (fun r4 σ5 H locs hw hP hD hS => ?_)
          rw [← hw, pb_mk] at hT
          have h_r4 := hw
          have hIc := (IP.clause hIc h_r4).1
          refine lv_if_ne (tgt := 47) hx hb dX2_readText_42 (by decide) (fun c6 => ?_) (fun c6 => ?_)
          · rw [if_neg c6] at hT
            refine lv_aload_n hx hb dX2_readText_47 rfl (lv_at hl 0 rfl) ?_
            refine va_get (D := D) (ci := 2) (v := .int (gF σ5 1 2)) (C := RX2) (T := TX2) (N := 3) hx hb ht inX2 hown hK hP 1 g_Pad rfl 2 (by decide) (ht _ mw_34) (fun _ h9 => h9) rfl dX2_readText_48 ?_
            refine lv_aload_n hx hb dX2_readText_51 rfl (lv_at hl 0 rfl) ?_
            refine va_get (D := D) (ci := 2) (v := .int (gF σ5 1 1)) (C := RX2) (T := TX2) (N := 3) hx hb ht inX2 hown hK hP 1 g_Pad rfl 1 (by decide) (ht _ mw_33) (fun _ h9 => h9) rfl dX2_readText_52 ?_
            refine lv_icmp_lt (tgt := 60) hx hb dX2_readText_55 (by decide) (fun c7 => ?_) (fun c7 => ?_)
            · rw [if_pos c7] at hT
              refine lv_iinc (v := nI (i116 + 1)) (lv' := [(2, .int (nI (i116 + 1))), (0, .ref (ad 1)), (1, .ref (ad (pMe i1)))]) hx hb dX2_readText_60 hl (k := 2) rfl (nI_1 i116) (by decide) rfl (fun ls hl => ?_)
              refine lv_goto (tgt := 16) hx hb dX2_readText_63 (by decide) ?_
              exact ih  (i116 + 1) σ5 _ _ ls h_lt (by omega) hIc hP hD hS (lv_sub hl [1, 2, 0] rfl) hT
            · rw [if_neg c7] at hT
              refine lv_iconst (v := 1) hx hb dX2_readText_58 (by decide) ?_
              rw [eQ]
              exact W.zret (v := 1) hx hb hr rfl (fun t ht hW => ⟨⟨1, σ5, rfl, hT, by rw [ht]; exact hP, va_K.moved hW.alike hK, hD⟩, hS.F ht⟩) hS.2.2 dX2_readText_59
          · rw [if_pos c6] at hT
            refine lv_iconst (v := 0) hx hb dX2_readText_45 (by decide) ?_
            rw [eQ]
            exact W.zret (v := 0) hx hb hr rfl (fun t ht hW => ⟨⟨0, σ5, rfl, hT, by rw [ht]; exact hP, va_K.moved hW.alike hK, hD⟩, hS.F ht⟩) hS.2.2 dX2_readText_46
        · rw [if_neg c3] at hT
          refine lv_aload_n hx hb dX2_readText_26 rfl (lv_at hl 0 rfl) ?_
          refine lv_bipush (v := 44) hx hb dX2_readText_27 (by decide) ?_
          refine kB_i (va_runV (As := [.int 44]) (rest := []) CF (k_take l D ad kk _ τ16 44 hIc) ⟨callB_of 1 hts (gT mw_299) rfl rfl rfl (ht _ mw_2) (ht _ mw_296) (by decide +kernel) ⟨Nat.le_of_ble_eq_true rfl, Nat.le_of_ble_eq_true rfl⟩, (ht _ mw_298), (ht _ ms_1)⟩ (preV_B hK hP hD hE hS (ci := 2) rfl rfl g_Pad) rfl rfl hl.1 rfl (lv_room (Nat.le_of_ble_eq_true rfl)) dX2_readText_29 ⟨Nat.le_of_ble_eq_true rfl, Nat.le_of_ble_eq_true rfl⟩) hS (fun r8 σ9 H locs hw hP hD hS => ?_)
          rw [← hw, pb_mk] at hT
          have h_r8 := hw
          have hIc := IP.take hIc h_r8
          refine lv_if_ne (tgt := 37) hx hb dX2_readText_32 (by decide) (fun c10 => ?_) (fun c10 => ?_)
          · rw [if_neg c10] at hT
            refine lv_aload_n hx hb dX2_readText_37 rfl (lv_at hl 0 rfl) ?_
            refine lv_aload_n hx hb dX2_readText_38 rfl (lv_at hl 1 rfl) ?_
            refine kB_i (va_runV (As := [.ref (ad (pMe i1))]) (rest := []) CF (k_readClause l D ad kk _ σ9 i1 h1 hIc) ⟨callB_of 1 hts (gT mw_307) rfl rfl rfl (ht _ mw_2) (ht _ mw_304) (by decide +kernel) ⟨Nat.le_of_ble_eq_true rfl, Nat.le_of_ble_eq_true rfl⟩, (ht _ mw_306), (ht _ ms_3)⟩ (preV_B hK hP hD hE hS (ci := 2) rfl rfl g_Pad) rfl rfl hl.1 rfl (lv_room (Nat.le_of_ble_eq_true rfl)) dX2_readText_39 ⟨Nat.le_of_ble_eq_true rfl, Nat.le_of_ble_eq_true rfl⟩) hS (fun r11 σ12 H locs hw hP hD hS => ?_)
            rw [← hw, pb_mk] at hT
            have h_r11 := hw
            have hIc := (IP.clause hIc h_r11).1
            refine lv_if_ne (tgt := 47) hx hb dX2_readText_42 (by decide) (fun c13 => ?_) (fun c13 => ?_)
            · rw [if_neg c13] at hT
              refine lv_aload_n hx hb dX2_readText_47 rfl (lv_at hl 0 rfl) ?_
              refine va_get (D := D) (ci := 2) (v := .int (gF σ12 1 2)) (C := RX2) (T := TX2) (N := 3) hx hb ht inX2 hown hK hP 1 g_Pad rfl 2 (by decide) (ht _ mw_34) (fun _ h9 => h9) rfl dX2_readText_48 ?_
              refine lv_aload_n hx hb dX2_readText_51 rfl (lv_at hl 0 rfl) ?_
              refine va_get (D := D) (ci := 2) (v := .int (gF σ12 1 1)) (C := RX2) (T := TX2) (N := 3) hx hb ht inX2 hown hK hP 1 g_Pad rfl 1 (by decide) (ht _ mw_33) (fun _ h9 => h9) rfl dX2_readText_52 ?_
              refine lv_icmp_lt (tgt := 60) hx hb dX2_readText_55 (by decide) (fun c14 => ?_) (fun c14 => ?_)
              · rw [if_pos c14] at hT
                refine lv_iinc (v := nI (i116 + 1)) (lv' := [(2, .int (nI (i116 + 1))), (0, .ref (ad 1)), (1, .ref (ad (pMe i1)))]) hx hb dX2_readText_60 hl (k := 2) rfl (nI_1 i116) (by decide) rfl (fun ls hl => ?_)
                refine lv_goto (tgt := 16) hx hb dX2_readText_63 (by decide) ?_
                exact ih  (i116 + 1) σ12 _ _ ls h_lt (by omega) hIc hP hD hS (lv_sub hl [1, 2, 0] rfl) hT
              · rw [if_neg c14] at hT
                refine lv_iconst (v := 1) hx hb dX2_readText_58 (by decide) ?_
                rw [eQ]
                exact W.zret (v := 1) hx hb hr rfl (fun t ht hW => ⟨⟨1, σ12, rfl, hT, by rw [ht]; exact hP, va_K.moved hW.alike hK, hD⟩, hS.F ht⟩) hS.2.2 dX2_readText_59
            · rw [if_pos c13] at hT
              refine lv_iconst (v := 0) hx hb dX2_readText_45 (by decide) ?_
              rw [eQ]
              exact W.zret (v := 0) hx hb hr rfl (fun t ht hW => ⟨⟨0, σ12, rfl, hT, by rw [ht]; exact hP, va_K.moved hW.alike hK, hD⟩, hS.F ht⟩) hS.2.2 dX2_readText_46
          · rw [if_pos c10] at hT
            refine lv_iconst (v := 0) hx hb dX2_readText_35 (by decide) ?_
            rw [eQ]
            exact W.zret (v := 0) hx hb hr rfl (fun t ht hW => ⟨⟨0, σ9, rfl, hT, by rw [ht]; exact hP, va_K.moved hW.alike hK, hD⟩, hS.F ht⟩) hS.2.2 dX2_readText_36
  rw [M_readText] at hT
  refine lv_aload_n hx hb dX2_readText_0 rfl (lv_at hl 0 rfl) ?_
  refine lv_iconst (v := 0) hx hb dX2_readText_1 (by decide) ?_
  refine va_put (D := D) (ci := 2) (v := .int 0) (ty := .int) (C := RX2) (T := TX2) (N := 3) hx hb ht inX2 tyX2 tyX2_ok nmX2 hown hK hP hD hS 1 g_Pad rfl 2 (by decide) (ht _ mw_34) (fun _ h9 => h9) rfl (by decide +kernel) rfl rfl (Nat.le_of_ble_eq_true rfl) dX2_readText_2 (fun H locs hP hD hS => ?_)
  rw [s_Pad_2] at hP hD
  refine lv_aload_n hx hb dX2_readText_5 rfl (lv_at hl 0 rfl) ?_
  refine va_get (D := D) (ci := 2) (v := .int (gF (sF σ 1 2 0) 1 1)) (C := RX2) (T := TX2) (N := 3) hx hb ht inX2 hown hK hP 1 g_Pad rfl 1 (by decide) (ht _ mw_33) (fun _ h9 => h9) rfl dX2_readText_6 ?_
  refine lv_if_ne (tgt := 14) hx hb dX2_readText_9 (by decide) (fun c1 => ?_) (fun c1 => ?_)
  · rw [if_neg c1] at hT
    refine lv_iconst (v := 0) hx hb dX2_readText_14 (by decide) ?_
    refine lv_istore_n (lv' := [(2, .int 0), (0, .ref (ad 1)), (1, .ref (ad (pMe i1)))]) hx hb dX2_readText_15 rfl hl (by decide) rfl (fun ls hl => ?_)
    exact L_16 11 0 (sF σ 1 2 0) _ _ ls (Nat.zero_le _) (by decide) (IP.zero hIc) hP hD hS (lv_sub hl [1, 2, 0] rfl) hT
  · rw [if_pos c1] at hT
    refine lv_iconst (v := 1) hx hb dX2_readText_12 (by decide) ?_
    rw [eQ]
    exact W.zret (v := 1) hx hb hr rfl (fun t ht hW => ⟨⟨1, (sF σ 1 2 0), rfl, hT, by rw [ht]; exact hP, va_K.moved hW.alike hK, hD⟩, hS.F ht⟩) hS.2.2 dX2_readText_13

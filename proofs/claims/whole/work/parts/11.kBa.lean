set_option maxHeartbeats 4000000 in
set_option maxRecDepth 100000 in
theorem k_has (l : Launch) (p0 : Int32) (p1 : Int32) : Met l yX4_has wsX4_has { frames := 0, cells := 0, slots := 0, locals := 0 } (fun v _ => v = ([.int p0, .int p1] : List Value).toArray) (vp_Si (fun r => r = (M_has p0 p1))) 0 0 (fun _ => False) := by
  refine Met.ofW (cc := cX4_has) (maxL := 2) (ret := (some .boolean)) (by decide) rfl ?_
  intro p e s m args below meth c s₁ B hml hv
  obtain rfl := hv
  have hx := B.exec
  have hb := B.bytes
  have hr := B.returns
  have hts := atoms_spec (ws := wsX4_has) B.pre
  have hown : s.vm.findClass RX4 = some m.cls := findClass_of_methodNamed B.named
  have hlocks := B.notSynchronized
  have hl := lv_entry ([.int p0, .int p1]) (n := 2) (Nat.le_of_ble_eq_true rfl)
  rw [lg_entry_eq]
  generalize (lg_sl ([.int p0, .int p1]) ++ List.replicate (2 - (lg_sl ([.int p0, .int p1])).length) Slot.unset).toArray = ls at hl ⊢
  have hl : lv_has ls 2 [(0, .int p0), (1, .int p1)] := hl
  have CF : CallFix p m c cX4_has 2 s ([.int p0, .int p1] : List Value).toArray wsX4_has RX4 := ⟨hx, hb, hml, hown, hts⟩
  have ht : ∀ w ∈ T0, w.before ([.int p0, .int p1] : List Value).toArray s = true := fun w h => hts w (List.mem_cons_of_mem _ h)
  generalize hT : M_has p0 p1 = T
  rw [M_has] at hT
  refine lv_iload_n hx hb dX4_has_0 rfl (lv_at hl 0 rfl) ?_
  refine lv_iload_n hx hb dX4_has_1 rfl (lv_at hl 1 rfl) ?_
  refine lv_iushr hx hb dX4_has_2 rfl ?_
  refine lv_iconst (v := 1) hx hb dX4_has_3 (by decide) ?_
  refine lv_iand hx hb dX4_has_4 ?_
  refine lv_iconst (v := 1) hx hb dX4_has_5 (by decide) ?_
  refine lv_icmp_ne (tgt := 13) hx hb dX4_has_6 (by decide) (fun c1 => ?_) (fun c1 => ?_)
  · rw [if_neg c1] at hT
    refine lv_iconst (v := 0) hx hb dX4_has_13 (by decide) ?_
    exact W.zret (v := 0) hx hb hr rfl (fun t ht hW => ⟨0, rfl, hT, ht⟩) t_nil dX4_has_14
  · rw [if_pos c1] at hT
    refine lv_iconst (v := 1) hx hb dX4_has_9 (by decide) ?_
    refine lv_goto (tgt := 14) hx hb dX4_has_10 (by decide) ?_
    exact W.zret (v := 1) hx hb hr rfl (fun t ht hW => ⟨1, rfl, hT, ht⟩) t_nil dX4_has_14
set_option maxHeartbeats 4000000 in
set_option maxRecDepth 100000 in
theorem k_with (l : Launch) (p0 : Int32) (p1 : Int32) (p2 : Int32) : Met l yX4_with wsX4_with { frames := 0, cells := 0, slots := 0, locals := 0 } (fun v _ => v = ([.int p0, .int p1, .int p2] : List Value).toArray) (vp_Si (fun r => r = (M_with p0 p1 p2))) 0 0 (fun _ => False) := by
  refine Met.ofW (cc := cX4_with) (maxL := 3) (ret := (some .int)) (by decide) rfl ?_
  intro p e s m args below meth c s₁ B hml hv
  obtain rfl := hv
  have hx := B.exec
  have hb := B.bytes
  have hr := B.returns
  have hts := atoms_spec (ws := wsX4_with) B.pre
  have hown : s.vm.findClass RX4 = some m.cls := findClass_of_methodNamed B.named
  have hlocks := B.notSynchronized
  have hl := lv_entry ([.int p0, .int p1, .int p2]) (n := 3) (Nat.le_of_ble_eq_true rfl)
  rw [lg_entry_eq]
  generalize (lg_sl ([.int p0, .int p1, .int p2]) ++ List.replicate (3 - (lg_sl ([.int p0, .int p1, .int p2])).length) Slot.unset).toArray = ls at hl ⊢
  have hl : lv_has ls 3 [(0, .int p0), (1, .int p1), (2, .int p2)] := hl
  have CF : CallFix p m c cX4_with 3 s ([.int p0, .int p1, .int p2] : List Value).toArray wsX4_with RX4 := ⟨hx, hb, hml, hown, hts⟩
  have ht : ∀ w ∈ T0, w.before ([.int p0, .int p1, .int p2] : List Value).toArray s = true := fun w h => hts w (List.mem_cons_of_mem _ h)
  generalize hT : M_with p0 p1 p2 = T
  rw [M_with] at hT
  refine lv_iload_n hx hb dX4_with_0 rfl (lv_at hl 2 rfl) ?_
  refine lv_if_eq (tgt := 12) hx hb dX4_with_1 (by decide) (fun c1 => ?_) (fun c1 => ?_)
  · rw [if_pos c1] at hT
    refine lv_iload_n hx hb dX4_with_12 rfl (lv_at hl 0 rfl) ?_
    refine lv_iconst (v := 1) hx hb dX4_with_13 (by decide) ?_
    refine lv_iload_n hx hb dX4_with_14 rfl (lv_at hl 1 rfl) ?_
    refine lv_ishl hx hb dX4_with_15 ?_
    refine lv_iconst (v := (-1)) hx hb dX4_with_16 (by decide) ?_
    refine lv_ixor hx hb dX4_with_17 ?_
    refine lv_iand hx hb dX4_with_18 ?_
    exact W.iret (v := p0 &&& (((1 : Int32) <<< (p1 &&& 31)) ^^^ (-1))) hx hb hr (fun t ht hW => ⟨p0 &&& (((1 : Int32) <<< (p1 &&& 31)) ^^^ (-1)), rfl, hT, ht⟩) t_nil dX4_with_19
  · rw [if_neg c1] at hT
    refine lv_iload_n hx hb dX4_with_4 rfl (lv_at hl 0 rfl) ?_
    refine lv_iconst (v := 1) hx hb dX4_with_5 (by decide) ?_
    refine lv_iload_n hx hb dX4_with_6 rfl (lv_at hl 1 rfl) ?_
    refine lv_ishl hx hb dX4_with_7 ?_
    refine lv_ior hx hb dX4_with_8 ?_
    refine lv_goto (tgt := 19) hx hb dX4_with_9 (by decide) ?_
    exact W.iret (v := p0 ||| ((1 : Int32) <<< (p1 &&& 31))) hx hb hr (fun t ht hW => ⟨p0 ||| ((1 : Int32) <<< (p1 &&& 31)), rfl, hT, ht⟩) t_nil dX4_with_19
set_option maxHeartbeats 4000000 in
set_option maxRecDepth 100000 in
theorem k_lowest (l : Launch) (p0 : Int32) : Met l yX4_lowest wsX4_lowest { frames := 1, cells := 0, slots := 0, locals := 21 } (fun v _ => v = ([.int p0] : List Value).toArray) (vp_Si (fun r => r = (M_lowest p0))) 0 0 (fun _ => False) := by
  refine Met.ofW (cc := cX4_lowest) (maxL := 2) (ret := (some .int)) (by decide) rfl ?_
  intro p e s m args below meth c s₁ B hml hv
  obtain rfl := hv
  have hx := B.exec
  have hb := B.bytes
  have hr := B.returns
  have hts := atoms_spec (ws := wsX4_lowest) B.pre
  have hown : s.vm.findClass RX4 = some m.cls := findClass_of_methodNamed B.named
  have hlocks := B.notSynchronized
  have hl := lv_entry ([.int p0]) (n := 2) (Nat.le_of_ble_eq_true rfl)
  rw [lg_entry_eq]
  generalize (lg_sl ([.int p0]) ++ List.replicate (2 - (lg_sl ([.int p0])).length) Slot.unset).toArray = ls at hl ⊢
  have hl : lv_has ls 2 [(0, .int p0)] := hl
  have CF : CallFix p m c cX4_lowest 2 s ([.int p0] : List Value).toArray wsX4_lowest RX4 := ⟨hx, hb, hml, hown, hts⟩
  have ht : ∀ w ∈ T0, w.before ([.int p0] : List Value).toArray s = true := fun w h => hts w (List.mem_cons_of_mem _ h)
  generalize hT : M_lowest p0 = T
  refine namedQ (fun Q eQ => ?_)
  have L_2 : ∀ (n i102 : Nat) (ls : Array Slot), i102 ≤ 12 → 13 ≤ i102 + n → lv_has ls 2 [(0, .int p0), (1, .int (nI i102))] → M_lowest_h2 n i102 p0 = T → W p l e (headSpec wsX4_lowest { frames := 1, cells := 0, slots := 0, locals := 21 }).room s m ([.int p0] : List Value).toArray below meth c s.heap [] 0 0 Q (F0 m 2 ls []) := by
    intro n
    induction n with
    | zero =>
      intro i102 ls h_le h_fu hl hT
      exact absurd h_fu (by omega)
    | succ n ih =>
      intro i102 ls h_le h_fu hl hT
      rw [M_lowest_h2] at hT
      refine lv_iload_n hx hb dX4_lowest_2 rfl (lv_at hl 1 rfl) ?_
      refine lv_bipush (v := 12) hx hb dX4_lowest_3 (by decide) ?_
      refine lv_icmp_ge (tgt := 24) hx hb dX4_lowest_5 (by decide) (fun c1 => ?_) (fun c1 => ?_)
      · rw [if_pos c1] at hT
        refine lv_iconst (v := (-1)) hx hb dX4_lowest_24 (by decide) ?_
        rw [eQ]
        exact W.iret (v := (-1)) hx hb hr (fun t ht hW => ⟨(-1), rfl, hT, ht⟩) t_nil dX4_lowest_25
      · rw [if_neg c1] at hT
        have h_lt := lp_lt (N := 12) (by decide) (by decide) h_le c1
        refine lv_iload_n hx hb dX4_lowest_8 rfl (lv_at hl 0 rfl) ?_
        refine lv_iload_n hx hb dX4_lowest_9 rfl (lv_at hl 1 rfl) ?_
        refine vp_callSi (W.runS (As := [.int p0, .int (nI i102)]) (rest := []) CF (k_has l p0 (nI i102)) ⟨callB_of 2 hts (gT mw_402) rfl rfl rfl (ht _ mw_1) (ht _ mw_400) (by decide +kernel) ⟨Nat.le_of_ble_eq_true rfl, Nat.le_of_ble_eq_true rfl⟩, (ht _ mw_401)⟩ preEq rfl rfl hl.1 rfl (lv_room (Nat.le_of_ble_eq_true rfl)) dX4_lowest_10 ⟨Nat.le_of_ble_eq_true rfl, Nat.le_of_ble_eq_true rfl⟩) (fun r2 h_r2 => ?_)
        obtain rfl := h_r2
        refine lv_if_eq (tgt := 18) hx hb dX4_lowest_13 (by decide) (fun c3 => ?_) (fun c3 => ?_)
        · rw [if_pos c3] at hT
          refine lv_iinc (v := nI (i102 + 1)) (lv' := [(1, .int (nI (i102 + 1))), (0, .int p0)]) hx hb dX4_lowest_18 hl (k := 1) rfl (nI_1 i102) (by decide) rfl (fun ls hl => ?_)
          refine lv_goto (tgt := 2) hx hb dX4_lowest_21 (by decide) ?_
          exact ih  (i102 + 1) ls h_lt (by omega) (lv_sub hl [1, 0] rfl) hT
        · rw [if_neg c3] at hT
          refine lv_iload_n hx hb dX4_lowest_16 rfl (lv_at hl 1 rfl) ?_
          rw [eQ]
          exact W.iret (v := nI i102) hx hb hr (fun t ht hW => ⟨nI i102, rfl, hT, ht⟩) t_nil dX4_lowest_17
  rw [M_lowest] at hT
  refine lv_iconst (v := 0) hx hb dX4_lowest_0 (by decide) ?_
  refine lv_istore_n (lv' := [(1, .int 0), (0, .int p0)]) hx hb dX4_lowest_1 rfl hl (by decide) rfl (fun ls hl => ?_)
  exact L_2 13 0 ls (Nat.zero_le _) (by decide) (lv_sub hl [1, 0] rfl) hT
set_option maxHeartbeats 4000000 in
set_option maxRecDepth 100000 in
theorem k_isDigit (l : Launch) (p0 : Int32) : Met l yX2_isDigit wsX2_isDigit { frames := 0, cells := 0, slots := 0, locals := 0 } (fun v _ => v = ([.int p0] : List Value).toArray) (vp_Si (fun r => r = (M_isDigit p0))) 0 0 (fun _ => False) := by
  refine Met.ofW (cc := cX2_isDigit) (maxL := 1) (ret := (some .boolean)) (by decide) rfl ?_
  intro p e s m args below meth c s₁ B hml hv
  obtain rfl := hv
  have hx := B.exec
  have hb := B.bytes
  have hr := B.returns
  have hts := atoms_spec (ws := wsX2_isDigit) B.pre
  have hown : s.vm.findClass RX2 = some m.cls := findClass_of_methodNamed B.named
  have hlocks := B.notSynchronized
  have hl := lv_entry ([.int p0]) (n := 1) (Nat.le_of_ble_eq_true rfl)
  rw [lg_entry_eq]
  generalize (lg_sl ([.int p0]) ++ List.replicate (1 - (lg_sl ([.int p0])).length) Slot.unset).toArray = ls at hl ⊢
  have hl : lv_has ls 1 [(0, .int p0)] := hl
  have CF : CallFix p m c cX2_isDigit 1 s ([.int p0] : List Value).toArray wsX2_isDigit RX2 := ⟨hx, hb, hml, hown, hts⟩
  have ht : ∀ w ∈ T0, w.before ([.int p0] : List Value).toArray s = true := fun w h => hts w (List.mem_cons_of_mem _ h)
  generalize hT : M_isDigit p0 = T
  rw [M_isDigit] at hT
  refine lv_iload_n hx hb dX2_isDigit_0 rfl (lv_at hl 0 rfl) ?_
  refine lv_bipush (v := 48) hx hb dX2_isDigit_1 (by decide) ?_
  refine lv_icmp_lt (tgt := 16) hx hb dX2_isDigit_3 (by decide) (fun c1 => ?_) (fun c1 => ?_)
  · rw [if_pos c1] at hT
    refine lv_iconst (v := 0) hx hb dX2_isDigit_16 (by decide) ?_
    exact W.zret (v := 0) hx hb hr rfl (fun t ht hW => ⟨0, rfl, hT, ht⟩) t_nil dX2_isDigit_17
  · rw [if_neg c1] at hT
    refine lv_iload_n hx hb dX2_isDigit_6 rfl (lv_at hl 0 rfl) ?_
    refine lv_bipush (v := 57) hx hb dX2_isDigit_7 (by decide) ?_
    refine lv_icmp_gt (tgt := 16) hx hb dX2_isDigit_9 (by decide) (fun c2 => ?_) (fun c2 => ?_)
    · rw [if_pos c2] at hT
      refine lv_iconst (v := 0) hx hb dX2_isDigit_16 (by decide) ?_
      exact W.zret (v := 0) hx hb hr rfl (fun t ht hW => ⟨0, rfl, hT, ht⟩) t_nil dX2_isDigit_17
    · rw [if_neg c2] at hT
      refine lv_iconst (v := 1) hx hb dX2_isDigit_12 (by decide) ?_
      refine lv_goto (tgt := 17) hx hb dX2_isDigit_13 (by decide) ?_
      exact W.zret (v := 1) hx hb hr rfl (fun t ht hW => ⟨1, rfl, hT, ht⟩) t_nil dX2_isDigit_17
set_option maxHeartbeats 4000000 in
set_option maxRecDepth 100000 in
theorem k_checkPlace (l : Launch) (hl9 : l.stackTraces = false) (D : va_G) (ad : Nat → Nat) (kk : Nat → ClassId) (sz : Nat) (σ : St) (p0 : Int32) (p1 : Int32) : vx_Met l yX4_checkPlace wsX4_checkPlace { frames := 6, cells := 1, slots := 6, locals := 90 } (va_Pc [.int p0, .int p1] (PB D ad kk sz σ)) (va_Qv (fun u => .ok () = M_checkPlace σ p0 p1 ∧ u = σ) (QB D ad kk sz) (aL 96 ad sz)) (XB (M_checkPlace σ p0 p1) D ad kk sz σ) 1 6 (aL 96 ad sz) := by
  refine vx_ofW (cc := cX4_checkPlace) (maxL := 2) (ret := none) (by decide) rfl ?_
  intro p e s m args below meth c s₁ B hml hEx hv
  obtain ⟨rfl, hsz, hP, hK, hD0, hE⟩ := hv
  have hx := B.exec
  have hb := B.bytes
  have hr := B.returns
  have hts := atoms_spec (ws := wsX4_checkPlace) B.pre
  have hown : s.vm.findClass RX4 = some m.cls := findClass_of_methodNamed B.named
  have hlocks := B.notSynchronized
  subst hsz
  have hD : va_D (aL 96 ad s.heap.size) (wB ad kk σ) := aL_D hD0
  have hS : va_S (aL 96 ad s.heap.size) s.heap s.heap [] := va_S.rf
  have hl := lv_entry ([.int p0, .int p1]) (n := 2) (Nat.le_of_ble_eq_true rfl)
  rw [lg_entry_eq]
  generalize (lg_sl ([.int p0, .int p1]) ++ List.replicate (2 - (lg_sl ([.int p0, .int p1])).length) Slot.unset).toArray = ls at hl ⊢
  have hl : lv_has ls 2 [(0, .int p0), (1, .int p1)] := hl
  have CF : CallFix p m c cX4_checkPlace 2 s ([.int p0, .int p1] : List Value).toArray wsX4_checkPlace RX4 := ⟨hx, hb, hml, hown, hts⟩
  have ht : ∀ w ∈ T0, w.before ([.int p0, .int p1] : List Value).toArray s = true := fun w h => hts w (List.mem_cons_of_mem _ h)
  generalize hT : M_checkPlace σ p0 p1 = T
  rw [M_checkPlace] at hT
  refine lv_iload_n hx hb dX4_checkPlace_0 rfl (lv_at hl 0 rfl) ?_
  refine lv_if_lt (tgt := 9) hx hb dX4_checkPlace_1 (by decide) (fun c1 => ?_) (fun c1 => ?_)
  · rw [if_pos c1] at hT
    exact vx_throwS (own := RX4) (cls := "java/lang/IndexOutOfBoundsException") (names := th_n) hx hb hl9 hown thf_IndexOutOfBoundsException thf_n (ht _ mw_352) (ht _ mw_13) (hE.str (own := RX4) (k := 223) (tx := "no such place") (by decide +kernel)).choose_spec (vx_hat (B := th_B "java/lang/IndexOutOfBoundsException") (fun w hw => ht w (thw_IndexOutOfBoundsException w hw)) thb_IndexOutOfBoundsException (hE.th (by decide +kernel))) (thg_IndexOutOfBoundsException _) hE.1 hE.2.1 hS (hl.1.trans hml.symm) dX4_checkPlace_9 dX4_checkPlace_12 dX4_checkPlace_13 dX4_checkPlace_15 dX4_checkPlace_18 (fun x hx => (hEx x hx).elim) (Nat.le_of_ble_eq_true rfl) (Nat.le_of_ble_eq_true rfl) (Nat.le_of_ble_eq_true rfl) (Nat.le_of_ble_eq_true rfl) hlocks (fun t ha hsz hk => xB_end hT hK hP hD hS ha hsz hk) hS.2.2 (by decide) (by decide)
  · rw [if_neg c1] at hT
    refine lv_iload_n hx hb dX4_checkPlace_4 rfl (lv_at hl 0 rfl) ?_
    refine lv_iload_n hx hb dX4_checkPlace_5 rfl (lv_at hl 1 rfl) ?_
    refine lv_icmp_lt (tgt := 19) hx hb dX4_checkPlace_6 (by decide) (fun c2 => ?_) (fun c2 => ?_)
    · rw [if_pos c2] at hT
      refine W.widen (k := 1) (n := 6) (by decide) (by decide) ?_
      exact vx_ret (W.vret hx hb hr (fun t ht hW => ⟨⟨σ, rfl, ⟨hT, rfl⟩, by rw [ht]; exact hP, va_K.moved hW.alike hK, hD⟩, hS.F ht⟩) hS.2.2 dX4_checkPlace_19)
    · rw [if_neg c2] at hT
      exact vx_throwS (own := RX4) (cls := "java/lang/IndexOutOfBoundsException") (names := th_n) hx hb hl9 hown thf_IndexOutOfBoundsException thf_n (ht _ mw_352) (ht _ mw_13) (hE.str (own := RX4) (k := 223) (tx := "no such place") (by decide +kernel)).choose_spec (vx_hat (B := th_B "java/lang/IndexOutOfBoundsException") (fun w hw => ht w (thw_IndexOutOfBoundsException w hw)) thb_IndexOutOfBoundsException (hE.th (by decide +kernel))) (thg_IndexOutOfBoundsException _) hE.1 hE.2.1 hS (hl.1.trans hml.symm) dX4_checkPlace_9 dX4_checkPlace_12 dX4_checkPlace_13 dX4_checkPlace_15 dX4_checkPlace_18 (fun x hx => (hEx x hx).elim) (Nat.le_of_ble_eq_true rfl) (Nat.le_of_ble_eq_true rfl) (Nat.le_of_ble_eq_true rfl) (Nat.le_of_ble_eq_true rfl) hlocks (fun t ha hsz hk => xB_end hT hK hP hD hS ha hsz hk) hS.2.2 (by decide) (by decide)
set_option maxHeartbeats 4000000 in
set_option maxRecDepth 100000 in
theorem k_checkHour (l : Launch) (hl9 : l.stackTraces = false) (D : va_G) (ad : Nat → Nat) (kk : Nat → ClassId) (sz : Nat) (σ : St) (p0 : Int32) (p1 : Int32) : vx_Met l yX4_checkHour wsX4_checkHour { frames := 6, cells := 1, slots := 6, locals := 90 } (va_Pc [.int p0, .int p1] (PB D ad kk sz σ)) (va_Qv (fun u => .ok () = M_checkHour σ p0 p1 ∧ u = σ) (QB D ad kk sz) (aL 96 ad sz)) (XB (M_checkHour σ p0 p1) D ad kk sz σ) 1 6 (aL 96 ad sz) := by
  refine vx_ofW (cc := cX4_checkHour) (maxL := 2) (ret := none) (by decide) rfl ?_
  intro p e s m args below meth c s₁ B hml hEx hv
  obtain ⟨rfl, hsz, hP, hK, hD0, hE⟩ := hv
  have hx := B.exec
  have hb := B.bytes
  have hr := B.returns
  have hts := atoms_spec (ws := wsX4_checkHour) B.pre
  have hown : s.vm.findClass RX4 = some m.cls := findClass_of_methodNamed B.named
  have hlocks := B.notSynchronized
  subst hsz
  have hD : va_D (aL 96 ad s.heap.size) (wB ad kk σ) := aL_D hD0
  have hS : va_S (aL 96 ad s.heap.size) s.heap s.heap [] := va_S.rf
  have hl := lv_entry ([.int p0, .int p1]) (n := 2) (Nat.le_of_ble_eq_true rfl)
  rw [lg_entry_eq]
  generalize (lg_sl ([.int p0, .int p1]) ++ List.replicate (2 - (lg_sl ([.int p0, .int p1])).length) Slot.unset).toArray = ls at hl ⊢
  have hl : lv_has ls 2 [(0, .int p0), (1, .int p1)] := hl
  have CF : CallFix p m c cX4_checkHour 2 s ([.int p0, .int p1] : List Value).toArray wsX4_checkHour RX4 := ⟨hx, hb, hml, hown, hts⟩
  have ht : ∀ w ∈ T0, w.before ([.int p0, .int p1] : List Value).toArray s = true := fun w h => hts w (List.mem_cons_of_mem _ h)
  generalize hT : M_checkHour σ p0 p1 = T
  rw [M_checkHour] at hT
  refine lv_iload_n hx hb dX4_checkHour_0 rfl (lv_at hl 0 rfl) ?_
  refine lv_iload_n hx hb dX4_checkHour_1 rfl (lv_at hl 1 rfl) ?_
  refine lv_icmp_lt (tgt := 11) hx hb dX4_checkHour_2 (by decide) (fun c1 => ?_) (fun c1 => ?_)
  · rw [if_pos c1] at hT
    exact vx_throwS (own := RX4) (cls := "java/lang/IllegalArgumentException") (names := th_n) hx hb hl9 hown thf_IllegalArgumentException thf_n (ht _ mw_264) (ht _ mw_11) (hE.str (own := RX4) (k := 225) (tx := "hour") (by decide +kernel)).choose_spec (vx_hat (B := th_B "java/lang/IllegalArgumentException") (fun w hw => ht w (thw_IllegalArgumentException w hw)) thb_IllegalArgumentException (hE.th (by decide +kernel))) (thg_IllegalArgumentException _) hE.1 hE.2.1 hS (hl.1.trans hml.symm) dX4_checkHour_11 dX4_checkHour_14 dX4_checkHour_15 dX4_checkHour_17 dX4_checkHour_20 (fun x hx => (hEx x hx).elim) (Nat.le_of_ble_eq_true rfl) (Nat.le_of_ble_eq_true rfl) (Nat.le_of_ble_eq_true rfl) (Nat.le_of_ble_eq_true rfl) hlocks (fun t ha hsz hk => xB_end hT hK hP hD hS ha hsz hk) hS.2.2 (by decide) (by decide)
  · rw [if_neg c1] at hT
    refine lv_iload_n hx hb dX4_checkHour_5 rfl (lv_at hl 0 rfl) ?_
    refine lv_ldc (v := 1000000) hx hb hown (ht _ mw_421) dX4_checkHour_6 ?_
    refine lv_icmp_le (tgt := 21) hx hb dX4_checkHour_8 (by decide) (fun c2 => ?_) (fun c2 => ?_)
    · rw [if_pos c2] at hT
      refine W.widen (k := 1) (n := 6) (by decide) (by decide) ?_
      exact vx_ret (W.vret hx hb hr (fun t ht hW => ⟨⟨σ, rfl, ⟨hT, rfl⟩, by rw [ht]; exact hP, va_K.moved hW.alike hK, hD⟩, hS.F ht⟩) hS.2.2 dX4_checkHour_21)
    · rw [if_neg c2] at hT
      exact vx_throwS (own := RX4) (cls := "java/lang/IllegalArgumentException") (names := th_n) hx hb hl9 hown thf_IllegalArgumentException thf_n (ht _ mw_264) (ht _ mw_11) (hE.str (own := RX4) (k := 225) (tx := "hour") (by decide +kernel)).choose_spec (vx_hat (B := th_B "java/lang/IllegalArgumentException") (fun w hw => ht w (thw_IllegalArgumentException w hw)) thb_IllegalArgumentException (hE.th (by decide +kernel))) (thg_IllegalArgumentException _) hE.1 hE.2.1 hS (hl.1.trans hml.symm) dX4_checkHour_11 dX4_checkHour_14 dX4_checkHour_15 dX4_checkHour_17 dX4_checkHour_20 (fun x hx => (hEx x hx).elim) (Nat.le_of_ble_eq_true rfl) (Nat.le_of_ble_eq_true rfl) (Nat.le_of_ble_eq_true rfl) (Nat.le_of_ble_eq_true rfl) hlocks (fun t ha hsz hk => xB_end hT hK hP hD hS ha hsz hk) hS.2.2 (by decide) (by decide)
set_option maxHeartbeats 4000000 in
set_option maxRecDepth 100000 in
theorem k_methodAt (l : Launch) (hl9 : l.stackTraces = false) (D : va_G) (ad : Nat → Nat) (kk : Nat → ClassId) (sz : Nat) (σ : St) (p1 : Int32) (hI : IB σ) : vx_Met l yX4_methodAt wsX4_methodAt { frames := 7, cells := 1, slots := 6, locals := 111 } (va_Pc [.ref (ad 0), .int p1] (PB D ad kk sz σ)) (va_Qq (fun r u => ∃ i, r = some (ad (pMe i)) ∧ .ok i = M_methodAt σ p1 ∧ u = σ) (QB D ad kk sz) (aL 96 ad sz)) (XB (M_methodAt σ p1) D ad kk sz σ) 1 6 (aL 96 ad sz) := by
  refine vx_ofW (cc := cX4_methodAt) (maxL := 2) (ret := (some (.object "MaterialBars$Method"))) (by decide) rfl ?_
  intro p e s m args below meth c s₁ B hml hEx hv
  obtain ⟨rfl, hsz, hP, hK, hD0, hE⟩ := hv
  have hx := B.exec
  have hb := B.bytes
  have hr := B.returns
  have hts := atoms_spec (ws := wsX4_methodAt) B.pre
  have hown : s.vm.findClass RX4 = some m.cls := findClass_of_methodNamed B.named
  have hlocks := B.notSynchronized
  subst hsz
  have hD : va_D (aL 96 ad s.heap.size) (wB ad kk σ) := aL_D hD0
  have hS : va_S (aL 96 ad s.heap.size) s.heap s.heap [] := va_S.rf
  have hl := lv_entry ([.ref (ad 0), .int p1]) (n := 2) (Nat.le_of_ble_eq_true rfl)
  rw [lg_entry_eq]
  generalize (lg_sl ([.ref (ad 0), .int p1]) ++ List.replicate (2 - (lg_sl ([.ref (ad 0), .int p1])).length) Slot.unset).toArray = ls at hl ⊢
  have hl : lv_has ls 2 [(0, .ref (ad 0)), (1, .int p1)] := hl
  have CF : CallFix p m c cX4_methodAt 2 s ([.ref (ad 0), .int p1] : List Value).toArray wsX4_methodAt RX4 := ⟨hx, hb, hml, hown, hts⟩
  have ht : ∀ w ∈ T0, w.before ([.ref (ad 0), .int p1] : List Value).toArray s = true := fun w h => hts w (List.mem_cons_of_mem _ h)
  generalize hT : M_methodAt σ p1 = T
  rw [M_methodAt] at hT
  refine lv_iload_n hx hb dX4_methodAt_0 rfl (lv_at hl 1 rfl) ?_
  refine lv_aload_n hx hb dX4_methodAt_1 rfl (lv_at hl 0 rfl) ?_
  refine va_get (D := D) (ci := 4) (v := .int (gF σ 0 6)) (C := RX4) (T := TX4) (N := 9) hx hb ht inX4 hown hK hP 0 g_MB rfl 6 (by decide) (ht _ mw_165) (fun _ h9 => h9) rfl dX4_methodAt_2 ?_
  refine kX_v (vx_runS (As := [.int p1, .int (gF σ 0 6)]) (rest := []) CF (k_checkPlace l hl9 D ad kk _ σ p1 (gF σ 0 6)) ⟨callB_of 2 hts (gT mw_351) rfl rfl rfl (ht _ mw_1) (ht _ mw_349) (by decide +kernel) ⟨Nat.le_of_ble_eq_true rfl, Nat.le_of_ble_eq_true rfl⟩, (ht _ mw_350)⟩ (preS_B hK hP hD hE hS) rfl rfl hl.1 rfl (lv_room (Nat.le_of_ble_eq_true rfl)) dX4_methodAt_5 ⟨Nat.le_of_ble_eq_true rfl, Nat.le_of_ble_eq_true rfl⟩) hS hEx hlocks (by decide) (by decide) (fun E h => by rw [← h, xb_er] at hT; exact hT) (fun u9 H locs hw hP hD hS => ?_)
  obtain ⟨h_r1, e9⟩ := hw
  rw [e9] at hP hD
  rw [← h_r1, xb_ok] at hT
  have hk := h_r1
  refine lv_aload_n hx hb dX4_methodAt_8 rfl (lv_at hl 0 rfl) ?_
  refine va_get (D := D) (ci := 4) (v := .ref (ad 3)) (C := RX4) (T := TX4) (N := 9) hx hb ht inX4 hown hK hP 0 g_MB rfl 1 (by decide) (ht _ mw_160) (fun _ h9 => h9) rfl dX4_methodAt_9 ?_
  refine lv_iload_n hx hb dX4_methodAt_12 rfl (lv_at hl 1 rfl) ?_
  refine va_aldq (i := p1) hx hb hK hP 3 1 g_methods rfl (vin_chk hk hI.mc) dX4_methodAt_13 ?_
  refine W.eq (g2 := F0 m 14 ls (.ref (ad (pMe p1.toNatClampNeg)) :: [])) rfl ?_
  exact vx_ret (W.aret (v := .ref (ad (pMe p1.toNatClampNeg))) hx hb hr (Or.inl ⟨_, rfl⟩) (Or.inr ⟨_, rfl⟩) (fun t ht hW => ⟨⟨some (ad (pMe p1.toNatClampNeg)), σ, rfl, ⟨p1.toNatClampNeg, rfl, hT, rfl⟩, by rw [ht]; exact hP, va_K.moved hW.alike hK, hD⟩, hS.F ht⟩) hS.2.2 dX4_methodAt_14)
set_option maxHeartbeats 4000000 in
set_option maxRecDepth 100000 in
theorem k_pieceAt (l : Launch) (hl9 : l.stackTraces = false) (D : va_G) (ad : Nat → Nat) (kk : Nat → ClassId) (sz : Nat) (σ : St) (p1 : Int32) (hI : IB σ) : vx_Met l yX4_pieceAt wsX4_pieceAt { frames := 7, cells := 1, slots := 6, locals := 111 } (va_Pc [.ref (ad 0), .int p1] (PB D ad kk sz σ)) (va_Qq (fun r u => ∃ i, r = some (ad (pPi i)) ∧ .ok i = M_pieceAt σ p1 ∧ u = σ) (QB D ad kk sz) (aL 96 ad sz)) (XB (M_pieceAt σ p1) D ad kk sz σ) 1 6 (aL 96 ad sz) := by
  refine vx_ofW (cc := cX4_pieceAt) (maxL := 2) (ret := (some (.object "MaterialBars$Piece"))) (by decide) rfl ?_
  intro p e s m args below meth c s₁ B hml hEx hv
  obtain ⟨rfl, hsz, hP, hK, hD0, hE⟩ := hv
  have hx := B.exec
  have hb := B.bytes
  have hr := B.returns
  have hts := atoms_spec (ws := wsX4_pieceAt) B.pre
  have hown : s.vm.findClass RX4 = some m.cls := findClass_of_methodNamed B.named
  have hlocks := B.notSynchronized
  subst hsz
  have hD : va_D (aL 96 ad s.heap.size) (wB ad kk σ) := aL_D hD0
  have hS : va_S (aL 96 ad s.heap.size) s.heap s.heap [] := va_S.rf
  have hl := lv_entry ([.ref (ad 0), .int p1]) (n := 2) (Nat.le_of_ble_eq_true rfl)
  rw [lg_entry_eq]
  generalize (lg_sl ([.ref (ad 0), .int p1]) ++ List.replicate (2 - (lg_sl ([.ref (ad 0), .int p1])).length) Slot.unset).toArray = ls at hl ⊢
  have hl : lv_has ls 2 [(0, .ref (ad 0)), (1, .int p1)] := hl
  have CF : CallFix p m c cX4_pieceAt 2 s ([.ref (ad 0), .int p1] : List Value).toArray wsX4_pieceAt RX4 := ⟨hx, hb, hml, hown, hts⟩
  have ht : ∀ w ∈ T0, w.before ([.ref (ad 0), .int p1] : List Value).toArray s = true := fun w h => hts w (List.mem_cons_of_mem _ h)
  generalize hT : M_pieceAt σ p1 = T
  rw [M_pieceAt] at hT
  refine lv_iload_n hx hb dX4_pieceAt_0 rfl (lv_at hl 1 rfl) ?_
  refine lv_aload_n hx hb dX4_pieceAt_1 rfl (lv_at hl 0 rfl) ?_
  refine va_get (D := D) (ci := 4) (v := .int (gF σ 0 7)) (C := RX4) (T := TX4) (N := 9) hx hb ht inX4 hown hK hP 0 g_MB rfl 7 (by decide) (ht _ mw_166) (fun _ h9 => h9) rfl dX4_pieceAt_2 ?_
  refine kX_v (vx_runS (As := [.int p1, .int (gF σ 0 7)]) (rest := []) CF (k_checkPlace l hl9 D ad kk _ σ p1 (gF σ 0 7)) ⟨callB_of 2 hts (gT mw_351) rfl rfl rfl (ht _ mw_1) (ht _ mw_349) (by decide +kernel) ⟨Nat.le_of_ble_eq_true rfl, Nat.le_of_ble_eq_true rfl⟩, (ht _ mw_350)⟩ (preS_B hK hP hD hE hS) rfl rfl hl.1 rfl (lv_room (Nat.le_of_ble_eq_true rfl)) dX4_pieceAt_5 ⟨Nat.le_of_ble_eq_true rfl, Nat.le_of_ble_eq_true rfl⟩) hS hEx hlocks (by decide) (by decide) (fun E h => by rw [← h, xb_er] at hT; exact hT) (fun u9 H locs hw hP hD hS => ?_)
  obtain ⟨h_r1, e9⟩ := hw
  rw [e9] at hP hD
  rw [← h_r1, xb_ok] at hT
  have hk := h_r1
  refine lv_aload_n hx hb dX4_pieceAt_8 rfl (lv_at hl 0 rfl) ?_
  refine va_get (D := D) (ci := 4) (v := .ref (ad 40)) (C := RX4) (T := TX4) (N := 9) hx hb ht inX4 hown hK hP 0 g_MB rfl 2 (by decide) (ht _ mw_161) (fun _ h9 => h9) rfl dX4_pieceAt_9 ?_
  refine lv_iload_n hx hb dX4_pieceAt_12 rfl (lv_at hl 1 rfl) ?_
  refine va_aldq (i := p1) hx hb hK hP 40 2 g_pieces rfl (vin_chk hk hI.pc) dX4_pieceAt_13 ?_
  refine W.eq (g2 := F0 m 14 ls (.ref (ad (pPi p1.toNatClampNeg)) :: [])) rfl ?_
  exact vx_ret (W.aret (v := .ref (ad (pPi p1.toNatClampNeg))) hx hb hr (Or.inl ⟨_, rfl⟩) (Or.inr ⟨_, rfl⟩) (fun t ht hW => ⟨⟨some (ad (pPi p1.toNatClampNeg)), σ, rfl, ⟨p1.toNatClampNeg, rfl, hT, rfl⟩, by rw [ht]; exact hP, va_K.moved hW.alike hK, hD⟩, hS.F ht⟩) hS.2.2 dX4_pieceAt_14)
set_option maxHeartbeats 4000000 in
set_option maxRecDepth 100000 in
theorem k_goodAt (l : Launch) (hl9 : l.stackTraces = false) (D : va_G) (ad : Nat → Nat) (kk : Nat → ClassId) (sz : Nat) (σ : St) (p1 : Int32) : vx_Met l yX4_goodAt wsX4_goodAt { frames := 7, cells := 1, slots := 6, locals := 111 } (va_Pc [.ref (ad 0), .int p1] (PB D ad kk sz σ)) (va_Qq (fun r u => ∃ i, r = some (ad (pGo i)) ∧ .ok i = M_goodAt σ p1 ∧ u = σ) (QB D ad kk sz) (aL 96 ad sz)) (XB (M_goodAt σ p1) D ad kk sz σ) 1 6 (aL 96 ad sz) := by
  refine vx_ofW (cc := cX4_goodAt) (maxL := 2) (ret := (some (.object "MaterialBars$Good"))) (by decide) rfl ?_
  intro p e s m args below meth c s₁ B hml hEx hv
  obtain ⟨rfl, hsz, hP, hK, hD0, hE⟩ := hv
  have hx := B.exec
  have hb := B.bytes
  have hr := B.returns
  have hts := atoms_spec (ws := wsX4_goodAt) B.pre
  have hown : s.vm.findClass RX4 = some m.cls := findClass_of_methodNamed B.named
  have hlocks := B.notSynchronized
  subst hsz
  have hD : va_D (aL 96 ad s.heap.size) (wB ad kk σ) := aL_D hD0
  have hS : va_S (aL 96 ad s.heap.size) s.heap s.heap [] := va_S.rf
  have hl := lv_entry ([.ref (ad 0), .int p1]) (n := 2) (Nat.le_of_ble_eq_true rfl)
  rw [lg_entry_eq]
  generalize (lg_sl ([.ref (ad 0), .int p1]) ++ List.replicate (2 - (lg_sl ([.ref (ad 0), .int p1])).length) Slot.unset).toArray = ls at hl ⊢
  have hl : lv_has ls 2 [(0, .ref (ad 0)), (1, .int p1)] := hl
  have CF : CallFix p m c cX4_goodAt 2 s ([.ref (ad 0), .int p1] : List Value).toArray wsX4_goodAt RX4 := ⟨hx, hb, hml, hown, hts⟩
  have ht : ∀ w ∈ T0, w.before ([.ref (ad 0), .int p1] : List Value).toArray s = true := fun w h => hts w (List.mem_cons_of_mem _ h)
  generalize hT : M_goodAt σ p1 = T
  rw [M_goodAt] at hT
  refine lv_iload_n hx hb dX4_goodAt_0 rfl (lv_at hl 1 rfl) ?_
  refine lv_bipush (v := 12) hx hb dX4_goodAt_1 (by decide) ?_
  refine kX_v (vx_runS (As := [.int p1, .int 12]) (rest := []) CF (k_checkPlace l hl9 D ad kk _ σ p1 12) ⟨callB_of 2 hts (gT mw_351) rfl rfl rfl (ht _ mw_1) (ht _ mw_349) (by decide +kernel) ⟨Nat.le_of_ble_eq_true rfl, Nat.le_of_ble_eq_true rfl⟩, (ht _ mw_350)⟩ (preS_B hK hP hD hE hS) rfl rfl hl.1 rfl (lv_room (Nat.le_of_ble_eq_true rfl)) dX4_goodAt_3 ⟨Nat.le_of_ble_eq_true rfl, Nat.le_of_ble_eq_true rfl⟩) hS hEx hlocks (by decide) (by decide) (fun E h => by rw [← h, xb_er] at hT; exact hT) (fun u9 H locs hw hP hD hS => ?_)
  obtain ⟨h_r1, e9⟩ := hw
  rw [e9] at hP hD
  rw [← h_r1, xb_ok] at hT
  have hk := h_r1
  refine lv_aload_n hx hb dX4_goodAt_6 rfl (lv_at hl 0 rfl) ?_
  refine va_get (D := D) (ci := 4) (v := .ref (ad 81)) (C := RX4) (T := TX4) (N := 9) hx hb ht inX4 hown hK hP 0 g_MB rfl 3 (by decide) (ht _ mw_162) (fun _ h9 => h9) rfl dX4_goodAt_7 ?_
  refine lv_iload_n hx hb dX4_goodAt_10 rfl (lv_at hl 1 rfl) ?_
  refine va_aldq (i := p1) hx hb hK hP 81 3 g_goods rfl (vin_chk (N := 12) hk (by decide)) dX4_goodAt_11 ?_
  refine W.eq (g2 := F0 m 12 ls (.ref (ad (pGo p1.toNatClampNeg)) :: [])) rfl ?_
  exact vx_ret (W.aret (v := .ref (ad (pGo p1.toNatClampNeg))) hx hb hr (Or.inl ⟨_, rfl⟩) (Or.inr ⟨_, rfl⟩) (fun t ht hW => ⟨⟨some (ad (pGo p1.toNatClampNeg)), σ, rfl, ⟨p1.toNatClampNeg, rfl, hT, rfl⟩, by rw [ht]; exact hP, va_K.moved hW.alike hK, hD⟩, hS.F ht⟩) hS.2.2 dX4_goodAt_12)
set_option maxHeartbeats 4000000 in
set_option maxRecDepth 100000 in
theorem k_changeBy (l : Launch) (D : va_G) (ad : Nat → Nat) (kk : Nat → ClassId) (sz : Nat) (σ : St) (i0 : Nat) (p1 : Int32) (h0 : i0 < 12) : Met l yX0_changeBy wsX0_changeBy { frames := 0, cells := 0, slots := 0, locals := 0 } (va_Pc [.ref (ad (pGo i0)), .int p1] (PB D ad kk sz σ)) (va_Qv (fun u => u = M_changeBy σ i0 p1) (QB D ad kk sz) (aL 96 ad sz)) 0 0 (aL 96 ad sz) := by
  refine Met.ofW (cc := cX0_changeBy) (maxL := 2) (ret := none) (by decide) rfl ?_
  intro p e s m args below meth c s₁ B hml hv
  obtain ⟨rfl, hsz, hP, hK, hD0, hE⟩ := hv
  have hx := B.exec
  have hb := B.bytes
  have hr := B.returns
  have hts := atoms_spec (ws := wsX0_changeBy) B.pre
  have hown : s.vm.findClass RX0 = some m.cls := findClass_of_methodNamed B.named
  have hlocks := B.notSynchronized
  subst hsz
  have hD : va_D (aL 96 ad s.heap.size) (wB ad kk σ) := aL_D hD0
  have hS : va_S (aL 96 ad s.heap.size) s.heap s.heap [] := va_S.rf
  have hl := lv_entry ([.ref (ad (pGo i0)), .int p1]) (n := 2) (Nat.le_of_ble_eq_true rfl)
  rw [lg_entry_eq]
  generalize (lg_sl ([.ref (ad (pGo i0)), .int p1]) ++ List.replicate (2 - (lg_sl ([.ref (ad (pGo i0)), .int p1])).length) Slot.unset).toArray = ls at hl ⊢
  have hl : lv_has ls 2 [(0, .ref (ad (pGo i0))), (1, .int p1)] := hl
  have CF : CallFix p m c cX0_changeBy 2 s ([.ref (ad (pGo i0)), .int p1] : List Value).toArray wsX0_changeBy RX0 := ⟨hx, hb, hml, hown, hts⟩
  have ht : ∀ w ∈ T0, w.before ([.ref (ad (pGo i0)), .int p1] : List Value).toArray s = true := fun w h => hts w (List.mem_cons_of_mem _ h)
  generalize hT : M_changeBy σ i0 p1 = T
  rw [M_changeBy] at hT
  refine lv_aload_n hx hb dX0_changeBy_0 rfl (lv_at hl 0 rfl) ?_
  refine lv_dup hx hb dX0_changeBy_1 rfl ?_
  refine va_get (D := D) (ci := 0) (v := .int (gF σ (pGo i0) 0)) (C := RX0) (T := TX0) (N := 5) hx hb ht inX0 hown hK hP (pGo i0) (g_Go h0) rfl 0 (by decide) (ht _ mw_139) (fun _ h9 => h9) rfl dX0_changeBy_2 ?_
  refine lv_iload_n hx hb dX0_changeBy_5 rfl (lv_at hl 1 rfl) ?_
  refine lv_iadd hx hb dX0_changeBy_6 ?_
  refine va_put (D := D) (ci := 0) (v := .int ((gF σ (pGo i0) 0) + p1)) (ty := .int) (C := RX0) (T := TX0) (N := 5) hx hb ht inX0 tyX0 tyX0_ok nmX0 hown hK hP hD hS (pGo i0) (g_Go h0) rfl 0 (by decide) (ht _ mw_139) (fun _ h9 => h9) rfl (by decide +kernel) rfl rfl (Nat.le_of_ble_eq_true rfl) dX0_changeBy_7 (fun H locs hP hD hS => ?_)
  rw [s_Go_0 h0] at hP hD
  refine lv_iload_n hx hb dX0_changeBy_10 rfl (lv_at hl 1 rfl) ?_
  refine lv_if_le (tgt := 28) hx hb dX0_changeBy_11 (by decide) (fun c1 => ?_) (fun c1 => ?_)
  · rw [if_pos c1] at hT
    refine lv_aload_n hx hb dX0_changeBy_28 rfl (lv_at hl 0 rfl) ?_
    refine lv_dup hx hb dX0_changeBy_29 rfl ?_
    refine va_get (D := D) (ci := 0) (v := .long (gL (sF σ (pGo i0) 0 ((gF σ (pGo i0) 0) + p1)) (pGo i0) 2)) (C := RX0) (T := TX0) (N := 5) hx hb ht inX0 hown hK hP (pGo i0) (g_Go h0) rfl 2 (by decide) (ht _ mw_143) (fun _ h9 => h9) rfl dX0_changeBy_30 ?_
    refine lv_iload_n hx hb dX0_changeBy_33 rfl (lv_at hl 1 rfl) ?_
    refine lv_i2l hx hb dX0_changeBy_34 rfl ?_
    refine lv_lsub hx hb dX0_changeBy_35 ?_
    refine va_put (D := D) (ci := 0) (v := .long ((gL (sF σ (pGo i0) 0 ((gF σ (pGo i0) 0) + p1)) (pGo i0) 2) - p1.toInt64)) (ty := .long) (C := RX0) (T := TX0) (N := 5) hx hb ht inX0 tyX0 tyX0_ok nmX0 hown hK hP hD hS (pGo i0) (g_Go h0) rfl 2 (by decide) (ht _ mw_143) (fun _ h9 => h9) rfl (by decide +kernel) rfl rfl (Nat.le_of_ble_eq_true rfl) dX0_changeBy_36 (fun H locs hP hD hS => ?_)
    rw [s_Go_2 h0] at hP hD
    exact W.vret hx hb hr (fun t ht hW => ⟨⟨(sL (sF σ (pGo i0) 0 ((gF σ (pGo i0) 0) + p1)) (pGo i0) 2 ((gL (sF σ (pGo i0) 0 ((gF σ (pGo i0) 0) + p1)) (pGo i0) 2) - p1.toInt64)), rfl, hT, by rw [ht]; exact hP, va_K.moved hW.alike hK, hD⟩, hS.F ht⟩) hS.2.2 dX0_changeBy_39
  · rw [if_neg c1] at hT
    refine lv_aload_n hx hb dX0_changeBy_14 rfl (lv_at hl 0 rfl) ?_
    refine lv_dup hx hb dX0_changeBy_15 rfl ?_
    refine va_get (D := D) (ci := 0) (v := .long (gL (sF σ (pGo i0) 0 ((gF σ (pGo i0) 0) + p1)) (pGo i0) 1)) (C := RX0) (T := TX0) (N := 5) hx hb ht inX0 hown hK hP (pGo i0) (g_Go h0) rfl 1 (by decide) (ht _ mw_141) (fun _ h9 => h9) rfl dX0_changeBy_16 ?_
    refine lv_iload_n hx hb dX0_changeBy_19 rfl (lv_at hl 1 rfl) ?_
    refine lv_i2l hx hb dX0_changeBy_20 rfl ?_
    refine lv_ladd hx hb dX0_changeBy_21 ?_
    refine va_put (D := D) (ci := 0) (v := .long ((gL (sF σ (pGo i0) 0 ((gF σ (pGo i0) 0) + p1)) (pGo i0) 1) + p1.toInt64)) (ty := .long) (C := RX0) (T := TX0) (N := 5) hx hb ht inX0 tyX0 tyX0_ok nmX0 hown hK hP hD hS (pGo i0) (g_Go h0) rfl 1 (by decide) (ht _ mw_141) (fun _ h9 => h9) rfl (by decide +kernel) rfl rfl (Nat.le_of_ble_eq_true rfl) dX0_changeBy_22 (fun H locs hP hD hS => ?_)
    rw [s_Go_1 h0] at hP hD
    refine lv_goto (tgt := 39) hx hb dX0_changeBy_25 (by decide) ?_
    exact W.vret hx hb hr (fun t ht hW => ⟨⟨(sL (sF σ (pGo i0) 0 ((gF σ (pGo i0) 0) + p1)) (pGo i0) 1 ((gL (sF σ (pGo i0) 0 ((gF σ (pGo i0) 0) + p1)) (pGo i0) 1) + p1.toInt64)), rfl, hT, by rw [ht]; exact hP, va_K.moved hW.alike hK, hD⟩, hS.F ht⟩) hS.2.2 dX0_changeBy_39
set_option maxHeartbeats 4000000 in
set_option maxRecDepth 100000 in
theorem k_clear (l : Launch) (D : va_G) (ad : Nat → Nat) (kk : Nat → ClassId) (sz : Nat) (σ : St) (i0 : Nat) (h0 : i0 < 12) : Met l yX1_clear wsX1_clear { frames := 0, cells := 0, slots := 0, locals := 0 } (va_Pc [.ref (ad (pMe i0))] (PB D ad kk sz σ)) (va_Qv (fun u => u = M_clear σ i0) (QB D ad kk sz) (aL 96 ad sz)) 0 0 (aL 96 ad sz) := by
  refine Met.ofW (cc := cX1_clear) (maxL := 2) (ret := none) (by decide) rfl ?_
  intro p e s m args below meth c s₁ B hml hv
  obtain ⟨rfl, hsz, hP, hK, hD0, hE⟩ := hv
  have hx := B.exec
  have hb := B.bytes
  have hr := B.returns
  have hts := atoms_spec (ws := wsX1_clear) B.pre
  have hown : s.vm.findClass RX1 = some m.cls := findClass_of_methodNamed B.named
  have hlocks := B.notSynchronized
  subst hsz
  have hD : va_D (aL 96 ad s.heap.size) (wB ad kk σ) := aL_D hD0
  have hS : va_S (aL 96 ad s.heap.size) s.heap s.heap [] := va_S.rf
  have hl := lv_entry ([.ref (ad (pMe i0))]) (n := 2) (Nat.le_of_ble_eq_true rfl)
  rw [lg_entry_eq]
  generalize (lg_sl ([.ref (ad (pMe i0))]) ++ List.replicate (2 - (lg_sl ([.ref (ad (pMe i0))])).length) Slot.unset).toArray = ls at hl ⊢
  have hl : lv_has ls 2 [(0, .ref (ad (pMe i0)))] := hl
  have CF : CallFix p m c cX1_clear 2 s ([.ref (ad (pMe i0))] : List Value).toArray wsX1_clear RX1 := ⟨hx, hb, hml, hown, hts⟩
  have ht : ∀ w ∈ T0, w.before ([.ref (ad (pMe i0))] : List Value).toArray s = true := fun w h => hts w (List.mem_cons_of_mem _ h)
  generalize hT : M_clear σ i0 = T
  refine namedQ (fun Q eQ => ?_)
  have L_23 : ∀ (n i123 : Nat) (τ23 : St) (H : Heap) (locs : List Loc) (ls : Array Slot), i123 ≤ 12 → 13 ≤ i123 + n → va_P D vwCl (wB ad kk τ23) H → va_D (aL 96 ad s.heap.size) (wB ad kk τ23) → va_S (aL 96 ad s.heap.size) s.heap H locs → lv_has ls 2 [(0, .ref (ad (pMe i0))), (1, .int (nI i123))] → M_clear_h23 n i123 τ23 i0 = T → W p l e (headSpec wsX1_clear { frames := 0, cells := 0, slots := 0, locals := 0 }).room s m ([.ref (ad (pMe i0))] : List Value).toArray below meth c H locs 0 0 Q (F0 m 23 ls []) := by
    intro n
    induction n with
    | zero =>
      intro i123 τ23 H locs ls h_le h_fu hP hD hS hl hT
      exact absurd h_fu (by omega)
    | succ n ih =>
      intro i123 τ23 H locs ls h_le h_fu hP hD hS hl hT
      rw [M_clear_h23] at hT
      refine lv_iload_n hx hb dX1_clear_23 rfl (lv_at hl 1 rfl) ?_
      refine lv_bipush (v := 12) hx hb dX1_clear_24 (by decide) ?_
      refine lv_icmp_ge (tgt := 42) hx hb dX1_clear_26 (by decide) (fun c2 => ?_) (fun c2 => ?_)
      · rw [if_pos c2] at hT
        refine lv_aload_n hx hb dX1_clear_42 rfl (lv_at hl 0 rfl) ?_
        refine lv_iconst (v := 0) hx hb dX1_clear_43 (by decide) ?_
        refine va_put (D := D) (ci := 1) (v := .int 0) (ty := .int) (C := RX1) (T := TX1) (N := 9) hx hb ht inX1 tyX1 tyX1_ok nmX1 hown hK hP hD hS (pMe i0) (g_Me h0) rfl 2 (by decide) (ht _ mw_57) (fun _ h9 => h9) rfl (by decide +kernel) rfl rfl (Nat.le_of_ble_eq_true rfl) dX1_clear_44 (fun H locs hP hD hS => ?_)
        rw [s_Me_2 h0] at hP hD
        refine lv_aload_n hx hb dX1_clear_47 rfl (lv_at hl 0 rfl) ?_
        refine lv_iconst (v := 0) hx hb dX1_clear_48 (by decide) ?_
        refine va_put (D := D) (ci := 1) (v := .int 0) (ty := .int) (C := RX1) (T := TX1) (N := 9) hx hb ht inX1 tyX1 tyX1_ok nmX1 hown hK hP hD hS (pMe i0) (g_Me h0) rfl 3 (by decide) (ht _ mw_60) (fun _ h9 => h9) rfl (by decide +kernel) rfl rfl (Nat.le_of_ble_eq_true rfl) dX1_clear_49 (fun H locs hP hD hS => ?_)
        rw [s_Me_3 h0] at hP hD
        refine lv_aload_n hx hb dX1_clear_52 rfl (lv_at hl 0 rfl) ?_
        refine lv_iconst (v := 0) hx hb dX1_clear_53 (by decide) ?_
        refine va_put (D := D) (ci := 1) (v := .int 0) (ty := .int) (C := RX1) (T := TX1) (N := 9) hx hb ht inX1 tyX1 tyX1_ok nmX1 hown hK hP hD hS (pMe i0) (g_Me h0) rfl 4 (by decide) (ht _ mw_63) (fun _ h9 => h9) rfl (by decide +kernel) rfl rfl (Nat.le_of_ble_eq_true rfl) dX1_clear_54 (fun H locs hP hD hS => ?_)
        rw [s_Me_4 h0] at hP hD
        refine lv_aload_n hx hb dX1_clear_57 rfl (lv_at hl 0 rfl) ?_
        refine lv_iconst (v := 0) hx hb dX1_clear_58 (by decide) ?_
        refine va_put (D := D) (ci := 1) (v := .int 0) (ty := .boolean) (C := RX1) (T := TX1) (N := 9) hx hb ht inX1 tyX1 tyX1_ok nmX1 hown hK hP hD hS (pMe i0) (g_Me h0) rfl 5 (by decide) (ht _ mw_66) (fun _ h9 => h9) rfl (by decide +kernel) rfl rfl (Nat.le_of_ble_eq_true rfl) dX1_clear_59 (fun H locs hP hD hS => ?_)
        rw [s_Me_5 h0] at hP hD
        refine lv_aload_n hx hb dX1_clear_62 rfl (lv_at hl 0 rfl) ?_
        refine lv_iconst (v := 0) hx hb dX1_clear_63 (by decide) ?_
        refine va_put (D := D) (ci := 1) (v := .int 0) (ty := .boolean) (C := RX1) (T := TX1) (N := 9) hx hb ht inX1 tyX1 tyX1_ok nmX1 hown hK hP hD hS (pMe i0) (g_Me h0) rfl 6 (by decide) (ht _ mw_69) (fun _ h9 => h9) rfl (by decide +kernel) rfl rfl (Nat.le_of_ble_eq_true rfl) dX1_clear_64 (fun H locs hP hD hS => ?_)
        rw [s_Me_6 h0] at hP hD
        rw [eQ]
        exact W.vret hx hb hr (fun t ht hW => ⟨⟨(sF (sF (sF (sF (sF τ23 (pMe i0) 2 0) (pMe i0) 3 0) (pMe i0) 4 0) (pMe i0) 5 0) (pMe i0) 6 0), rfl, hT, by rw [ht]; exact hP, va_K.moved hW.alike hK, hD⟩, hS.F ht⟩) hS.2.2 dX1_clear_67
      · rw [if_neg c2] at hT
        have h_lt := lp_lt (N := 12) (by decide) (by decide) h_le c2
        refine lv_aload_n hx hb dX1_clear_29 rfl (lv_at hl 0 rfl) ?_
        refine va_get (D := D) (ci := 1) (v := .ref (ad (pMe i0 + 2))) (C := RX1) (T := TX1) (N := 9) hx hb ht inX1 hown hK hP (pMe i0) (g_Me h0) rfl 1 (by decide) (ht _ mw_54) (fun _ h9 => h9) rfl dX1_clear_30 ?_
        refine lv_iload_n hx hb dX1_clear_33 rfl (lv_at hl 1 rfl) ?_
        refine lv_iconst (v := 0) hx hb dX1_clear_34 (by decide) ?_
        refine va_iast (i := nI i123) (x := 0) hx hb hK hP hD hS (pMe i0 + 2) 0 (g_Mh h0) rfl (vp_in_nI h_lt (by decide)) dX1_clear_35 (fun H locs hP hD hS => ?_)
        rw [nI_clamp (n := i123) (by omega)] at hP hD
        rw [s_Mh h0] at hP hD
        refine lv_iinc (v := nI (i123 + 1)) (lv' := [(1, .int (nI (i123 + 1))), (0, .ref (ad (pMe i0)))]) hx hb dX1_clear_36 hl (k := 1) rfl (nI_1 i123) (by decide) rfl (fun ls hl => ?_)
        refine lv_goto (tgt := 23) hx hb dX1_clear_39 (by decide) ?_
        exact ih  (i123 + 1) (sA τ23 (pMe i0 + 2) i123 0) _ _ ls h_lt (by omega) hP hD hS (lv_sub hl [1, 0] rfl) hT
  have L_2 : ∀ (n i102 : Nat) (τ2 : St) (H : Heap) (locs : List Loc) (ls : Array Slot), i102 ≤ 12 → 13 ≤ i102 + n → va_P D vwCl (wB ad kk τ2) H → va_D (aL 96 ad s.heap.size) (wB ad kk τ2) → va_S (aL 96 ad s.heap.size) s.heap H locs → lv_has ls 2 [(0, .ref (ad (pMe i0))), (1, .int (nI i102))] → M_clear_h2 n i102 τ2 i0 = T → W p l e (headSpec wsX1_clear { frames := 0, cells := 0, slots := 0, locals := 0 }).room s m ([.ref (ad (pMe i0))] : List Value).toArray below meth c H locs 0 0 Q (F0 m 2 ls []) := by
    intro n
    induction n with
    | zero =>
      intro i102 τ2 H locs ls h_le h_fu hP hD hS hl hT
      exact absurd h_fu (by omega)
    | succ n ih =>
      intro i102 τ2 H locs ls h_le h_fu hP hD hS hl hT
      rw [M_clear_h2] at hT
      refine lv_iload_n hx hb dX1_clear_2 rfl (lv_at hl 1 rfl) ?_
      refine lv_bipush (v := 12) hx hb dX1_clear_3 (by decide) ?_
      refine lv_icmp_ge (tgt := 21) hx hb dX1_clear_5 (by decide) (fun c1 => ?_) (fun c1 => ?_)
      · rw [if_pos c1] at hT
        refine lv_iconst (v := 0) hx hb dX1_clear_21 (by decide) ?_
        refine lv_istore_n (lv' := [(1, .int 0), (0, .ref (ad (pMe i0)))]) hx hb dX1_clear_22 rfl hl (by decide) rfl (fun ls hl => ?_)
        exact L_23 13 0 τ2 _ _ ls (Nat.zero_le _) (by decide) hP hD hS (lv_sub hl [1, 0] rfl) hT
      · rw [if_neg c1] at hT
        have h_lt := lp_lt (N := 12) (by decide) (by decide) h_le c1
        refine lv_aload_n hx hb dX1_clear_8 rfl (lv_at hl 0 rfl) ?_
        refine va_get (D := D) (ci := 1) (v := .ref (ad (pMe i0 + 1))) (C := RX1) (T := TX1) (N := 9) hx hb ht inX1 hown hK hP (pMe i0) (g_Me h0) rfl 0 (by decide) (ht _ mw_51) (fun _ h9 => h9) rfl dX1_clear_9 ?_
        refine lv_iload_n hx hb dX1_clear_12 rfl (lv_at hl 1 rfl) ?_
        refine lv_iconst (v := 0) hx hb dX1_clear_13 (by decide) ?_
        refine va_iast (i := nI i102) (x := 0) hx hb hK hP hD hS (pMe i0 + 1) 0 (g_Ma h0) rfl (vp_in_nI h_lt (by decide)) dX1_clear_14 (fun H locs hP hD hS => ?_)
        rw [nI_clamp (n := i102) (by omega)] at hP hD
        rw [s_Ma h0] at hP hD
        refine lv_iinc (v := nI (i102 + 1)) (lv' := [(1, .int (nI (i102 + 1))), (0, .ref (ad (pMe i0)))]) hx hb dX1_clear_15 hl (k := 1) rfl (nI_1 i102) (by decide) rfl (fun ls hl => ?_)
        refine lv_goto (tgt := 2) hx hb dX1_clear_18 (by decide) ?_
        exact ih  (i102 + 1) (sA τ2 (pMe i0 + 1) i102 0) _ _ ls h_lt (by omega) hP hD hS (lv_sub hl [1, 0] rfl) hT
  rw [M_clear] at hT
  refine lv_iconst (v := 0) hx hb dX1_clear_0 (by decide) ?_
  refine lv_istore_n (lv' := [(1, .int 0), (0, .ref (ad (pMe i0)))]) hx hb dX1_clear_1 rfl hl (by decide) rfl (fun ls hl => ?_)
  exact L_2 13 0 σ _ _ ls (Nat.zero_le _) (by decide) hP hD hS (lv_sub hl [1, 0] rfl) hT
set_option maxHeartbeats 4000000 in
set_option maxRecDepth 100000 in
theorem k_addPart (l : Launch) (D : va_G) (ad : Nat → Nat) (kk : Nat → ClassId) (sz : Nat) (σ : St) (i0 : Nat) (p1 : Int32) (h0 : i0 < 10) (hp : vp_in (gF σ (pPi i0) 3) 8) : Met l yX3_addPart wsX3_addPart { frames := 1, cells := 0, slots := 0, locals := 22 } (va_Pc [.ref (ad (pPi i0)), .int p1] (PB D ad kk sz σ)) (va_Qi (fun r u => (r, u) = M_addPart σ i0 p1) (QB D ad kk sz) (aL 96 ad sz)) 0 0 (aL 96 ad sz) := by
  refine Met.ofW (cc := cX3_addPart) (maxL := 2) (ret := (some .int)) (by decide) rfl ?_
  intro p e s m args below meth c s₁ B hml hv
  obtain ⟨rfl, hsz, hP, hK, hD0, hE⟩ := hv
  have hx := B.exec
  have hb := B.bytes
  have hr := B.returns
  have hts := atoms_spec (ws := wsX3_addPart) B.pre
  have hown : s.vm.findClass RX3 = some m.cls := findClass_of_methodNamed B.named
  have hlocks := B.notSynchronized
  subst hsz
  have hD : va_D (aL 96 ad s.heap.size) (wB ad kk σ) := aL_D hD0
  have hS : va_S (aL 96 ad s.heap.size) s.heap s.heap [] := va_S.rf
  have hl := lv_entry ([.ref (ad (pPi i0)), .int p1]) (n := 2) (Nat.le_of_ble_eq_true rfl)
  rw [lg_entry_eq]
  generalize (lg_sl ([.ref (ad (pPi i0)), .int p1]) ++ List.replicate (2 - (lg_sl ([.ref (ad (pPi i0)), .int p1])).length) Slot.unset).toArray = ls at hl ⊢
  have hl : lv_has ls 2 [(0, .ref (ad (pPi i0))), (1, .int p1)] := hl
  have CF : CallFix p m c cX3_addPart 2 s ([.ref (ad (pPi i0)), .int p1] : List Value).toArray wsX3_addPart RX3 := ⟨hx, hb, hml, hown, hts⟩
  have ht : ∀ w ∈ T0, w.before ([.ref (ad (pPi i0)), .int p1] : List Value).toArray s = true := fun w h => hts w (List.mem_cons_of_mem _ h)
  generalize hT : M_addPart σ i0 p1 = T
  rw [M_addPart] at hT
  refine lv_aload_n hx hb dX3_addPart_0 rfl (lv_at hl 0 rfl) ?_
  refine va_get (D := D) (ci := 3) (v := .ref (ad (pPi i0 + 1))) (C := RX3) (T := TX3) (N := 8) hx hb ht inX3 hown hK hP (pPi i0) (g_Pi h0) rfl 0 (by decide) (ht _ mw_100) (fun _ h9 => h9) rfl dX3_addPart_1 ?_
  refine lv_aload_n hx hb dX3_addPart_4 rfl (lv_at hl 0 rfl) ?_
  refine va_get (D := D) (ci := 3) (v := .int (gF σ (pPi i0) 3)) (C := RX3) (T := TX3) (N := 8) hx hb ht inX3 hown hK hP (pPi i0) (g_Pi h0) rfl 3 (by decide) (ht _ mw_105) (fun _ h9 => h9) rfl dX3_addPart_5 ?_
  refine lv_iload_n hx hb dX3_addPart_8 rfl (lv_at hl 1 rfl) ?_
  refine va_iast (i := gF σ (pPi i0) 3) (x := p1) hx hb hK hP hD hS (pPi i0 + 1) 0 (g_Pp h0) rfl hp dX3_addPart_9 (fun H locs hP hD hS => ?_)
  rw [s_Pp h0] at hP hD
  refine lv_aload_n hx hb dX3_addPart_10 rfl (lv_at hl 0 rfl) ?_
  refine lv_dup hx hb dX3_addPart_11 rfl ?_
  refine va_get (D := D) (ci := 3) (v := .int (gF (sA σ (pPi i0 + 1) (gF σ (pPi i0) 3).toNatClampNeg p1) (pPi i0) 3)) (C := RX3) (T := TX3) (N := 8) hx hb ht inX3 hown hK hP (pPi i0) (g_Pi h0) rfl 3 (by decide) (ht _ mw_105) (fun _ h9 => h9) rfl dX3_addPart_12 ?_
  refine lv_iconst (v := 1) hx hb dX3_addPart_15 (by decide) ?_
  refine lv_iadd hx hb dX3_addPart_16 ?_
  refine va_put (D := D) (ci := 3) (v := .int ((gF (sA σ (pPi i0 + 1) (gF σ (pPi i0) 3).toNatClampNeg p1) (pPi i0) 3) + 1)) (ty := .int) (C := RX3) (T := TX3) (N := 8) hx hb ht inX3 tyX3 tyX3_ok nmX3 hown hK hP hD hS (pPi i0) (g_Pi h0) rfl 3 (by decide) (ht _ mw_105) (fun _ h9 => h9) rfl (by decide +kernel) rfl rfl (Nat.le_of_ble_eq_true rfl) dX3_addPart_17 (fun H locs hP hD hS => ?_)
  rw [s_Pi_3 h0] at hP hD
  refine lv_aload_n hx hb dX3_addPart_20 rfl (lv_at hl 0 rfl) ?_
  refine lv_aload_n hx hb dX3_addPart_21 rfl (lv_at hl 0 rfl) ?_
  refine va_get (D := D) (ci := 3) (v := .int (gF (sF (sA σ (pPi i0 + 1) (gF σ (pPi i0) 3).toNatClampNeg p1) (pPi i0) 3 ((gF (sA σ (pPi i0 + 1) (gF σ (pPi i0) 3).toNatClampNeg p1) (pPi i0) 3) + 1)) (pPi i0) 5)) (C := RX3) (T := TX3) (N := 8) hx hb ht inX3 hown hK hP (pPi i0) (g_Pi h0) rfl 5 (by decide) (ht _ mw_109) (fun _ h9 => h9) rfl dX3_addPart_22 ?_
  refine lv_iload_n hx hb dX3_addPart_25 rfl (lv_at hl 1 rfl) ?_
  refine lv_iconst (v := 1) hx hb dX3_addPart_26 (by decide) ?_
  refine vp_callSi ((va_runSN (As := [.int (gF (sF (sA σ (pPi i0 + 1) (gF σ (pPi i0) 3).toNatClampNeg p1) (pPi i0) 3 ((gF (sA σ (pPi i0 + 1) (gF σ (pPi i0) 3).toNatClampNeg p1) (pPi i0) 3) + 1)) (pPi i0) 5), .int p1, .int 1]) (rest := [.ref (ad (pPi i0))]) CF (k_with l (gF (sF (sA σ (pPi i0 + 1) (gF σ (pPi i0) 3).toNatClampNeg p1) (pPi i0) 3 ((gF (sA σ (pPi i0 + 1) (gF σ (pPi i0) 3).toNatClampNeg p1) (pPi i0) 3) + 1)) (pPi i0) 5) p1 1) ⟨va_cnB (host := "MaterialBars") 3 hts (gT mw_325) rfl rfl rfl (hE.nest (own := RX3) (k := 28) (y := yX4_with) (host := "MaterialBars") (by decide +kernel)) (ht _ mw_1) (by decide +kernel) ⟨Nat.le_of_ble_eq_true rfl, Nat.le_of_ble_eq_true rfl⟩, (ht _ mw_324), trivial⟩ preEq rfl rfl hl.1 rfl (lv_room (Nat.le_of_ble_eq_true rfl)) dX3_addPart_27 ⟨Nat.le_of_ble_eq_true rfl, Nat.le_of_ble_eq_true rfl⟩).run) (fun r1 h_r1 => ?_)
  obtain rfl := h_r1
  refine va_put (D := D) (ci := 3) (v := .int (M_with (gF (sF (sA σ (pPi i0 + 1) (gF σ (pPi i0) 3).toNatClampNeg p1) (pPi i0) 3 ((gF (sA σ (pPi i0 + 1) (gF σ (pPi i0) 3).toNatClampNeg p1) (pPi i0) 3) + 1)) (pPi i0) 5) p1 1)) (ty := .int) (C := RX3) (T := TX3) (N := 8) hx hb ht inX3 tyX3 tyX3_ok nmX3 hown hK hP hD hS (pPi i0) (g_Pi h0) rfl 5 (by decide) (ht _ mw_109) (fun _ h9 => h9) rfl (by decide +kernel) rfl rfl (Nat.le_of_ble_eq_true rfl) dX3_addPart_30 (fun H locs hP hD hS => ?_)
  rw [s_Pi_5 h0] at hP hD
  refine lv_aload_n hx hb dX3_addPart_33 rfl (lv_at hl 0 rfl) ?_
  refine va_get (D := D) (ci := 3) (v := .int (gF (sF (sF (sA σ (pPi i0 + 1) (gF σ (pPi i0) 3).toNatClampNeg p1) (pPi i0) 3 ((gF (sA σ (pPi i0 + 1) (gF σ (pPi i0) 3).toNatClampNeg p1) (pPi i0) 3) + 1)) (pPi i0) 5 (M_with (gF (sF (sA σ (pPi i0 + 1) (gF σ (pPi i0) 3).toNatClampNeg p1) (pPi i0) 3 ((gF (sA σ (pPi i0 + 1) (gF σ (pPi i0) 3).toNatClampNeg p1) (pPi i0) 3) + 1)) (pPi i0) 5) p1 1)) (pPi i0) 3)) (C := RX3) (T := TX3) (N := 8) hx hb ht inX3 hown hK hP (pPi i0) (g_Pi h0) rfl 3 (by decide) (ht _ mw_105) (fun _ h9 => h9) rfl dX3_addPart_34 ?_
  refine lv_iconst (v := 1) hx hb dX3_addPart_37 (by decide) ?_
  refine lv_isub hx hb dX3_addPart_38 ?_
  exact W.iret (v := (gF (sF (sF (sA σ (pPi i0 + 1) (gF σ (pPi i0) 3).toNatClampNeg p1) (pPi i0) 3 ((gF (sA σ (pPi i0 + 1) (gF σ (pPi i0) 3).toNatClampNeg p1) (pPi i0) 3) + 1)) (pPi i0) 5 (M_with (gF (sF (sA σ (pPi i0 + 1) (gF σ (pPi i0) 3).toNatClampNeg p1) (pPi i0) 3 ((gF (sA σ (pPi i0 + 1) (gF σ (pPi i0) 3).toNatClampNeg p1) (pPi i0) 3) + 1)) (pPi i0) 5) p1 1)) (pPi i0) 3) - 1) hx hb hr (fun t ht hW => ⟨⟨(gF (sF (sF (sA σ (pPi i0 + 1) (gF σ (pPi i0) 3).toNatClampNeg p1) (pPi i0) 3 ((gF (sA σ (pPi i0 + 1) (gF σ (pPi i0) 3).toNatClampNeg p1) (pPi i0) 3) + 1)) (pPi i0) 5 (M_with (gF (sF (sA σ (pPi i0 + 1) (gF σ (pPi i0) 3).toNatClampNeg p1) (pPi i0) 3 ((gF (sA σ (pPi i0 + 1) (gF σ (pPi i0) 3).toNatClampNeg p1) (pPi i0) 3) + 1)) (pPi i0) 5) p1 1)) (pPi i0) 3) - 1, (sF (sF (sA σ (pPi i0 + 1) (gF σ (pPi i0) 3).toNatClampNeg p1) (pPi i0) 3 ((gF (sA σ (pPi i0 + 1) (gF σ (pPi i0) 3).toNatClampNeg p1) (pPi i0) 3) + 1)) (pPi i0) 5 (M_with (gF (sF (sA σ (pPi i0 + 1) (gF σ (pPi i0) 3).toNatClampNeg p1) (pPi i0) 3 ((gF (sA σ (pPi i0 + 1) (gF σ (pPi i0) 3).toNatClampNeg p1) (pPi i0) 3) + 1)) (pPi i0) 5) p1 1)), rfl, hT, by rw [ht]; exact hP, va_K.moved hW.alike hK, hD⟩, hS.F ht⟩) hS.2.2 dX3_addPart_39
set_option maxHeartbeats 4000000 in
set_option maxRecDepth 100000 in
theorem k_firstPartOf (l : Launch) (D : va_G) (ad : Nat → Nat) (kk : Nat → ClassId) (sz : Nat) (σ : St) (i0 : Nat) (p1 : Int32) (h0 : i0 < 10) (hp : (gF σ (pPi i0) 3).toInt ≤ 8) : Met l yX3_firstPartOf wsX3_firstPartOf { frames := 1, cells := 0, slots := 0, locals := 21 } (va_Pc [.ref (ad (pPi i0)), .int p1] (PB D ad kk sz σ)) (va_Qi (fun r u => r = M_firstPartOf σ i0 p1 ∧ u = σ) (QB D ad kk sz) (aL 96 ad sz)) 0 0 (aL 96 ad sz) := by
  refine Met.ofW (cc := cX3_firstPartOf) (maxL := 3) (ret := (some .int)) (by decide) rfl ?_
  intro p e s m args below meth c s₁ B hml hv
  obtain ⟨rfl, hsz, hP, hK, hD0, hE⟩ := hv
  have hx := B.exec
  have hb := B.bytes
  have hr := B.returns
  have hts := atoms_spec (ws := wsX3_firstPartOf) B.pre
  have hown : s.vm.findClass RX3 = some m.cls := findClass_of_methodNamed B.named
  have hlocks := B.notSynchronized
  subst hsz
  have hD : va_D (aL 96 ad s.heap.size) (wB ad kk σ) := aL_D hD0
  have hS : va_S (aL 96 ad s.heap.size) s.heap s.heap [] := va_S.rf
  have hl := lv_entry ([.ref (ad (pPi i0)), .int p1]) (n := 3) (Nat.le_of_ble_eq_true rfl)
  rw [lg_entry_eq]
  generalize (lg_sl ([.ref (ad (pPi i0)), .int p1]) ++ List.replicate (3 - (lg_sl ([.ref (ad (pPi i0)), .int p1])).length) Slot.unset).toArray = ls at hl ⊢
  have hl : lv_has ls 3 [(0, .ref (ad (pPi i0))), (1, .int p1)] := hl
  have CF : CallFix p m c cX3_firstPartOf 3 s ([.ref (ad (pPi i0)), .int p1] : List Value).toArray wsX3_firstPartOf RX3 := ⟨hx, hb, hml, hown, hts⟩
  have ht : ∀ w ∈ T0, w.before ([.ref (ad (pPi i0)), .int p1] : List Value).toArray s = true := fun w h => hts w (List.mem_cons_of_mem _ h)
  generalize hT : M_firstPartOf σ i0 p1 = T
  refine namedQ (fun Q eQ => ?_)
  have L_2 : ∀ (n i102 : Nat) (H : Heap) (locs : List Loc) (ls : Array Slot), i102 ≤ 8 → 9 ≤ i102 + n → va_P D vwCl (wB ad kk σ) H → va_D (aL 96 ad s.heap.size) (wB ad kk σ) → va_S (aL 96 ad s.heap.size) s.heap H locs → lv_has ls 3 [(0, .ref (ad (pPi i0))), (1, .int p1), (2, .int (nI i102))] → M_firstPartOf_h2 n i102 σ i0 p1 = T → W p l e (headSpec wsX3_firstPartOf { frames := 1, cells := 0, slots := 0, locals := 21 }).room s m ([.ref (ad (pPi i0)), .int p1] : List Value).toArray below meth c H locs 0 0 Q (F0 m 2 ls []) := by
    intro n
    induction n with
    | zero =>
      intro i102 H locs ls h_le h_fu hP hD hS hl hT
      exact absurd h_fu (by omega)
    | succ n ih =>
      intro i102 H locs ls h_le h_fu hP hD hS hl hT
      rw [M_firstPartOf_h2] at hT
      refine lv_iload_n hx hb dX3_firstPartOf_2 rfl (lv_at hl 2 rfl) ?_
      refine lv_aload_n hx hb dX3_firstPartOf_3 rfl (lv_at hl 0 rfl) ?_
      refine va_get (D := D) (ci := 3) (v := .int (gF σ (pPi i0) 3)) (C := RX3) (T := TX3) (N := 8) hx hb ht inX3 hown hK hP (pPi i0) (g_Pi h0) rfl 3 (by decide) (ht _ mw_105) (fun _ h9 => h9) rfl dX3_firstPartOf_4 ?_
      refine lv_icmp_ge (tgt := 31) hx hb dX3_firstPartOf_7 (by decide) (fun c1 => ?_) (fun c1 => ?_)
      · rw [if_pos c1] at hT
        refine lv_iconst (v := (-1)) hx hb dX3_firstPartOf_31 (by decide) ?_
        rw [eQ]
        exact W.iret (v := (-1)) hx hb hr (fun t ht hW => ⟨⟨(-1), σ, rfl, ⟨hT, rfl⟩, by rw [ht]; exact hP, va_K.moved hW.alike hK, hD⟩, hS.F ht⟩) hS.2.2 dX3_firstPartOf_32
      · rw [if_neg c1] at hT
        have h_lt := lp_lt (N := 8) (by decide) hp h_le c1
        refine lv_iload_n hx hb dX3_firstPartOf_10 rfl (lv_at hl 1 rfl) ?_
        refine lv_aload_n hx hb dX3_firstPartOf_11 rfl (lv_at hl 0 rfl) ?_
        refine va_get (D := D) (ci := 3) (v := .ref (ad (pPi i0 + 1))) (C := RX3) (T := TX3) (N := 8) hx hb ht inX3 hown hK hP (pPi i0) (g_Pi h0) rfl 0 (by decide) (ht _ mw_100) (fun _ h9 => h9) rfl dX3_firstPartOf_12 ?_
        refine lv_iload_n hx hb dX3_firstPartOf_15 rfl (lv_at hl 2 rfl) ?_
        refine va_iald (i := nI i102) hx hb hK hP (pPi i0 + 1) 0 (g_Pp h0) rfl (vp_in_nI h_lt (by decide)) dX3_firstPartOf_16 ?_
        rw [nI_clamp (n := i102) (by omega)]
        refine vp_callSi ((va_runSN (As := [.int p1, .int (gA σ (pPi i0 + 1) i102)]) (rest := []) CF (k_has l p1 (gA σ (pPi i0 + 1) i102)) ⟨va_cnB (host := "MaterialBars") 2 hts (gT mw_402) rfl rfl rfl (hE.nest (own := RX3) (k := 32) (y := yX4_has) (host := "MaterialBars") (by decide +kernel)) (ht _ mw_1) (by decide +kernel) ⟨Nat.le_of_ble_eq_true rfl, Nat.le_of_ble_eq_true rfl⟩, (ht _ mw_401), trivial⟩ preEq rfl rfl hl.1 rfl (lv_room (Nat.le_of_ble_eq_true rfl)) dX3_firstPartOf_17 ⟨Nat.le_of_ble_eq_true rfl, Nat.le_of_ble_eq_true rfl⟩).run) (fun r2 h_r2 => ?_)
        obtain rfl := h_r2
        refine lv_if_eq (tgt := 25) hx hb dX3_firstPartOf_20 (by decide) (fun c3 => ?_) (fun c3 => ?_)
        · rw [if_pos c3] at hT
          refine lv_iinc (v := nI (i102 + 1)) (lv' := [(2, .int (nI (i102 + 1))), (0, .ref (ad (pPi i0))), (1, .int p1)]) hx hb dX3_firstPartOf_25 hl (k := 2) rfl (nI_1 i102) (by decide) rfl (fun ls hl => ?_)
          refine lv_goto (tgt := 2) hx hb dX3_firstPartOf_28 (by decide) ?_
          exact ih  (i102 + 1) _ _ ls h_lt (by omega) hP hD hS (lv_sub hl [1, 2, 0] rfl) hT
        · rw [if_neg c3] at hT
          refine lv_iload_n hx hb dX3_firstPartOf_23 rfl (lv_at hl 2 rfl) ?_
          rw [eQ]
          exact W.iret (v := nI i102) hx hb hr (fun t ht hW => ⟨⟨nI i102, σ, rfl, ⟨hT, rfl⟩, by rw [ht]; exact hP, va_K.moved hW.alike hK, hD⟩, hS.F ht⟩) hS.2.2 dX3_firstPartOf_24
  rw [M_firstPartOf] at hT
  refine lv_iconst (v := 0) hx hb dX3_firstPartOf_0 (by decide) ?_
  refine lv_istore_n (lv' := [(2, .int 0), (0, .ref (ad (pPi i0))), (1, .int p1)]) hx hb dX3_firstPartOf_1 rfl hl (by decide) rfl (fun ls hl => ?_)
  exact L_2 9 0 _ _ ls (Nat.zero_le _) (by decide) hP hD hS (lv_sub hl [1, 2, 0] rfl) hT
set_option maxHeartbeats 4000000 in
set_option maxRecDepth 100000 in
theorem k_addRow (l : Launch) (D : va_G) (ad : Nat → Nat) (kk : Nat → ClassId) (sz : Nat) (σ : St) (i0 : Nat) (p1 : Int32) (p2 : Int32) (p3 : Int32) (p4 : Int32) (h0 : i0 < 10) (hp : vp_in (gF σ (pPi i0) 4) 30) (hm : vp_in p1 12) : Met l yX3_addRow wsX3_addRow { frames := 1, cells := 0, slots := 0, locals := 22 } (va_Pc [.ref (ad (pPi i0)), .int p1, .int p2, .int p3, .int p4] (PB D ad kk sz σ)) (va_Qv (fun u => u = M_addRow σ i0 p1 p2 p3 p4) (QB D ad kk sz) (aL 96 ad sz)) 0 0 (aL 96 ad sz) := by
  refine Met.ofW (cc := cX3_addRow) (maxL := 6) (ret := none) (by decide) rfl ?_
  intro p e s m args below meth c s₁ B hml hv
  obtain ⟨rfl, hsz, hP, hK, hD0, hE⟩ := hv
  have hx := B.exec
  have hb := B.bytes
  have hr := B.returns
  have hts := atoms_spec (ws := wsX3_addRow) B.pre
  have hown : s.vm.findClass RX3 = some m.cls := findClass_of_methodNamed B.named
  have hlocks := B.notSynchronized
  subst hsz
  have hD : va_D (aL 96 ad s.heap.size) (wB ad kk σ) := aL_D hD0
  have hS : va_S (aL 96 ad s.heap.size) s.heap s.heap [] := va_S.rf
  have hl := lv_entry ([.ref (ad (pPi i0)), .int p1, .int p2, .int p3, .int p4]) (n := 6) (Nat.le_of_ble_eq_true rfl)
  rw [lg_entry_eq]
  generalize (lg_sl ([.ref (ad (pPi i0)), .int p1, .int p2, .int p3, .int p4]) ++ List.replicate (6 - (lg_sl ([.ref (ad (pPi i0)), .int p1, .int p2, .int p3, .int p4])).length) Slot.unset).toArray = ls at hl ⊢
  have hl : lv_has ls 6 [(0, .ref (ad (pPi i0))), (1, .int p1), (2, .int p2), (3, .int p3), (4, .int p4)] := hl
  have CF : CallFix p m c cX3_addRow 6 s ([.ref (ad (pPi i0)), .int p1, .int p2, .int p3, .int p4] : List Value).toArray wsX3_addRow RX3 := ⟨hx, hb, hml, hown, hts⟩
  have ht : ∀ w ∈ T0, w.before ([.ref (ad (pPi i0)), .int p1, .int p2, .int p3, .int p4] : List Value).toArray s = true := fun w h => hts w (List.mem_cons_of_mem _ h)
  generalize hT : M_addRow σ i0 p1 p2 p3 p4 = T
  rw [M_addRow] at hT
  refine lv_aload_n hx hb dX3_addRow_0 rfl (lv_at hl 0 rfl) ?_
  refine va_get (D := D) (ci := 3) (v := .int (gF σ (pPi i0) 4)) (C := RX3) (T := TX3) (N := 8) hx hb ht inX3 hown hK hP (pPi i0) (g_Pi h0) rfl 4 (by decide) (ht _ mw_107) (fun _ h9 => h9) rfl dX3_addRow_1 ?_
  refine lv_iconst (v := 4) hx hb dX3_addRow_4 (by decide) ?_
  refine lv_imul hx hb dX3_addRow_5 ?_
  refine lv_istore (lv' := [(5, .int ((gF σ (pPi i0) 4) * 4)), (0, .ref (ad (pPi i0))), (1, .int p1), (2, .int p2), (3, .int p3), (4, .int p4)]) hx hb dX3_addRow_6 hl (by decide) rfl (fun ls hl => ?_)
  refine lv_aload_n hx hb dX3_addRow_8 rfl (lv_at hl 1 rfl) ?_
  refine va_get (D := D) (ci := 3) (v := .ref (ad (pPi i0 + 2))) (C := RX3) (T := TX3) (N := 8) hx hb ht inX3 hown hK hP (pPi i0) (g_Pi h0) rfl 1 (by decide) (ht _ mw_101) (fun _ h9 => h9) rfl dX3_addRow_9 ?_
  refine lv_iload hx hb dX3_addRow_12 (lv_at hl 0 rfl) ?_
  refine lv_iload_n hx hb dX3_addRow_14 rfl (lv_at hl 2 rfl) ?_
  refine va_iast (i := (gF σ (pPi i0) 4) * 4) (x := p1) hx hb hK hP hD hS (pPi i0 + 2) 0 (g_Pr h0) rfl (row_in0 hp) dX3_addRow_15 (fun H locs hP hD hS => ?_)
  rw [s_Pr h0] at hP hD
  refine lv_aload_n hx hb dX3_addRow_16 rfl (lv_at hl 1 rfl) ?_
  refine va_get (D := D) (ci := 3) (v := .ref (ad (pPi i0 + 2))) (C := RX3) (T := TX3) (N := 8) hx hb ht inX3 hown hK hP (pPi i0) (g_Pi h0) rfl 1 (by decide) (ht _ mw_101) (fun _ h9 => h9) rfl dX3_addRow_17 ?_
  refine lv_iload hx hb dX3_addRow_20 (lv_at hl 0 rfl) ?_
  refine lv_iconst (v := 1) hx hb dX3_addRow_22 (by decide) ?_
  refine lv_iadd hx hb dX3_addRow_23 ?_
  refine lv_iload_n hx hb dX3_addRow_24 rfl (lv_at hl 3 rfl) ?_
  refine va_iast (i := ((gF σ (pPi i0) 4) * 4) + 1) (x := p2) hx hb hK hP hD hS (pPi i0 + 2) 0 (g_Pr h0) rfl (row_in1 hp) dX3_addRow_25 (fun H locs hP hD hS => ?_)
  rw [s_Pr h0] at hP hD
  refine lv_aload_n hx hb dX3_addRow_26 rfl (lv_at hl 1 rfl) ?_
  refine va_get (D := D) (ci := 3) (v := .ref (ad (pPi i0 + 2))) (C := RX3) (T := TX3) (N := 8) hx hb ht inX3 hown hK hP (pPi i0) (g_Pi h0) rfl 1 (by decide) (ht _ mw_101) (fun _ h9 => h9) rfl dX3_addRow_27 ?_
  refine lv_iload hx hb dX3_addRow_30 (lv_at hl 0 rfl) ?_
  refine lv_iconst (v := 2) hx hb dX3_addRow_32 (by decide) ?_
  refine lv_iadd hx hb dX3_addRow_33 ?_
  refine lv_iload_n hx hb dX3_addRow_34 rfl (lv_at hl 4 rfl) ?_
  refine va_iast (i := ((gF σ (pPi i0) 4) * 4) + 2) (x := p3) hx hb hK hP hD hS (pPi i0 + 2) 0 (g_Pr h0) rfl (row_in2 hp) dX3_addRow_35 (fun H locs hP hD hS => ?_)
  rw [s_Pr h0] at hP hD
  refine lv_aload_n hx hb dX3_addRow_36 rfl (lv_at hl 1 rfl) ?_
  refine va_get (D := D) (ci := 3) (v := .ref (ad (pPi i0 + 2))) (C := RX3) (T := TX3) (N := 8) hx hb ht inX3 hown hK hP (pPi i0) (g_Pi h0) rfl 1 (by decide) (ht _ mw_101) (fun _ h9 => h9) rfl dX3_addRow_37 ?_
  refine lv_iload hx hb dX3_addRow_40 (lv_at hl 0 rfl) ?_
  refine lv_iconst (v := 3) hx hb dX3_addRow_42 (by decide) ?_
  refine lv_iadd hx hb dX3_addRow_43 ?_
  refine lv_iload hx hb dX3_addRow_44 (lv_at hl 5 rfl) ?_
  refine va_iast (i := ((gF σ (pPi i0) 4) * 4) + 3) (x := p4) hx hb hK hP hD hS (pPi i0 + 2) 0 (g_Pr h0) rfl (row_in3 hp) dX3_addRow_46 (fun H locs hP hD hS => ?_)
  rw [s_Pr h0] at hP hD
  refine lv_aload_n hx hb dX3_addRow_47 rfl (lv_at hl 1 rfl) ?_
  refine lv_dup hx hb dX3_addRow_48 rfl ?_
  refine va_get (D := D) (ci := 3) (v := .int (gF (sA (sA (sA (sA σ (pPi i0 + 2) ((gF σ (pPi i0) 4) * 4).toNatClampNeg p1) (pPi i0 + 2) (((gF σ (pPi i0) 4) * 4) + 1).toNatClampNeg p2) (pPi i0 + 2) (((gF σ (pPi i0) 4) * 4) + 2).toNatClampNeg p3) (pPi i0 + 2) (((gF σ (pPi i0) 4) * 4) + 3).toNatClampNeg p4) (pPi i0) 4)) (C := RX3) (T := TX3) (N := 8) hx hb ht inX3 hown hK hP (pPi i0) (g_Pi h0) rfl 4 (by decide) (ht _ mw_107) (fun _ h9 => h9) rfl dX3_addRow_49 ?_
  refine lv_iconst (v := 1) hx hb dX3_addRow_52 (by decide) ?_
  refine lv_iadd hx hb dX3_addRow_53 ?_
  refine va_put (D := D) (ci := 3) (v := .int ((gF (sA (sA (sA (sA σ (pPi i0 + 2) ((gF σ (pPi i0) 4) * 4).toNatClampNeg p1) (pPi i0 + 2) (((gF σ (pPi i0) 4) * 4) + 1).toNatClampNeg p2) (pPi i0 + 2) (((gF σ (pPi i0) 4) * 4) + 2).toNatClampNeg p3) (pPi i0 + 2) (((gF σ (pPi i0) 4) * 4) + 3).toNatClampNeg p4) (pPi i0) 4) + 1)) (ty := .int) (C := RX3) (T := TX3) (N := 8) hx hb ht inX3 tyX3 tyX3_ok nmX3 hown hK hP hD hS (pPi i0) (g_Pi h0) rfl 4 (by decide) (ht _ mw_107) (fun _ h9 => h9) rfl (by decide +kernel) rfl rfl (Nat.le_of_ble_eq_true rfl) dX3_addRow_54 (fun H locs hP hD hS => ?_)
  rw [s_Pi_4 h0] at hP hD
  refine lv_aload_n hx hb dX3_addRow_57 rfl (lv_at hl 1 rfl) ?_
  refine va_get (D := D) (ci := 3) (v := .ref (ad (pPi i0 + 3))) (C := RX3) (T := TX3) (N := 8) hx hb ht inX3 hown hK hP (pPi i0) (g_Pi h0) rfl 2 (by decide) (ht _ mw_103) (fun _ h9 => h9) rfl dX3_addRow_58 ?_
  refine lv_iload_n hx hb dX3_addRow_61 rfl (lv_at hl 2 rfl) ?_
  refine lv_iload_n hx hb dX3_addRow_62 rfl (lv_at hl 3 rfl) ?_
  refine va_iast (i := p1) (x := p2) hx hb hK hP hD hS (pPi i0 + 3) 0 (g_Pl h0) rfl hm dX3_addRow_63 (fun H locs hP hD hS => ?_)
  rw [s_Pl h0] at hP hD
  refine lv_aload_n hx hb dX3_addRow_64 rfl (lv_at hl 1 rfl) ?_
  refine lv_iload_n hx hb dX3_addRow_65 rfl (lv_at hl 3 rfl) ?_
  refine va_put (D := D) (ci := 3) (v := .int p2) (ty := .int) (C := RX3) (T := TX3) (N := 8) hx hb ht inX3 tyX3 tyX3_ok nmX3 hown hK hP hD hS (pPi i0) (g_Pi h0) rfl 7 (by decide) (ht _ mw_113) (fun _ h9 => h9) rfl (by decide +kernel) rfl rfl (Nat.le_of_ble_eq_true rfl) dX3_addRow_66 (fun H locs hP hD hS => ?_)
  rw [s_Pi_7 h0] at hP hD
  refine lv_aload_n hx hb dX3_addRow_69 rfl (lv_at hl 1 rfl) ?_
  refine lv_aload_n hx hb dX3_addRow_70 rfl (lv_at hl 1 rfl) ?_
  refine va_get (D := D) (ci := 3) (v := .int (gF (sF (sA (sF (sA (sA (sA (sA σ (pPi i0 + 2) ((gF σ (pPi i0) 4) * 4).toNatClampNeg p1) (pPi i0 + 2) (((gF σ (pPi i0) 4) * 4) + 1).toNatClampNeg p2) (pPi i0 + 2) (((gF σ (pPi i0) 4) * 4) + 2).toNatClampNeg p3) (pPi i0 + 2) (((gF σ (pPi i0) 4) * 4) + 3).toNatClampNeg p4) (pPi i0) 4 ((gF (sA (sA (sA (sA σ (pPi i0 + 2) ((gF σ (pPi i0) 4) * 4).toNatClampNeg p1) (pPi i0 + 2) (((gF σ (pPi i0) 4) * 4) + 1).toNatClampNeg p2) (pPi i0 + 2) (((gF σ (pPi i0) 4) * 4) + 2).toNatClampNeg p3) (pPi i0 + 2) (((gF σ (pPi i0) 4) * 4) + 3).toNatClampNeg p4) (pPi i0) 4) + 1)) (pPi i0 + 3) p1.toNatClampNeg p2) (pPi i0) 7 p2) (pPi i0) 6)) (C := RX3) (T := TX3) (N := 8) hx hb ht inX3 hown hK hP (pPi i0) (g_Pi h0) rfl 6 (by decide) (ht _ mw_111) (fun _ h9 => h9) rfl dX3_addRow_71 ?_
  refine lv_iload_n hx hb dX3_addRow_74 rfl (lv_at hl 2 rfl) ?_
  refine lv_iconst (v := 1) hx hb dX3_addRow_75 (by decide) ?_
  refine vp_callSi ((va_runSN (As := [.int (gF (sF (sA (sF (sA (sA (sA (sA σ (pPi i0 + 2) ((gF σ (pPi i0) 4) * 4).toNatClampNeg p1) (pPi i0 + 2) (((gF σ (pPi i0) 4) * 4) + 1).toNatClampNeg p2) (pPi i0 + 2) (((gF σ (pPi i0) 4) * 4) + 2).toNatClampNeg p3) (pPi i0 + 2) (((gF σ (pPi i0) 4) * 4) + 3).toNatClampNeg p4) (pPi i0) 4 ((gF (sA (sA (sA (sA σ (pPi i0 + 2) ((gF σ (pPi i0) 4) * 4).toNatClampNeg p1) (pPi i0 + 2) (((gF σ (pPi i0) 4) * 4) + 1).toNatClampNeg p2) (pPi i0 + 2) (((gF σ (pPi i0) 4) * 4) + 2).toNatClampNeg p3) (pPi i0 + 2) (((gF σ (pPi i0) 4) * 4) + 3).toNatClampNeg p4) (pPi i0) 4) + 1)) (pPi i0 + 3) p1.toNatClampNeg p2) (pPi i0) 7 p2) (pPi i0) 6), .int p1, .int 1]) (rest := [.ref (ad (pPi i0))]) CF (k_with l (gF (sF (sA (sF (sA (sA (sA (sA σ (pPi i0 + 2) ((gF σ (pPi i0) 4) * 4).toNatClampNeg p1) (pPi i0 + 2) (((gF σ (pPi i0) 4) * 4) + 1).toNatClampNeg p2) (pPi i0 + 2) (((gF σ (pPi i0) 4) * 4) + 2).toNatClampNeg p3) (pPi i0 + 2) (((gF σ (pPi i0) 4) * 4) + 3).toNatClampNeg p4) (pPi i0) 4 ((gF (sA (sA (sA (sA σ (pPi i0 + 2) ((gF σ (pPi i0) 4) * 4).toNatClampNeg p1) (pPi i0 + 2) (((gF σ (pPi i0) 4) * 4) + 1).toNatClampNeg p2) (pPi i0 + 2) (((gF σ (pPi i0) 4) * 4) + 2).toNatClampNeg p3) (pPi i0 + 2) (((gF σ (pPi i0) 4) * 4) + 3).toNatClampNeg p4) (pPi i0) 4) + 1)) (pPi i0 + 3) p1.toNatClampNeg p2) (pPi i0) 7 p2) (pPi i0) 6) p1 1) ⟨va_cnB (host := "MaterialBars") 3 hts (gT mw_325) rfl rfl rfl (hE.nest (own := RX3) (k := 28) (y := yX4_with) (host := "MaterialBars") (by decide +kernel)) (ht _ mw_1) (by decide +kernel) ⟨Nat.le_of_ble_eq_true rfl, Nat.le_of_ble_eq_true rfl⟩, (ht _ mw_324), trivial⟩ preEq rfl rfl hl.1 rfl (lv_room (Nat.le_of_ble_eq_true rfl)) dX3_addRow_76 ⟨Nat.le_of_ble_eq_true rfl, Nat.le_of_ble_eq_true rfl⟩).run) (fun r1 h_r1 => ?_)
  obtain rfl := h_r1
  refine va_put (D := D) (ci := 3) (v := .int (M_with (gF (sF (sA (sF (sA (sA (sA (sA σ (pPi i0 + 2) ((gF σ (pPi i0) 4) * 4).toNatClampNeg p1) (pPi i0 + 2) (((gF σ (pPi i0) 4) * 4) + 1).toNatClampNeg p2) (pPi i0 + 2) (((gF σ (pPi i0) 4) * 4) + 2).toNatClampNeg p3) (pPi i0 + 2) (((gF σ (pPi i0) 4) * 4) + 3).toNatClampNeg p4) (pPi i0) 4 ((gF (sA (sA (sA (sA σ (pPi i0 + 2) ((gF σ (pPi i0) 4) * 4).toNatClampNeg p1) (pPi i0 + 2) (((gF σ (pPi i0) 4) * 4) + 1).toNatClampNeg p2) (pPi i0 + 2) (((gF σ (pPi i0) 4) * 4) + 2).toNatClampNeg p3) (pPi i0 + 2) (((gF σ (pPi i0) 4) * 4) + 3).toNatClampNeg p4) (pPi i0) 4) + 1)) (pPi i0 + 3) p1.toNatClampNeg p2) (pPi i0) 7 p2) (pPi i0) 6) p1 1)) (ty := .int) (C := RX3) (T := TX3) (N := 8) hx hb ht inX3 tyX3 tyX3_ok nmX3 hown hK hP hD hS (pPi i0) (g_Pi h0) rfl 6 (by decide) (ht _ mw_111) (fun _ h9 => h9) rfl (by decide +kernel) rfl rfl (Nat.le_of_ble_eq_true rfl) dX3_addRow_79 (fun H locs hP hD hS => ?_)
  rw [s_Pi_6 h0] at hP hD
  exact W.vret hx hb hr (fun t ht hW => ⟨⟨(sF (sF (sA (sF (sA (sA (sA (sA σ (pPi i0 + 2) ((gF σ (pPi i0) 4) * 4).toNatClampNeg p1) (pPi i0 + 2) (((gF σ (pPi i0) 4) * 4) + 1).toNatClampNeg p2) (pPi i0 + 2) (((gF σ (pPi i0) 4) * 4) + 2).toNatClampNeg p3) (pPi i0 + 2) (((gF σ (pPi i0) 4) * 4) + 3).toNatClampNeg p4) (pPi i0) 4 ((gF (sA (sA (sA (sA σ (pPi i0 + 2) ((gF σ (pPi i0) 4) * 4).toNatClampNeg p1) (pPi i0 + 2) (((gF σ (pPi i0) 4) * 4) + 1).toNatClampNeg p2) (pPi i0 + 2) (((gF σ (pPi i0) 4) * 4) + 2).toNatClampNeg p3) (pPi i0 + 2) (((gF σ (pPi i0) 4) * 4) + 3).toNatClampNeg p4) (pPi i0) 4) + 1)) (pPi i0 + 3) p1.toNatClampNeg p2) (pPi i0) 7 p2) (pPi i0) 6 (M_with (gF (sF (sA (sF (sA (sA (sA (sA σ (pPi i0 + 2) ((gF σ (pPi i0) 4) * 4).toNatClampNeg p1) (pPi i0 + 2) (((gF σ (pPi i0) 4) * 4) + 1).toNatClampNeg p2) (pPi i0 + 2) (((gF σ (pPi i0) 4) * 4) + 2).toNatClampNeg p3) (pPi i0 + 2) (((gF σ (pPi i0) 4) * 4) + 3).toNatClampNeg p4) (pPi i0) 4 ((gF (sA (sA (sA (sA σ (pPi i0 + 2) ((gF σ (pPi i0) 4) * 4).toNatClampNeg p1) (pPi i0 + 2) (((gF σ (pPi i0) 4) * 4) + 1).toNatClampNeg p2) (pPi i0 + 2) (((gF σ (pPi i0) 4) * 4) + 2).toNatClampNeg p3) (pPi i0 + 2) (((gF σ (pPi i0) 4) * 4) + 3).toNatClampNeg p4) (pPi i0) 4) + 1)) (pPi i0 + 3) p1.toNatClampNeg p2) (pPi i0) 7 p2) (pPi i0) 6) p1 1)), rfl, hT, by rw [ht]; exact hP, va_K.moved hW.alike hK, hD⟩, hS.F ht⟩) hS.2.2 dX3_addRow_82

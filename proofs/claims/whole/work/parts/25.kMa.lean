set_option maxHeartbeats 4000000 in
set_option maxRecDepth 100000 in
theorem k_m_thrown (l : Launch) (D : va_G) (ad : Nat → Nat) (kk : Nat → ClassId) (sz : Nat) (σ : St) : Met l yX5_thrown wsX5_thrown { frames := 0, cells := 0, slots := 0, locals := 0 } (va_Pc [.ref (ad 0)] (PM D ad kk sz σ)) (va_Qi (fun r u => r = M_m_thrown σ ∧ u = σ) (QM D ad kk sz) (aL 23 ad sz)) 0 0 (aL 23 ad sz) := by
  refine Met.ofW (cc := cX5_thrown) (maxL := 1) (ret := (some .int)) (by decide) rfl ?_
  intro p e s m args below meth c s₁ B hml hv
  obtain ⟨rfl, hsz, hP, hK, hD0⟩ := hv
  have hx := B.exec
  have hb := B.bytes
  have hr := B.returns
  have hts := atoms_spec (ws := wsX5_thrown) B.pre
  have hown : s.vm.findClass RX5 = some m.cls := findClass_of_methodNamed B.named
  have hlocks := B.notSynchronized
  subst hsz
  have hD : va_D (aL 23 ad s.heap.size) (wM ad kk σ) := aL_D hD0
  have hS : va_S (aL 23 ad s.heap.size) s.heap s.heap [] := va_S.rf
  have hl := lv_entry ([.ref (ad 0)]) (n := 1) (Nat.le_of_ble_eq_true rfl)
  rw [lg_entry_eq]
  generalize (lg_sl ([.ref (ad 0)]) ++ List.replicate (1 - (lg_sl ([.ref (ad 0)])).length) Slot.unset).toArray = ls at hl ⊢
  have hl : lv_has ls 1 [(0, .ref (ad 0))] := hl
  have CF : CallFix p m c cX5_thrown 1 s ([.ref (ad 0)] : List Value).toArray wsX5_thrown RX5 := ⟨hx, hb, hml, hown, hts⟩
  have ht : ∀ w ∈ T0, w.before ([.ref (ad 0)] : List Value).toArray s = true := fun w h => hts w (List.mem_cons_of_mem _ h)
  generalize hT : M_m_thrown σ = T
  rw [M_m_thrown] at hT
  refine lv_aload_n hx hb dX5_thrown_0 rfl (lv_at hl 0 rfl) ?_
  refine va_get (D := D) (ci := 5) (v := .int (gF σ 0 0)) (C := RX5) (T := TX5) (N := 27) hx hb ht inX5 hown hK hP 0 g_Md rfl 0 (by decide) (ht _ mw_573) (fun _ h9 => h9) rfl dX5_thrown_1 ?_
  exact W.iret (v := gF σ 0 0) hx hb hr (fun t ht hW => ⟨⟨gF σ 0 0, σ, rfl, ⟨hT, rfl⟩, by rw [ht]; exact hP, va_K.moved hW.alike hK, hD⟩, hS.F ht⟩) hS.2.2 dX5_thrown_4
set_option maxHeartbeats 4000000 in
set_option maxRecDepth 100000 in
theorem k_m_goes (l : Launch) (D : va_G) (ad : Nat → Nat) (kk : Nat → ClassId) (sz : Nat) (σ : St) (p1 : Int32) (p2 : Int32) (p3 : Int32) : Met l yX5_goes wsX5_goes { frames := 0, cells := 0, slots := 0, locals := 0 } (va_Pc [.ref (ad 0), .int p1, .int p2, .int p3] (PM D ad kk sz σ)) (va_Qi (fun r u => (r, u) = M_m_goes σ p1 p2 p3) (QM D ad kk sz) (aL 23 ad sz)) 0 0 (aL 23 ad sz) := by
  refine Met.ofW (cc := cX5_goes) (maxL := 4) (ret := (some .boolean)) (by decide) rfl ?_
  intro p e s m args below meth c s₁ B hml hv
  obtain ⟨rfl, hsz, hP, hK, hD0⟩ := hv
  have hx := B.exec
  have hb := B.bytes
  have hr := B.returns
  have hts := atoms_spec (ws := wsX5_goes) B.pre
  have hown : s.vm.findClass RX5 = some m.cls := findClass_of_methodNamed B.named
  have hlocks := B.notSynchronized
  subst hsz
  have hD : va_D (aL 23 ad s.heap.size) (wM ad kk σ) := aL_D hD0
  have hS : va_S (aL 23 ad s.heap.size) s.heap s.heap [] := va_S.rf
  have hl := lv_entry ([.ref (ad 0), .int p1, .int p2, .int p3]) (n := 4) (Nat.le_of_ble_eq_true rfl)
  rw [lg_entry_eq]
  generalize (lg_sl ([.ref (ad 0), .int p1, .int p2, .int p3]) ++ List.replicate (4 - (lg_sl ([.ref (ad 0), .int p1, .int p2, .int p3])).length) Slot.unset).toArray = ls at hl ⊢
  have hl : lv_has ls 4 [(0, .ref (ad 0)), (1, .int p1), (2, .int p2), (3, .int p3)] := hl
  have CF : CallFix p m c cX5_goes 4 s ([.ref (ad 0), .int p1, .int p2, .int p3] : List Value).toArray wsX5_goes RX5 := ⟨hx, hb, hml, hown, hts⟩
  have ht : ∀ w ∈ T0, w.before ([.ref (ad 0), .int p1, .int p2, .int p3] : List Value).toArray s = true := fun w h => hts w (List.mem_cons_of_mem _ h)
  generalize hT : M_m_goes σ p1 p2 p3 = T
  refine namedQ (fun Q eQ => ?_)
  rw [M_m_goes] at hT
  refine lv_aload_n hx hb dX5_goes_0 rfl (lv_at hl 0 rfl) ?_
  refine lv_iload_n hx hb dX5_goes_1 rfl (lv_at hl 1 rfl) ?_
  refine jn (α := Int32) (E := (if p1 = 0 then 1 else (if p2 = 0 then 2 else (if p3 = 0 then 3 else 0)))) (Kp := fun y => ∀ (H : Heap) (locs : List Loc), va_P D vwCl (wM ad kk σ) H → va_D (aL 23 ad s.heap.size) (wM ad kk σ) → va_S (aL 23 ad s.heap.size) s.heap H locs → W p l e (headSpec wsX5_goes { frames := 0, cells := 0, slots := 0, locals := 0 }).room s m ([.ref (ad 0), .int p1, .int p2, .int p3] : List Value).toArray below meth c H locs 0 0 Q (F0 m 26 ls (.int y :: .ref (ad 0) :: []))) (fun Vy1 hVy1 Ky1 => ?_) (fun y1 hy_y1 => ?_)
  · refine lv_if_ne (tgt := 9) hx hb dX5_goes_2 (by decide) (fun c2 => ?_) (fun c2 => ?_)
    · rw [if_neg c2] at hVy1
      refine lv_iload_n hx hb dX5_goes_9 rfl (lv_at hl 2 rfl) ?_
      refine lv_if_ne (tgt := 17) hx hb dX5_goes_10 (by decide) (fun c3 => ?_) (fun c3 => ?_)
      · rw [if_neg c3] at hVy1
        refine lv_iload_n hx hb dX5_goes_17 rfl (lv_at hl 3 rfl) ?_
        refine lv_if_ne (tgt := 25) hx hb dX5_goes_18 (by decide) (fun c4 => ?_) (fun c4 => ?_)
        · rw [if_neg c4] at hVy1
          refine lv_iconst (v := 0) hx hb dX5_goes_25 (by decide) ?_
          exact Ky1 0 hVy1 _ _ hP hD hS
        · rw [if_pos c4] at hVy1
          refine lv_iconst (v := 3) hx hb dX5_goes_21 (by decide) ?_
          refine lv_goto (tgt := 26) hx hb dX5_goes_22 (by decide) ?_
          exact Ky1 3 hVy1 _ _ hP hD hS
      · rw [if_pos c3] at hVy1
        refine lv_iconst (v := 2) hx hb dX5_goes_13 (by decide) ?_
        refine lv_goto (tgt := 26) hx hb dX5_goes_14 (by decide) ?_
        exact Ky1 2 hVy1 _ _ hP hD hS
    · rw [if_pos c2] at hVy1
      refine lv_iconst (v := 1) hx hb dX5_goes_5 (by decide) ?_
      refine lv_goto (tgt := 26) hx hb dX5_goes_6 (by decide) ?_
      exact Ky1 1 hVy1 _ _ hP hD hS
  · intro H locs hP hD hS
    rw [← hy_y1, vb_eq] at hT
    refine va_put (D := D) (ci := 5) (v := .int y1) (ty := .int) (C := RX5) (T := TX5) (N := 27) hx hb ht inX5 tyX5 tyX5_ok nmX5 hown hK hP hD hS 0 g_Md rfl 0 (by decide) (ht _ mw_573) (fun _ h9 => h9) rfl (by decide +kernel) rfl rfl (Nat.le_of_ble_eq_true rfl) dX5_goes_26 (fun H locs hP hD hS => ?_)
    rw [s_Md_0] at hP hD
    refine lv_aload_n hx hb dX5_goes_29 rfl (lv_at hl 0 rfl) ?_
    refine va_get (D := D) (ci := 5) (v := .int (gF (sF σ 0 0 y1) 0 0)) (C := RX5) (T := TX5) (N := 27) hx hb ht inX5 hown hK hP 0 g_Md rfl 0 (by decide) (ht _ mw_573) (fun _ h9 => h9) rfl dX5_goes_30 ?_
    refine jn (α := Int32) (E := (if (gF (sF σ 0 0 y1) 0 0) = 0 then 1 else 0)) (Kp := fun y => ∀ (H : Heap) (locs : List Loc), va_P D vwCl (wM ad kk (sF σ 0 0 y1)) H → va_D (aL 23 ad s.heap.size) (wM ad kk (sF σ 0 0 y1)) → va_S (aL 23 ad s.heap.size) s.heap H locs → W p l e (headSpec wsX5_goes { frames := 0, cells := 0, slots := 0, locals := 0 }).room s m ([.ref (ad 0), .int p1, .int p2, .int p3] : List Value).toArray below meth c H locs 0 0 Q (F0 m 41 ls (.int y :: []))) (fun Vy5 hVy5 Ky5 => ?_) (fun y5 hy_y5 => ?_)
    · refine lv_if_ne (tgt := 40) hx hb dX5_goes_33 (by decide) (fun c6 => ?_) (fun c6 => ?_)
      · rw [if_neg c6] at hVy5
        refine lv_iconst (v := 0) hx hb dX5_goes_40 (by decide) ?_
        exact Ky5 0 hVy5 _ _ hP hD hS
      · rw [if_pos c6] at hVy5
        refine lv_iconst (v := 1) hx hb dX5_goes_36 (by decide) ?_
        refine lv_goto (tgt := 41) hx hb dX5_goes_37 (by decide) ?_
        exact Ky5 1 hVy5 _ _ hP hD hS
    · intro H locs hP hD hS
      rw [← hy_y5, vb_eq] at hT
      have b_y5 : y5 = 0 ∨ y5 = 1 := by rw [hy_y5]; (repeat' split) <;> first | exact Or.inl rfl | exact Or.inr rfl
      rw [eQ]
      exact W.zret (v := y5) hx hb hr (nb01 b_y5) (fun t ht hW => ⟨⟨y5, (sF σ 0 0 y1), rfl, hT, by rw [ht]; exact hP, va_K.moved hW.alike hK, hD⟩, hS.F ht⟩) hS.2.2 dX5_goes_41
set_option maxHeartbeats 4000000 in
set_option maxRecDepth 100000 in
theorem k_m_below (l : Launch) (p0 : Int32) (p1 : Int32) : Met l yX5_below wsX5_below { frames := 0, cells := 0, slots := 0, locals := 0 } (fun v _ => v = ([.int p0, .int p1] : List Value).toArray) (vp_Si (fun r => r = (M_m_below p0 p1))) 0 0 (fun _ => False) := by
  refine Met.ofW (cc := cX5_below) (maxL := 2) (ret := (some .boolean)) (by decide) rfl ?_
  intro p e s m args below meth c s₁ B hml hv
  obtain rfl := hv
  have hx := B.exec
  have hb := B.bytes
  have hr := B.returns
  have hts := atoms_spec (ws := wsX5_below) B.pre
  have hown : s.vm.findClass RX5 = some m.cls := findClass_of_methodNamed B.named
  have hlocks := B.notSynchronized
  have hl := lv_entry ([.int p0, .int p1]) (n := 2) (Nat.le_of_ble_eq_true rfl)
  rw [lg_entry_eq]
  generalize (lg_sl ([.int p0, .int p1]) ++ List.replicate (2 - (lg_sl ([.int p0, .int p1])).length) Slot.unset).toArray = ls at hl ⊢
  have hl : lv_has ls 2 [(0, .int p0), (1, .int p1)] := hl
  have CF : CallFix p m c cX5_below 2 s ([.int p0, .int p1] : List Value).toArray wsX5_below RX5 := ⟨hx, hb, hml, hown, hts⟩
  have ht : ∀ w ∈ T0, w.before ([.int p0, .int p1] : List Value).toArray s = true := fun w h => hts w (List.mem_cons_of_mem _ h)
  generalize hT : M_m_below p0 p1 = T
  refine namedQ (fun Q eQ => ?_)
  rw [M_m_below] at hT
  refine lv_iload_n hx hb dX5_below_0 rfl (lv_at hl 0 rfl) ?_
  refine jn (α := Int32) (E := (if p0 < 0 then 0 else (if p1 ≤ p0 then 0 else 1))) (Kp := fun y => W p l e (headSpec wsX5_below { frames := 0, cells := 0, slots := 0, locals := 0 }).room s m ([.int p0, .int p1] : List Value).toArray below meth c s.heap [] 0 0 Q (F0 m 14 ls (.int y :: []))) (fun Vy1 hVy1 Ky1 => ?_) (fun y1 hy_y1 => ?_)
  · refine lv_if_lt (tgt := 13) hx hb dX5_below_1 (by decide) (fun c2 => ?_) (fun c2 => ?_)
    · rw [if_pos c2] at hVy1
      refine lv_iconst (v := 0) hx hb dX5_below_13 (by decide) ?_
      exact Ky1 0 hVy1
    · rw [if_neg c2] at hVy1
      refine lv_iload_n hx hb dX5_below_4 rfl (lv_at hl 0 rfl) ?_
      refine lv_iload_n hx hb dX5_below_5 rfl (lv_at hl 1 rfl) ?_
      refine lv_icmp_ge (tgt := 13) hx hb dX5_below_6 (by decide) (fun c3 => ?_) (fun c3 => ?_)
      · rw [if_pos c3] at hVy1
        refine lv_iconst (v := 0) hx hb dX5_below_13 (by decide) ?_
        exact Ky1 0 hVy1
      · rw [if_neg c3] at hVy1
        refine lv_iconst (v := 1) hx hb dX5_below_9 (by decide) ?_
        refine lv_goto (tgt := 14) hx hb dX5_below_10 (by decide) ?_
        exact Ky1 1 hVy1
  · rw [← hy_y1, vb_eq] at hT
    have b_y1 : y1 = 0 ∨ y1 = 1 := by rw [hy_y1]; (repeat' split) <;> first | exact Or.inl rfl | exact Or.inr rfl
    rw [eQ]
    exact W.zret (v := y1) hx hb hr (nb01 b_y1) (fun t ht hW => ⟨y1, rfl, hT, ht⟩) t_nil dX5_below_14
set_option maxHeartbeats 4000000 in
set_option maxRecDepth 100000 in
theorem k_m_greatest (l : Launch) (p0 : Int32) : Met l yX5_greatest wsX5_greatest { frames := 0, cells := 0, slots := 0, locals := 0 } (fun v _ => v = ([.int p0] : List Value).toArray) (vp_Si (fun r => r = (M_m_greatest p0))) 0 0 (fun _ => False) := by
  refine Met.ofW (cc := cX5_greatest) (maxL := 1) (ret := (some .int)) (by decide) rfl ?_
  intro p e s m args below meth c s₁ B hml hv
  obtain rfl := hv
  have hx := B.exec
  have hb := B.bytes
  have hr := B.returns
  have hts := atoms_spec (ws := wsX5_greatest) B.pre
  have hown : s.vm.findClass RX5 = some m.cls := findClass_of_methodNamed B.named
  have hlocks := B.notSynchronized
  have hl := lv_entry ([.int p0]) (n := 1) (Nat.le_of_ble_eq_true rfl)
  rw [lg_entry_eq]
  generalize (lg_sl ([.int p0]) ++ List.replicate (1 - (lg_sl ([.int p0])).length) Slot.unset).toArray = ls at hl ⊢
  have hl : lv_has ls 1 [(0, .int p0)] := hl
  have CF : CallFix p m c cX5_greatest 1 s ([.int p0] : List Value).toArray wsX5_greatest RX5 := ⟨hx, hb, hml, hown, hts⟩
  have ht : ∀ w ∈ T0, w.before ([.int p0] : List Value).toArray s = true := fun w h => hts w (List.mem_cons_of_mem _ h)
  generalize hT : M_m_greatest p0 = T
  refine namedQ (fun Q eQ => ?_)
  rw [M_m_greatest] at hT
  refine lv_iload_n hx hb dX5_greatest_0 rfl (lv_at hl 0 rfl) ?_
  refine lv_bipush (v := 98) hx hb dX5_greatest_1 (by decide) ?_
  refine jn (α := Int32) (E := (if p0 = 98 then 9 else 11)) (Kp := fun y => W p l e (headSpec wsX5_greatest { frames := 0, cells := 0, slots := 0, locals := 0 }).room s m ([.int p0] : List Value).toArray below meth c s.heap [] 0 0 Q (F0 m 13 ls (.int y :: []))) (fun Vy1 hVy1 Ky1 => ?_) (fun y1 hy_y1 => ?_)
  · refine lv_icmp_ne (tgt := 11) hx hb dX5_greatest_3 (by decide) (fun c2 => ?_) (fun c2 => ?_)
    · rw [if_neg c2] at hVy1
      refine lv_bipush (v := 11) hx hb dX5_greatest_11 (by decide) ?_
      exact Ky1 11 hVy1
    · rw [if_pos c2] at hVy1
      refine lv_bipush (v := 9) hx hb dX5_greatest_6 (by decide) ?_
      refine lv_goto (tgt := 13) hx hb dX5_greatest_8 (by decide) ?_
      exact Ky1 9 hVy1
  · rw [← hy_y1, vb_eq] at hT
    rw [eQ]
    exact W.iret (v := y1) hx hb hr (fun t ht hW => ⟨y1, rfl, hT, ht⟩) t_nil dX5_greatest_13
set_option maxHeartbeats 4000000 in
set_option maxRecDepth 100000 in
theorem k_m_isLetter (l : Launch) (p0 : Int32) : Met l yX5_isLetter wsX5_isLetter { frames := 0, cells := 0, slots := 0, locals := 0 } (fun v _ => v = ([.int p0] : List Value).toArray) (vp_Si (fun r => r = (M_m_isLetter p0))) 0 0 (fun _ => False) := by
  refine Met.ofW (cc := cX5_isLetter) (maxL := 1) (ret := (some .boolean)) (by decide) rfl ?_
  intro p e s m args below meth c s₁ B hml hv
  obtain rfl := hv
  have hx := B.exec
  have hb := B.bytes
  have hr := B.returns
  have hts := atoms_spec (ws := wsX5_isLetter) B.pre
  have hown : s.vm.findClass RX5 = some m.cls := findClass_of_methodNamed B.named
  have hlocks := B.notSynchronized
  have hl := lv_entry ([.int p0]) (n := 1) (Nat.le_of_ble_eq_true rfl)
  rw [lg_entry_eq]
  generalize (lg_sl ([.int p0]) ++ List.replicate (1 - (lg_sl ([.int p0])).length) Slot.unset).toArray = ls at hl ⊢
  have hl : lv_has ls 1 [(0, .int p0)] := hl
  have CF : CallFix p m c cX5_isLetter 1 s ([.int p0] : List Value).toArray wsX5_isLetter RX5 := ⟨hx, hb, hml, hown, hts⟩
  have ht : ∀ w ∈ T0, w.before ([.int p0] : List Value).toArray s = true := fun w h => hts w (List.mem_cons_of_mem _ h)
  generalize hT : M_m_isLetter p0 = T
  refine namedQ (fun Q eQ => ?_)
  rw [M_m_isLetter] at hT
  refine lv_iload_n hx hb dX5_isLetter_0 rfl (lv_at hl 0 rfl) ?_
  refine lv_bipush (v := 117) hx hb dX5_isLetter_1 (by decide) ?_
  refine jn (α := Int32) (E := (if p0 = 117 then 1 else (if p0 = 98 then 1 else (if p0 = 120 then 1 else (if p0 = 97 then 1 else (if p0 = 116 then 1 else (if p0 = 105 then 1 else 0))))))) (Kp := fun y => W p l e (headSpec wsX5_isLetter { frames := 0, cells := 0, slots := 0, locals := 0 }).room s m ([.int p0] : List Value).toArray below meth c s.heap [] 0 0 Q (F0 m 41 ls (.int y :: []))) (fun Vy1 hVy1 Ky1 => ?_) (fun y1 hy_y1 => ?_)
  · refine lv_icmp_eq (tgt := 36) hx hb dX5_isLetter_3 (by decide) (fun c2 => ?_) (fun c2 => ?_)
    · rw [if_pos c2] at hVy1
      refine lv_iconst (v := 1) hx hb dX5_isLetter_36 (by decide) ?_
      refine lv_goto (tgt := 41) hx hb dX5_isLetter_37 (by decide) ?_
      exact Ky1 1 hVy1
    · rw [if_neg c2] at hVy1
      refine lv_iload_n hx hb dX5_isLetter_6 rfl (lv_at hl 0 rfl) ?_
      refine lv_bipush (v := 98) hx hb dX5_isLetter_7 (by decide) ?_
      refine lv_icmp_eq (tgt := 36) hx hb dX5_isLetter_9 (by decide) (fun c3 => ?_) (fun c3 => ?_)
      · rw [if_pos c3] at hVy1
        refine lv_iconst (v := 1) hx hb dX5_isLetter_36 (by decide) ?_
        refine lv_goto (tgt := 41) hx hb dX5_isLetter_37 (by decide) ?_
        exact Ky1 1 hVy1
      · rw [if_neg c3] at hVy1
        refine lv_iload_n hx hb dX5_isLetter_12 rfl (lv_at hl 0 rfl) ?_
        refine lv_bipush (v := 120) hx hb dX5_isLetter_13 (by decide) ?_
        refine lv_icmp_eq (tgt := 36) hx hb dX5_isLetter_15 (by decide) (fun c4 => ?_) (fun c4 => ?_)
        · rw [if_pos c4] at hVy1
          refine lv_iconst (v := 1) hx hb dX5_isLetter_36 (by decide) ?_
          refine lv_goto (tgt := 41) hx hb dX5_isLetter_37 (by decide) ?_
          exact Ky1 1 hVy1
        · rw [if_neg c4] at hVy1
          refine lv_iload_n hx hb dX5_isLetter_18 rfl (lv_at hl 0 rfl) ?_
          refine lv_bipush (v := 97) hx hb dX5_isLetter_19 (by decide) ?_
          refine lv_icmp_eq (tgt := 36) hx hb dX5_isLetter_21 (by decide) (fun c5 => ?_) (fun c5 => ?_)
          · rw [if_pos c5] at hVy1
            refine lv_iconst (v := 1) hx hb dX5_isLetter_36 (by decide) ?_
            refine lv_goto (tgt := 41) hx hb dX5_isLetter_37 (by decide) ?_
            exact Ky1 1 hVy1
          · rw [if_neg c5] at hVy1
            refine lv_iload_n hx hb dX5_isLetter_24 rfl (lv_at hl 0 rfl) ?_
            refine lv_bipush (v := 116) hx hb dX5_isLetter_25 (by decide) ?_
            refine lv_icmp_eq (tgt := 36) hx hb dX5_isLetter_27 (by decide) (fun c6 => ?_) (fun c6 => ?_)
            · rw [if_pos c6] at hVy1
              refine lv_iconst (v := 1) hx hb dX5_isLetter_36 (by decide) ?_
              refine lv_goto (tgt := 41) hx hb dX5_isLetter_37 (by decide) ?_
              exact Ky1 1 hVy1
            · rw [if_neg c6] at hVy1
              refine lv_iload_n hx hb dX5_isLetter_30 rfl (lv_at hl 0 rfl) ?_
              refine lv_bipush (v := 105) hx hb dX5_isLetter_31 (by decide) ?_
              refine lv_icmp_ne (tgt := 40) hx hb dX5_isLetter_33 (by decide) (fun c7 => ?_) (fun c7 => ?_)
              · rw [if_neg c7] at hVy1
                refine lv_iconst (v := 0) hx hb dX5_isLetter_40 (by decide) ?_
                exact Ky1 0 hVy1
              · rw [if_pos c7] at hVy1
                refine lv_iconst (v := 1) hx hb dX5_isLetter_36 (by decide) ?_
                refine lv_goto (tgt := 41) hx hb dX5_isLetter_37 (by decide) ?_
                exact Ky1 1 hVy1
  · rw [← hy_y1, vb_eq] at hT
    have b_y1 : y1 = 0 ∨ y1 = 1 := by rw [hy_y1]; (repeat' split) <;> first | exact Or.inl rfl | exact Or.inr rfl
    rw [eQ]
    exact W.zret (v := y1) hx hb hr (nb01 b_y1) (fun t ht hW => ⟨y1, rfl, hT, ht⟩) t_nil dX5_isLetter_41
set_option maxHeartbeats 4000000 in
set_option maxRecDepth 100000 in
theorem k_m_isHour (l : Launch) (p0 : Int32) : Met l yX5_isHour wsX5_isHour { frames := 0, cells := 0, slots := 0, locals := 0 } (fun v _ => v = ([.int p0] : List Value).toArray) (vp_Si (fun r => r = (M_m_isHour p0))) 0 0 (fun _ => False) := by
  refine Met.ofW (cc := cX5_isHour) (maxL := 1) (ret := (some .boolean)) (by decide) rfl ?_
  intro p e s m args below meth c s₁ B hml hv
  obtain rfl := hv
  have hx := B.exec
  have hb := B.bytes
  have hr := B.returns
  have hts := atoms_spec (ws := wsX5_isHour) B.pre
  have hown : s.vm.findClass RX5 = some m.cls := findClass_of_methodNamed B.named
  have hlocks := B.notSynchronized
  have hl := lv_entry ([.int p0]) (n := 1) (Nat.le_of_ble_eq_true rfl)
  rw [lg_entry_eq]
  generalize (lg_sl ([.int p0]) ++ List.replicate (1 - (lg_sl ([.int p0])).length) Slot.unset).toArray = ls at hl ⊢
  have hl : lv_has ls 1 [(0, .int p0)] := hl
  have CF : CallFix p m c cX5_isHour 1 s ([.int p0] : List Value).toArray wsX5_isHour RX5 := ⟨hx, hb, hml, hown, hts⟩
  have ht : ∀ w ∈ T0, w.before ([.int p0] : List Value).toArray s = true := fun w h => hts w (List.mem_cons_of_mem _ h)
  generalize hT : M_m_isHour p0 = T
  refine namedQ (fun Q eQ => ?_)
  rw [M_m_isHour] at hT
  refine lv_iload_n hx hb dX5_isHour_0 rfl (lv_at hl 0 rfl) ?_
  refine jn (α := Int32) (E := (if p0 < 0 then 0 else (if 1000000 < p0 then 0 else 1))) (Kp := fun y => W p l e (headSpec wsX5_isHour { frames := 0, cells := 0, slots := 0, locals := 0 }).room s m ([.int p0] : List Value).toArray below meth c s.heap [] 0 0 Q (F0 m 15 ls (.int y :: []))) (fun Vy1 hVy1 Ky1 => ?_) (fun y1 hy_y1 => ?_)
  · refine lv_if_lt (tgt := 14) hx hb dX5_isHour_1 (by decide) (fun c2 => ?_) (fun c2 => ?_)
    · rw [if_pos c2] at hVy1
      refine lv_iconst (v := 0) hx hb dX5_isHour_14 (by decide) ?_
      exact Ky1 0 hVy1
    · rw [if_neg c2] at hVy1
      refine lv_iload_n hx hb dX5_isHour_4 rfl (lv_at hl 0 rfl) ?_
      refine lv_ldc (v := 1000000) hx hb hown (ht _ mw_725) dX5_isHour_5 ?_
      refine lv_icmp_gt (tgt := 14) hx hb dX5_isHour_7 (by decide) (fun c3 => ?_) (fun c3 => ?_)
      · rw [if_pos c3] at hVy1
        refine lv_iconst (v := 0) hx hb dX5_isHour_14 (by decide) ?_
        exact Ky1 0 hVy1
      · rw [if_neg c3] at hVy1
        refine lv_iconst (v := 1) hx hb dX5_isHour_10 (by decide) ?_
        refine lv_goto (tgt := 15) hx hb dX5_isHour_11 (by decide) ?_
        exact Ky1 1 hVy1
  · rw [← hy_y1, vb_eq] at hT
    have b_y1 : y1 = 0 ∨ y1 = 1 := by rw [hy_y1]; (repeat' split) <;> first | exact Or.inl rfl | exact Or.inr rfl
    rw [eQ]
    exact W.zret (v := y1) hx hb hr (nb01 b_y1) (fun t ht hW => ⟨y1, rfl, hT, ht⟩) t_nil dX5_isHour_15
set_option maxHeartbeats 4000000 in
set_option maxRecDepth 100000 in
theorem k_m_isMethod (l : Launch) (D : va_G) (ad : Nat → Nat) (kk : Nat → ClassId) (sz : Nat) (σ : St) (p1 : Int32) : Met l yX5_isMethod wsX5_isMethod { frames := 1, cells := 0, slots := 0, locals := 21 } (va_Pc [.ref (ad 0), .int p1] (PM D ad kk sz σ)) (va_Qi (fun r u => r = M_m_isMethod σ p1 ∧ u = σ) (QM D ad kk sz) (aL 23 ad sz)) 0 0 (aL 23 ad sz) := by
  refine Met.ofW (cc := cX5_isMethod) (maxL := 2) (ret := (some .boolean)) (by decide) rfl ?_
  intro p e s m args below meth c s₁ B hml hv
  obtain ⟨rfl, hsz, hP, hK, hD0⟩ := hv
  have hx := B.exec
  have hb := B.bytes
  have hr := B.returns
  have hts := atoms_spec (ws := wsX5_isMethod) B.pre
  have hown : s.vm.findClass RX5 = some m.cls := findClass_of_methodNamed B.named
  have hlocks := B.notSynchronized
  subst hsz
  have hD : va_D (aL 23 ad s.heap.size) (wM ad kk σ) := aL_D hD0
  have hS : va_S (aL 23 ad s.heap.size) s.heap s.heap [] := va_S.rf
  have hl := lv_entry ([.ref (ad 0), .int p1]) (n := 2) (Nat.le_of_ble_eq_true rfl)
  rw [lg_entry_eq]
  generalize (lg_sl ([.ref (ad 0), .int p1]) ++ List.replicate (2 - (lg_sl ([.ref (ad 0), .int p1])).length) Slot.unset).toArray = ls at hl ⊢
  have hl : lv_has ls 2 [(0, .ref (ad 0)), (1, .int p1)] := hl
  have CF : CallFix p m c cX5_isMethod 2 s ([.ref (ad 0), .int p1] : List Value).toArray wsX5_isMethod RX5 := ⟨hx, hb, hml, hown, hts⟩
  have ht : ∀ w ∈ T0, w.before ([.ref (ad 0), .int p1] : List Value).toArray s = true := fun w h => hts w (List.mem_cons_of_mem _ h)
  generalize hT : M_m_isMethod σ p1 = T
  rw [M_m_isMethod] at hT
  refine lv_iload_n hx hb dX5_isMethod_0 rfl (lv_at hl 1 rfl) ?_
  refine lv_aload_n hx hb dX5_isMethod_1 rfl (lv_at hl 0 rfl) ?_
  refine va_get (D := D) (ci := 5) (v := .int (gF σ 0 3)) (C := RX5) (T := TX5) (N := 27) hx hb ht inX5 hown hK hP 0 g_Md rfl 3 (by decide) (ht _ mw_576) (fun _ h9 => h9) rfl dX5_isMethod_2 ?_
  refine vp_callSi (W.runS (As := [.int p1, .int (gF σ 0 3)]) (rest := []) CF (k_m_below l p1 (gF σ 0 3)) ⟨callB_of 2 hts (gT mw_693) rfl rfl rfl (ht _ mw_6) (ht _ mw_691) (by decide +kernel) ⟨Nat.le_of_ble_eq_true rfl, Nat.le_of_ble_eq_true rfl⟩, (ht _ mw_692)⟩ preEq rfl rfl hl.1 rfl (lv_room (Nat.le_of_ble_eq_true rfl)) dX5_isMethod_5 ⟨Nat.le_of_ble_eq_true rfl, Nat.le_of_ble_eq_true rfl⟩) (fun r1 h_r1 => ?_)
  obtain rfl := h_r1
  exact W.zret (v := M_m_below p1 (gF σ 0 3)) hx hb hr (nb01 (m_below01 _ _)) (fun t ht hW => ⟨⟨M_m_below p1 (gF σ 0 3), σ, rfl, ⟨hT, rfl⟩, by rw [ht]; exact hP, va_K.moved hW.alike hK, hD⟩, hS.F ht⟩) hS.2.2 dX5_isMethod_8
set_option maxHeartbeats 4000000 in
set_option maxRecDepth 100000 in
theorem k_m_isObject (l : Launch) (D : va_G) (ad : Nat → Nat) (kk : Nat → ClassId) (sz : Nat) (σ : St) (p1 : Int32) : Met l yX5_isObject wsX5_isObject { frames := 1, cells := 0, slots := 0, locals := 21 } (va_Pc [.ref (ad 0), .int p1] (PM D ad kk sz σ)) (va_Qi (fun r u => r = M_m_isObject σ p1 ∧ u = σ) (QM D ad kk sz) (aL 23 ad sz)) 0 0 (aL 23 ad sz) := by
  refine Met.ofW (cc := cX5_isObject) (maxL := 2) (ret := (some .boolean)) (by decide) rfl ?_
  intro p e s m args below meth c s₁ B hml hv
  obtain ⟨rfl, hsz, hP, hK, hD0⟩ := hv
  have hx := B.exec
  have hb := B.bytes
  have hr := B.returns
  have hts := atoms_spec (ws := wsX5_isObject) B.pre
  have hown : s.vm.findClass RX5 = some m.cls := findClass_of_methodNamed B.named
  have hlocks := B.notSynchronized
  subst hsz
  have hD : va_D (aL 23 ad s.heap.size) (wM ad kk σ) := aL_D hD0
  have hS : va_S (aL 23 ad s.heap.size) s.heap s.heap [] := va_S.rf
  have hl := lv_entry ([.ref (ad 0), .int p1]) (n := 2) (Nat.le_of_ble_eq_true rfl)
  rw [lg_entry_eq]
  generalize (lg_sl ([.ref (ad 0), .int p1]) ++ List.replicate (2 - (lg_sl ([.ref (ad 0), .int p1])).length) Slot.unset).toArray = ls at hl ⊢
  have hl : lv_has ls 2 [(0, .ref (ad 0)), (1, .int p1)] := hl
  have CF : CallFix p m c cX5_isObject 2 s ([.ref (ad 0), .int p1] : List Value).toArray wsX5_isObject RX5 := ⟨hx, hb, hml, hown, hts⟩
  have ht : ∀ w ∈ T0, w.before ([.ref (ad 0), .int p1] : List Value).toArray s = true := fun w h => hts w (List.mem_cons_of_mem _ h)
  generalize hT : M_m_isObject σ p1 = T
  rw [M_m_isObject] at hT
  refine lv_iload_n hx hb dX5_isObject_0 rfl (lv_at hl 1 rfl) ?_
  refine lv_aload_n hx hb dX5_isObject_1 rfl (lv_at hl 0 rfl) ?_
  refine va_get (D := D) (ci := 5) (v := .int (gF σ 0 10)) (C := RX5) (T := TX5) (N := 27) hx hb ht inX5 hown hK hP 0 g_Md rfl 10 (by decide) (ht _ mw_583) (fun _ h9 => h9) rfl dX5_isObject_2 ?_
  refine vp_callSi (W.runS (As := [.int p1, .int (gF σ 0 10)]) (rest := []) CF (k_m_below l p1 (gF σ 0 10)) ⟨callB_of 2 hts (gT mw_693) rfl rfl rfl (ht _ mw_6) (ht _ mw_691) (by decide +kernel) ⟨Nat.le_of_ble_eq_true rfl, Nat.le_of_ble_eq_true rfl⟩, (ht _ mw_692)⟩ preEq rfl rfl hl.1 rfl (lv_room (Nat.le_of_ble_eq_true rfl)) dX5_isObject_5 ⟨Nat.le_of_ble_eq_true rfl, Nat.le_of_ble_eq_true rfl⟩) (fun r1 h_r1 => ?_)
  obtain rfl := h_r1
  exact W.zret (v := M_m_below p1 (gF σ 0 10)) hx hb hr (nb01 (m_below01 _ _)) (fun t ht hW => ⟨⟨M_m_below p1 (gF σ 0 10), σ, rfl, ⟨hT, rfl⟩, by rw [ht]; exact hP, va_K.moved hW.alike hK, hD⟩, hS.F ht⟩) hS.2.2 dX5_isObject_8
set_option maxHeartbeats 4000000 in
set_option maxRecDepth 100000 in
theorem k_m_used (l : Launch) (D : va_G) (ad : Nat → Nat) (kk : Nat → ClassId) (sz : Nat) (σ : St) (p1 : Int32) (p2 : Int32) (hn1 : vp_in p1 12) (hI : IM σ) : Met l yX5_used wsX5_used { frames := 0, cells := 0, slots := 0, locals := 0 } (va_Pc [.ref (ad 0), .int p1, .int p2] (PM D ad kk sz σ)) (va_Qi (fun r u => r = M_m_used σ p1 p2 ∧ u = σ) (QM D ad kk sz) (aL 23 ad sz)) 0 0 (aL 23 ad sz) := by
  obtain ⟨j1, hj1, rfl⟩ := vp_in_of hn1 (by decide)
  refine Met.ofW (cc := cX5_used) (maxL := 5) (ret := (some .int)) (by decide) rfl ?_
  intro p e s m args below meth c s₁ B hml hv
  obtain ⟨rfl, hsz, hP, hK, hD0⟩ := hv
  have hx := B.exec
  have hb := B.bytes
  have hr := B.returns
  have hts := atoms_spec (ws := wsX5_used) B.pre
  have hown : s.vm.findClass RX5 = some m.cls := findClass_of_methodNamed B.named
  have hlocks := B.notSynchronized
  subst hsz
  have hD : va_D (aL 23 ad s.heap.size) (wM ad kk σ) := aL_D hD0
  have hS : va_S (aL 23 ad s.heap.size) s.heap s.heap [] := va_S.rf
  have hl := lv_entry ([.ref (ad 0), .int (nI j1), .int p2]) (n := 5) (Nat.le_of_ble_eq_true rfl)
  rw [lg_entry_eq]
  generalize (lg_sl ([.ref (ad 0), .int (nI j1), .int p2]) ++ List.replicate (5 - (lg_sl ([.ref (ad 0), .int (nI j1), .int p2])).length) Slot.unset).toArray = ls at hl ⊢
  have hl : lv_has ls 5 [(0, .ref (ad 0)), (1, .int (nI j1)), (2, .int p2)] := hl
  have CF : CallFix p m c cX5_used 5 s ([.ref (ad 0), .int (nI j1), .int p2] : List Value).toArray wsX5_used RX5 := ⟨hx, hb, hml, hown, hts⟩
  have ht : ∀ w ∈ T0, w.before ([.ref (ad 0), .int (nI j1), .int p2] : List Value).toArray s = true := fun w h => hts w (List.mem_cons_of_mem _ h)
  generalize hT : M_m_used σ (nI j1) p2 = T
  refine namedQ (fun Q eQ => ?_)
  have L_8 : ∀ (n i108 : Nat) (x8_3 : Int32) (H : Heap) (locs : List Loc) (ls : Array Slot), i108 ≤ 10 * j1 + 10 → 10 * j1 + 10 + 1 ≤ i108 + n → va_P D vwCl (wM ad kk σ) H → va_D (aL 23 ad s.heap.size) (wM ad kk σ) → va_S (aL 23 ad s.heap.size) s.heap H locs → lv_has ls 5 [(0, .ref (ad 0)), (1, .int (nI j1)), (2, .int p2), (3, .int x8_3), (4, .int (nI i108))] → M_m_used_h8 n i108 x8_3 j1 σ p2 = T → W p l e (headSpec wsX5_used { frames := 0, cells := 0, slots := 0, locals := 0 }).room s m ([.ref (ad 0), .int (nI j1), .int p2] : List Value).toArray below meth c H locs 0 0 Q (F0 m 8 ls []) := by
    intro n
    induction n with
    | zero =>
      intro i108 x8_3 H locs ls h_le h_fu hP hD hS hl hT
      exact absurd h_fu (by omega)
    | succ n ih =>
      intro i108 x8_3 H locs ls h_le h_fu hP hD hS hl hT
      rw [M_m_used_h8] at hT
      refine lv_iload hx hb dX5_used_8 (lv_at hl 4 rfl) ?_
      refine lv_bipush (v := 10) hx hb dX5_used_10 (by decide) ?_
      refine lv_iload_n hx hb dX5_used_12 rfl (lv_at hl 1 rfl) ?_
      refine lv_imul hx hb dX5_used_13 ?_
      refine lv_topE (pk_mul 10 j1) ?_
      refine lv_aload_n hx hb dX5_used_14 rfl (lv_at hl 0 rfl) ?_
      refine va_get (D := D) (ci := 5) (v := .ref (ad 2)) (C := RX5) (T := TX5) (N := 27) hx hb ht inX5 hown hK hP 0 g_Md rfl 4 (by decide) (ht _ mw_577) (fun _ h9 => h9) rfl dX5_used_15 ?_
      refine lv_iload_n hx hb dX5_used_18 rfl (lv_at hl 1 rfl) ?_
      refine va_iald (i := nI j1) hx hb hK hP 2 0 g_m_many rfl (vp_in_nI (by omega) (by decide)) dX5_used_19 ?_
      rw [nI_clamp (n := j1) (by omega)]
      refine lv_iadd hx hb dX5_used_20 ?_
      refine lv_icmp_ge (tgt := 67) hx hb dX5_used_21 (by decide) (fun c1 => ?_) (fun c1 => ?_)
      · rw [if_pos c1] at hT
        refine lv_iload_n hx hb dX5_used_67 rfl (lv_at hl 3 rfl) ?_
        rw [eQ]
        exact W.iret (v := x8_3) hx hb hr (fun t ht hW => ⟨⟨x8_3, σ, rfl, ⟨hT, rfl⟩, by rw [ht]; exact hP, va_K.moved hW.alike hK, hD⟩, hS.F ht⟩) hS.2.2 dX5_used_68
      · rw [if_neg c1] at hT
        have h_lt := lp_lt2 (hI.many hj1) (by omega) h_le c1
        refine lv_aload_n hx hb dX5_used_24 rfl (lv_at hl 0 rfl) ?_
        refine va_get (D := D) (ci := 5) (v := .ref (ad 3)) (C := RX5) (T := TX5) (N := 27) hx hb ht inX5 hown hK hP 0 g_Md rfl 5 (by decide) (ht _ mw_578) (fun _ h9 => h9) rfl dX5_used_25 ?_
        refine lv_iload hx hb dX5_used_28 (lv_at hl 4 rfl) ?_
        refine va_iald (i := nI i108) hx hb hK hP 3 0 g_m_letters rfl (vp_in_nI (by omega) (by decide)) dX5_used_30 ?_
        rw [nI_clamp (n := i108) (by omega)]
        refine lv_bipush (v := 117) hx hb dX5_used_31 (by decide) ?_
        refine jn (α := Int32) (E := (if (gA σ 3 i108) = 117 then (if (gA σ 4 i108) = p2 then (x8_3 + (gA σ 5 i108)) else x8_3) else x8_3)) (Kp := fun y => ∀ (H : Heap) (locs : List Loc), va_P D vwCl (wM ad kk σ) H → va_D (aL 23 ad s.heap.size) (wM ad kk σ) → va_S (aL 23 ad s.heap.size) s.heap H locs → W p l e (headSpec wsX5_used { frames := 0, cells := 0, slots := 0, locals := 0 }).room s m ([.ref (ad 0), .int (nI j1), .int p2] : List Value).toArray below meth c H locs 0 0 Q (F0 m 60 ls (.int y :: []))) (fun Vy2 hVy2 Ky2 => ?_) (fun y2 hy_y2 => ?_)
        · refine lv_icmp_ne (tgt := 59) hx hb dX5_used_33 (by decide) (fun c3 => ?_) (fun c3 => ?_)
          · rw [if_neg c3] at hVy2
            refine lv_iload_n hx hb dX5_used_59 rfl (lv_at hl 3 rfl) ?_
            exact Ky2 x8_3 hVy2 _ _ hP hD hS
          · rw [if_pos c3] at hVy2
            refine lv_aload_n hx hb dX5_used_36 rfl (lv_at hl 0 rfl) ?_
            refine va_get (D := D) (ci := 5) (v := .ref (ad 4)) (C := RX5) (T := TX5) (N := 27) hx hb ht inX5 hown hK hP 0 g_Md rfl 6 (by decide) (ht _ mw_579) (fun _ h9 => h9) rfl dX5_used_37 ?_
            refine lv_iload hx hb dX5_used_40 (lv_at hl 4 rfl) ?_
            refine va_iald (i := nI i108) hx hb hK hP 4 0 g_m_firsts rfl (vp_in_nI (by omega) (by decide)) dX5_used_42 ?_
            rw [nI_clamp (n := i108) (by omega)]
            refine lv_iload_n hx hb dX5_used_43 rfl (lv_at hl 2 rfl) ?_
            refine lv_icmp_ne (tgt := 59) hx hb dX5_used_44 (by decide) (fun c4 => ?_) (fun c4 => ?_)
            · rw [if_neg c4] at hVy2
              refine lv_iload_n hx hb dX5_used_59 rfl (lv_at hl 3 rfl) ?_
              exact Ky2 x8_3 hVy2 _ _ hP hD hS
            · rw [if_pos c4] at hVy2
              refine lv_iload_n hx hb dX5_used_47 rfl (lv_at hl 3 rfl) ?_
              refine lv_aload_n hx hb dX5_used_48 rfl (lv_at hl 0 rfl) ?_
              refine va_get (D := D) (ci := 5) (v := .ref (ad 5)) (C := RX5) (T := TX5) (N := 27) hx hb ht inX5 hown hK hP 0 g_Md rfl 7 (by decide) (ht _ mw_580) (fun _ h9 => h9) rfl dX5_used_49 ?_
              refine lv_iload hx hb dX5_used_52 (lv_at hl 4 rfl) ?_
              refine va_iald (i := nI i108) hx hb hK hP 5 0 g_m_seconds rfl (vp_in_nI (by omega) (by decide)) dX5_used_54 ?_
              rw [nI_clamp (n := i108) (by omega)]
              refine lv_iadd hx hb dX5_used_55 ?_
              refine lv_goto (tgt := 60) hx hb dX5_used_56 (by decide) ?_
              exact Ky2 (x8_3 + (gA σ 5 i108)) hVy2 _ _ hP hD hS
        · intro H locs hP hD hS
          rw [← hy_y2, vb_eq] at hT
          refine lv_istore_n (lv' := [(3, .int y2), (0, .ref (ad 0)), (1, .int (nI j1)), (2, .int p2), (4, .int (nI i108))]) hx hb dX5_used_60 rfl hl (by decide) rfl (fun ls hl => ?_)
          refine lv_iinc (v := nI (i108 + 1)) (lv' := [(4, .int (nI (i108 + 1))), (3, .int y2), (0, .ref (ad 0)), (1, .int (nI j1)), (2, .int p2)]) hx hb dX5_used_61 hl (k := 4) rfl (nI_1 i108) (by decide) rfl (fun ls hl => ?_)
          refine lv_goto (tgt := 8) hx hb dX5_used_64 (by decide) ?_
          exact ih  (i108 + 1) y2 _ _ ls h_lt (by omega) hP hD hS (lv_sub hl [2, 3, 4, 1, 0] rfl) hT
  rw [M_m_used, nI_clamp (n := j1) (by omega), N_m_used] at hT
  refine lv_iconst (v := 0) hx hb dX5_used_0 (by decide) ?_
  refine lv_istore_n (lv' := [(3, .int 0), (0, .ref (ad 0)), (1, .int (nI j1)), (2, .int p2)]) hx hb dX5_used_1 rfl hl (by decide) rfl (fun ls hl => ?_)
  refine lv_bipush (v := 10) hx hb dX5_used_2 (by decide) ?_
  refine lv_iload_n hx hb dX5_used_4 rfl (lv_at hl 2 rfl) ?_
  refine lv_imul hx hb dX5_used_5 ?_
  refine lv_topE (pk_mul 10 j1) ?_
  refine lv_istore (lv' := [(4, .int (nI (10 * j1))), (3, .int 0), (0, .ref (ad 0)), (1, .int (nI j1)), (2, .int p2)]) hx hb dX5_used_6 hl (by decide) rfl (fun ls hl => ?_)
  exact L_8 11 (10 * j1) 0 _ _ ls (by omega) (by omega) hP hD hS (lv_sub hl [2, 3, 4, 1, 0] rfl) hT
set_option maxHeartbeats 4000000 in
set_option maxRecDepth 100000 in
theorem k_m_has (l : Launch) (D : va_G) (ad : Nat → Nat) (kk : Nat → ClassId) (sz : Nat) (σ : St) (p1 : Int32) (p2 : Int32) (p3 : Int32) (hn1 : vp_in p1 12) (hI : IM σ) : Met l yX5_has wsX5_has { frames := 0, cells := 0, slots := 0, locals := 0 } (va_Pc [.ref (ad 0), .int p1, .int p2, .int p3] (PM D ad kk sz σ)) (va_Qi (fun r u => r = M_m_has σ p1 p2 p3 ∧ u = σ) (QM D ad kk sz) (aL 23 ad sz)) 0 0 (aL 23 ad sz) := by
  obtain ⟨j1, hj1, rfl⟩ := vp_in_of hn1 (by decide)
  refine Met.ofW (cc := cX5_has) (maxL := 6) (ret := (some .boolean)) (by decide) rfl ?_
  intro p e s m args below meth c s₁ B hml hv
  obtain ⟨rfl, hsz, hP, hK, hD0⟩ := hv
  have hx := B.exec
  have hb := B.bytes
  have hr := B.returns
  have hts := atoms_spec (ws := wsX5_has) B.pre
  have hown : s.vm.findClass RX5 = some m.cls := findClass_of_methodNamed B.named
  have hlocks := B.notSynchronized
  subst hsz
  have hD : va_D (aL 23 ad s.heap.size) (wM ad kk σ) := aL_D hD0
  have hS : va_S (aL 23 ad s.heap.size) s.heap s.heap [] := va_S.rf
  have hl := lv_entry ([.ref (ad 0), .int (nI j1), .int p2, .int p3]) (n := 6) (Nat.le_of_ble_eq_true rfl)
  rw [lg_entry_eq]
  generalize (lg_sl ([.ref (ad 0), .int (nI j1), .int p2, .int p3]) ++ List.replicate (6 - (lg_sl ([.ref (ad 0), .int (nI j1), .int p2, .int p3])).length) Slot.unset).toArray = ls at hl ⊢
  have hl : lv_has ls 6 [(0, .ref (ad 0)), (1, .int (nI j1)), (2, .int p2), (3, .int p3)] := hl
  have CF : CallFix p m c cX5_has 6 s ([.ref (ad 0), .int (nI j1), .int p2, .int p3] : List Value).toArray wsX5_has RX5 := ⟨hx, hb, hml, hown, hts⟩
  have ht : ∀ w ∈ T0, w.before ([.ref (ad 0), .int (nI j1), .int p2, .int p3] : List Value).toArray s = true := fun w h => hts w (List.mem_cons_of_mem _ h)
  generalize hT : M_m_has σ (nI j1) p2 p3 = T
  refine namedQ (fun Q eQ => ?_)
  have L_9 : ∀ (n i109 : Nat) (x9_4 : Int32) (H : Heap) (locs : List Loc) (ls : Array Slot), i109 ≤ 10 * j1 + 10 → 10 * j1 + 10 + 1 ≤ i109 + n → x9_4 = 0 ∨ x9_4 = 1 → va_P D vwCl (wM ad kk σ) H → va_D (aL 23 ad s.heap.size) (wM ad kk σ) → va_S (aL 23 ad s.heap.size) s.heap H locs → lv_has ls 6 [(0, .ref (ad 0)), (1, .int (nI j1)), (2, .int p2), (3, .int p3), (4, .int x9_4), (5, .int (nI i109))] → M_m_has_h9 n i109 x9_4 j1 σ p2 p3 = T → W p l e (headSpec wsX5_has { frames := 0, cells := 0, slots := 0, locals := 0 }).room s m ([.ref (ad 0), .int (nI j1), .int p2, .int p3] : List Value).toArray below meth c H locs 0 0 Q (F0 m 9 ls []) := by
    intro n
    induction n with
    | zero =>
      intro i109 x9_4 H locs ls h_le h_fu hv0 hP hD hS hl hT
      exact absurd h_fu (by omega)
    | succ n ih =>
      intro i109 x9_4 H locs ls h_le h_fu hv0 hP hD hS hl hT
      rw [M_m_has_h9] at hT
      refine lv_iload hx hb dX5_has_9 (lv_at hl 5 rfl) ?_
      refine lv_bipush (v := 10) hx hb dX5_has_11 (by decide) ?_
      refine lv_iload_n hx hb dX5_has_13 rfl (lv_at hl 1 rfl) ?_
      refine lv_imul hx hb dX5_has_14 ?_
      refine lv_topE (pk_mul 10 j1) ?_
      refine lv_aload_n hx hb dX5_has_15 rfl (lv_at hl 0 rfl) ?_
      refine va_get (D := D) (ci := 5) (v := .ref (ad 2)) (C := RX5) (T := TX5) (N := 27) hx hb ht inX5 hown hK hP 0 g_Md rfl 4 (by decide) (ht _ mw_577) (fun _ h9 => h9) rfl dX5_has_16 ?_
      refine lv_iload_n hx hb dX5_has_19 rfl (lv_at hl 1 rfl) ?_
      refine va_iald (i := nI j1) hx hb hK hP 2 0 g_m_many rfl (vp_in_nI (by omega) (by decide)) dX5_has_20 ?_
      rw [nI_clamp (n := j1) (by omega)]
      refine lv_iadd hx hb dX5_has_21 ?_
      refine lv_icmp_ge (tgt := 70) hx hb dX5_has_22 (by decide) (fun c1 => ?_) (fun c1 => ?_)
      · rw [if_pos c1] at hT
        refine lv_iload hx hb dX5_has_70 (lv_at hl 4 rfl) ?_
        rw [eQ]
        exact W.zret (v := x9_4) hx hb hr (nb01 hv0) (fun t ht hW => ⟨⟨x9_4, σ, rfl, ⟨hT, rfl⟩, by rw [ht]; exact hP, va_K.moved hW.alike hK, hD⟩, hS.F ht⟩) hS.2.2 dX5_has_72
      · rw [if_neg c1] at hT
        have h_lt := lp_lt2 (hI.many hj1) (by omega) h_le c1
        refine lv_iload hx hb dX5_has_25 (lv_at hl 4 rfl) ?_
        refine jn (α := Int32) (E := (if x9_4 = 0 then (if (gA σ 3 i109) = p2 then (if p3 = (-1) then 1 else (if (gA σ 4 i109) = p3 then 1 else 0)) else 0) else 1)) (Kp := fun y => ∀ (H : Heap) (locs : List Loc), va_P D vwCl (wM ad kk σ) H → va_D (aL 23 ad s.heap.size) (wM ad kk σ) → va_S (aL 23 ad s.heap.size) s.heap H locs → W p l e (headSpec wsX5_has { frames := 0, cells := 0, slots := 0, locals := 0 }).room s m ([.ref (ad 0), .int (nI j1), .int p2, .int p3] : List Value).toArray below meth c H locs 0 0 Q (F0 m 62 ls (.int y :: []))) (fun Vy2 hVy2 Ky2 => ?_) (fun y2 hy_y2 => ?_)
        · refine lv_if_ne (tgt := 57) hx hb dX5_has_27 (by decide) (fun c3 => ?_) (fun c3 => ?_)
          · rw [if_neg c3] at hVy2
            refine lv_iconst (v := 1) hx hb dX5_has_57 (by decide) ?_
            refine lv_goto (tgt := 62) hx hb dX5_has_58 (by decide) ?_
            exact Ky2 1 hVy2 _ _ hP hD hS
          · rw [if_pos c3] at hVy2
            refine lv_aload_n hx hb dX5_has_30 rfl (lv_at hl 0 rfl) ?_
            refine va_get (D := D) (ci := 5) (v := .ref (ad 3)) (C := RX5) (T := TX5) (N := 27) hx hb ht inX5 hown hK hP 0 g_Md rfl 5 (by decide) (ht _ mw_578) (fun _ h9 => h9) rfl dX5_has_31 ?_
            refine lv_iload hx hb dX5_has_34 (lv_at hl 5 rfl) ?_
            refine va_iald (i := nI i109) hx hb hK hP 3 0 g_m_letters rfl (vp_in_nI (by omega) (by decide)) dX5_has_36 ?_
            rw [nI_clamp (n := i109) (by omega)]
            refine lv_iload_n hx hb dX5_has_37 rfl (lv_at hl 2 rfl) ?_
            refine lv_icmp_ne (tgt := 61) hx hb dX5_has_38 (by decide) (fun c4 => ?_) (fun c4 => ?_)
            · rw [if_neg c4] at hVy2
              refine lv_iconst (v := 0) hx hb dX5_has_61 (by decide) ?_
              exact Ky2 0 hVy2 _ _ hP hD hS
            · rw [if_pos c4] at hVy2
              refine lv_iload_n hx hb dX5_has_41 rfl (lv_at hl 3 rfl) ?_
              refine lv_iconst (v := (-1)) hx hb dX5_has_42 (by decide) ?_
              refine lv_icmp_eq (tgt := 57) hx hb dX5_has_43 (by decide) (fun c5 => ?_) (fun c5 => ?_)
              · rw [if_pos c5] at hVy2
                refine lv_iconst (v := 1) hx hb dX5_has_57 (by decide) ?_
                refine lv_goto (tgt := 62) hx hb dX5_has_58 (by decide) ?_
                exact Ky2 1 hVy2 _ _ hP hD hS
              · rw [if_neg c5] at hVy2
                refine lv_aload_n hx hb dX5_has_46 rfl (lv_at hl 0 rfl) ?_
                refine va_get (D := D) (ci := 5) (v := .ref (ad 4)) (C := RX5) (T := TX5) (N := 27) hx hb ht inX5 hown hK hP 0 g_Md rfl 6 (by decide) (ht _ mw_579) (fun _ h9 => h9) rfl dX5_has_47 ?_
                refine lv_iload hx hb dX5_has_50 (lv_at hl 5 rfl) ?_
                refine va_iald (i := nI i109) hx hb hK hP 4 0 g_m_firsts rfl (vp_in_nI (by omega) (by decide)) dX5_has_52 ?_
                rw [nI_clamp (n := i109) (by omega)]
                refine lv_iload_n hx hb dX5_has_53 rfl (lv_at hl 3 rfl) ?_
                refine lv_icmp_ne (tgt := 61) hx hb dX5_has_54 (by decide) (fun c6 => ?_) (fun c6 => ?_)
                · rw [if_neg c6] at hVy2
                  refine lv_iconst (v := 0) hx hb dX5_has_61 (by decide) ?_
                  exact Ky2 0 hVy2 _ _ hP hD hS
                · rw [if_pos c6] at hVy2
                  refine lv_iconst (v := 1) hx hb dX5_has_57 (by decide) ?_
                  refine lv_goto (tgt := 62) hx hb dX5_has_58 (by decide) ?_
                  exact Ky2 1 hVy2 _ _ hP hD hS
        · intro H locs hP hD hS
          rw [← hy_y2, vb_eq] at hT
          have b_y2 : y2 = 0 ∨ y2 = 1 := by rw [hy_y2]; (repeat' split) <;> first | exact Or.inl rfl | exact Or.inr rfl
          refine lv_istore (lv' := [(4, .int y2), (0, .ref (ad 0)), (1, .int (nI j1)), (2, .int p2), (3, .int p3), (5, .int (nI i109))]) hx hb dX5_has_62 hl (by decide) rfl (fun ls hl => ?_)
          refine lv_iinc (v := nI (i109 + 1)) (lv' := [(5, .int (nI (i109 + 1))), (4, .int y2), (0, .ref (ad 0)), (1, .int (nI j1)), (2, .int p2), (3, .int p3)]) hx hb dX5_has_64 hl (k := 5) rfl (nI_1 i109) (by decide) rfl (fun ls hl => ?_)
          refine lv_goto (tgt := 9) hx hb dX5_has_67 (by decide) ?_
          exact ih  (i109 + 1) y2 _ _ ls h_lt (by omega) b_y2 hP hD hS (lv_sub hl [2, 3, 4, 5, 1, 0] rfl) hT
  rw [M_m_has, nI_clamp (n := j1) (by omega), N_m_has] at hT
  refine lv_iconst (v := 0) hx hb dX5_has_0 (by decide) ?_
  refine lv_istore (lv' := [(4, .int 0), (0, .ref (ad 0)), (1, .int (nI j1)), (2, .int p2), (3, .int p3)]) hx hb dX5_has_1 hl (by decide) rfl (fun ls hl => ?_)
  refine lv_bipush (v := 10) hx hb dX5_has_3 (by decide) ?_
  refine lv_iload_n hx hb dX5_has_5 rfl (lv_at hl 2 rfl) ?_
  refine lv_imul hx hb dX5_has_6 ?_
  refine lv_topE (pk_mul 10 j1) ?_
  refine lv_istore (lv' := [(5, .int (nI (10 * j1))), (4, .int 0), (0, .ref (ad 0)), (1, .int (nI j1)), (2, .int p2), (3, .int p3)]) hx hb dX5_has_7 hl (by decide) rfl (fun ls hl => ?_)
  exact L_9 11 (10 * j1) 0 _ _ ls (by omega) (by omega) (Or.inl rfl) hP hD hS (lv_sub hl [2, 3, 4, 5, 1, 0] rfl) hT
set_option maxHeartbeats 4000000 in
set_option maxRecDepth 100000 in
theorem k_m_latest (l : Launch) (D : va_G) (ad : Nat → Nat) (kk : Nat → ClassId) (sz : Nat) (σ : St) (p1 : Int32) (p2 : Int32) (hn1 : vp_in p1 10) (hI : IM σ) : Met l yX5_latest wsX5_latest { frames := 0, cells := 0, slots := 0, locals := 0 } (va_Pc [.ref (ad 0), .int p1, .int p2] (PM D ad kk sz σ)) (va_Qi (fun r u => r = M_m_latest σ p1 p2 ∧ u = σ) (QM D ad kk sz) (aL 23 ad sz)) 0 0 (aL 23 ad sz) := by
  obtain ⟨j1, hj1, rfl⟩ := vp_in_of hn1 (by decide)
  refine Met.ofW (cc := cX5_latest) (maxL := 5) (ret := (some .int)) (by decide) rfl ?_
  intro p e s m args below meth c s₁ B hml hv
  obtain ⟨rfl, hsz, hP, hK, hD0⟩ := hv
  have hx := B.exec
  have hb := B.bytes
  have hr := B.returns
  have hts := atoms_spec (ws := wsX5_latest) B.pre
  have hown : s.vm.findClass RX5 = some m.cls := findClass_of_methodNamed B.named
  have hlocks := B.notSynchronized
  subst hsz
  have hD : va_D (aL 23 ad s.heap.size) (wM ad kk σ) := aL_D hD0
  have hS : va_S (aL 23 ad s.heap.size) s.heap s.heap [] := va_S.rf
  have hl := lv_entry ([.ref (ad 0), .int (nI j1), .int p2]) (n := 5) (Nat.le_of_ble_eq_true rfl)
  rw [lg_entry_eq]
  generalize (lg_sl ([.ref (ad 0), .int (nI j1), .int p2]) ++ List.replicate (5 - (lg_sl ([.ref (ad 0), .int (nI j1), .int p2])).length) Slot.unset).toArray = ls at hl ⊢
  have hl : lv_has ls 5 [(0, .ref (ad 0)), (1, .int (nI j1)), (2, .int p2)] := hl
  have CF : CallFix p m c cX5_latest 5 s ([.ref (ad 0), .int (nI j1), .int p2] : List Value).toArray wsX5_latest RX5 := ⟨hx, hb, hml, hown, hts⟩
  have ht : ∀ w ∈ T0, w.before ([.ref (ad 0), .int (nI j1), .int p2] : List Value).toArray s = true := fun w h => hts w (List.mem_cons_of_mem _ h)
  generalize hT : M_m_latest σ (nI j1) p2 = T
  refine namedQ (fun Q eQ => ?_)
  have L_8 : ∀ (n i108 : Nat) (x8_3 : Int32) (H : Heap) (locs : List Loc) (ls : Array Slot), i108 ≤ 30 * j1 + 30 → 30 * j1 + 30 + 1 ≤ i108 + n → va_P D vwCl (wM ad kk σ) H → va_D (aL 23 ad s.heap.size) (wM ad kk σ) → va_S (aL 23 ad s.heap.size) s.heap H locs → lv_has ls 5 [(0, .ref (ad 0)), (1, .int (nI j1)), (2, .int p2), (3, .int x8_3), (4, .int (nI i108))] → M_m_latest_h8 n i108 x8_3 j1 σ p2 = T → W p l e (headSpec wsX5_latest { frames := 0, cells := 0, slots := 0, locals := 0 }).room s m ([.ref (ad 0), .int (nI j1), .int p2] : List Value).toArray below meth c H locs 0 0 Q (F0 m 8 ls []) := by
    intro n
    induction n with
    | zero =>
      intro i108 x8_3 H locs ls h_le h_fu hP hD hS hl hT
      exact absurd h_fu (by omega)
    | succ n ih =>
      intro i108 x8_3 H locs ls h_le h_fu hP hD hS hl hT
      rw [M_m_latest_h8] at hT
      refine lv_iload hx hb dX5_latest_8 (lv_at hl 4 rfl) ?_
      refine lv_bipush (v := 30) hx hb dX5_latest_10 (by decide) ?_
      refine lv_iload_n hx hb dX5_latest_12 rfl (lv_at hl 1 rfl) ?_
      refine lv_imul hx hb dX5_latest_13 ?_
      refine lv_topE (pk_mul 30 j1) ?_
      refine lv_aload_n hx hb dX5_latest_14 rfl (lv_at hl 0 rfl) ?_
      refine va_get (D := D) (ci := 5) (v := .ref (ad 10)) (C := RX5) (T := TX5) (N := 27) hx hb ht inX5 hown hK hP 0 g_Md rfl 13 (by decide) (ht _ mw_586) (fun _ h9 => h9) rfl dX5_latest_15 ?_
      refine lv_iload_n hx hb dX5_latest_18 rfl (lv_at hl 1 rfl) ?_
      refine va_iald (i := nI j1) hx hb hK hP 10 0 g_m_rows rfl (vp_in_nI (by omega) (by decide)) dX5_latest_19 ?_
      rw [nI_clamp (n := j1) (by omega)]
      refine lv_iadd hx hb dX5_latest_20 ?_
      refine lv_icmp_ge (tgt := 53) hx hb dX5_latest_21 (by decide) (fun c1 => ?_) (fun c1 => ?_)
      · rw [if_pos c1] at hT
        refine lv_iload_n hx hb dX5_latest_53 rfl (lv_at hl 3 rfl) ?_
        rw [eQ]
        exact W.iret (v := x8_3) hx hb hr (fun t ht hW => ⟨⟨x8_3, σ, rfl, ⟨hT, rfl⟩, by rw [ht]; exact hP, va_K.moved hW.alike hK, hD⟩, hS.F ht⟩) hS.2.2 dX5_latest_54
      · rw [if_neg c1] at hT
        have h_lt := lp_lt2 (hI.rows hj1) (by omega) h_le c1
        refine lv_aload_n hx hb dX5_latest_24 rfl (lv_at hl 0 rfl) ?_
        refine va_get (D := D) (ci := 5) (v := .ref (ad 11)) (C := RX5) (T := TX5) (N := 27) hx hb ht inX5 hown hK hP 0 g_Md rfl 14 (by decide) (ht _ mw_587) (fun _ h9 => h9) rfl dX5_latest_25 ?_
        refine lv_iload hx hb dX5_latest_28 (lv_at hl 4 rfl) ?_
        refine va_iald (i := nI i108) hx hb hK hP 11 0 g_m_rowMethods rfl (vp_in_nI (by omega) (by decide)) dX5_latest_30 ?_
        rw [nI_clamp (n := i108) (by omega)]
        refine lv_iload_n hx hb dX5_latest_31 rfl (lv_at hl 2 rfl) ?_
        refine jn (α := Int32) (E := (if (gA σ 11 i108) = p2 then (gA σ 12 i108) else x8_3)) (Kp := fun y => ∀ (H : Heap) (locs : List Loc), va_P D vwCl (wM ad kk σ) H → va_D (aL 23 ad s.heap.size) (wM ad kk σ) → va_S (aL 23 ad s.heap.size) s.heap H locs → W p l e (headSpec wsX5_latest { frames := 0, cells := 0, slots := 0, locals := 0 }).room s m ([.ref (ad 0), .int (nI j1), .int p2] : List Value).toArray below meth c H locs 0 0 Q (F0 m 46 ls (.int y :: []))) (fun Vy2 hVy2 Ky2 => ?_) (fun y2 hy_y2 => ?_)
        · refine lv_icmp_ne (tgt := 45) hx hb dX5_latest_32 (by decide) (fun c3 => ?_) (fun c3 => ?_)
          · rw [if_neg c3] at hVy2
            refine lv_iload_n hx hb dX5_latest_45 rfl (lv_at hl 3 rfl) ?_
            exact Ky2 x8_3 hVy2 _ _ hP hD hS
          · rw [if_pos c3] at hVy2
            refine lv_aload_n hx hb dX5_latest_35 rfl (lv_at hl 0 rfl) ?_
            refine va_get (D := D) (ci := 5) (v := .ref (ad 12)) (C := RX5) (T := TX5) (N := 27) hx hb ht inX5 hown hK hP 0 g_Md rfl 15 (by decide) (ht _ mw_588) (fun _ h9 => h9) rfl dX5_latest_36 ?_
            refine lv_iload hx hb dX5_latest_39 (lv_at hl 4 rfl) ?_
            refine va_iald (i := nI i108) hx hb hK hP 12 0 g_m_rowHours rfl (vp_in_nI (by omega) (by decide)) dX5_latest_41 ?_
            rw [nI_clamp (n := i108) (by omega)]
            refine lv_goto (tgt := 46) hx hb dX5_latest_42 (by decide) ?_
            exact Ky2 (gA σ 12 i108) hVy2 _ _ hP hD hS
        · intro H locs hP hD hS
          rw [← hy_y2, vb_eq] at hT
          refine lv_istore_n (lv' := [(3, .int y2), (0, .ref (ad 0)), (1, .int (nI j1)), (2, .int p2), (4, .int (nI i108))]) hx hb dX5_latest_46 rfl hl (by decide) rfl (fun ls hl => ?_)
          refine lv_iinc (v := nI (i108 + 1)) (lv' := [(4, .int (nI (i108 + 1))), (3, .int y2), (0, .ref (ad 0)), (1, .int (nI j1)), (2, .int p2)]) hx hb dX5_latest_47 hl (k := 4) rfl (nI_1 i108) (by decide) rfl (fun ls hl => ?_)
          refine lv_goto (tgt := 8) hx hb dX5_latest_50 (by decide) ?_
          exact ih  (i108 + 1) y2 _ _ ls h_lt (by omega) hP hD hS (lv_sub hl [2, 3, 4, 1, 0] rfl) hT
  rw [M_m_latest, nI_clamp (n := j1) (by omega), N_m_latest] at hT
  refine lv_iconst (v := (-1)) hx hb dX5_latest_0 (by decide) ?_
  refine lv_istore_n (lv' := [(3, .int (-1)), (0, .ref (ad 0)), (1, .int (nI j1)), (2, .int p2)]) hx hb dX5_latest_1 rfl hl (by decide) rfl (fun ls hl => ?_)
  refine lv_bipush (v := 30) hx hb dX5_latest_2 (by decide) ?_
  refine lv_iload_n hx hb dX5_latest_4 rfl (lv_at hl 2 rfl) ?_
  refine lv_imul hx hb dX5_latest_5 ?_
  refine lv_topE (pk_mul 30 j1) ?_
  refine lv_istore (lv' := [(4, .int (nI (30 * j1))), (3, .int (-1)), (0, .ref (ad 0)), (1, .int (nI j1)), (2, .int p2)]) hx hb dX5_latest_6 hl (by decide) rfl (fun ls hl => ?_)
  exact L_8 31 (30 * j1) (-1) _ _ ls (by omega) (by omega) hP hD hS (lv_sub hl [2, 3, 4, 1, 0] rfl) hT
set_option maxHeartbeats 4000000 in
set_option maxRecDepth 100000 in
theorem k_m_barred (l : Launch) (D : va_G) (ad : Nat → Nat) (kk : Nat → ClassId) (sz : Nat) (σ : St) (p1 : Int32) (p2 : Int32) (hn1 : vp_in p1 10) (hn2 : vp_in p2 12) (hI : IM σ) : Met l yX5_barred wsX5_barred { frames := 1, cells := 0, slots := 0, locals := 25 } (va_Pc [.ref (ad 0), .int p1, .int p2] (PM D ad kk sz σ)) (va_Qi (fun r u => r = M_m_barred σ p1 p2 ∧ u = σ) (QM D ad kk sz) (aL 23 ad sz)) 0 0 (aL 23 ad sz) := by
  obtain ⟨j1, hj1, rfl⟩ := vp_in_of hn1 (by decide)
  obtain ⟨j2, hj2, rfl⟩ := vp_in_of hn2 (by decide)
  refine Met.ofW (cc := cX5_barred) (maxL := 4) (ret := (some .int)) (by decide) rfl ?_
  intro p e s m args below meth c s₁ B hml hv
  obtain ⟨rfl, hsz, hP, hK, hD0⟩ := hv
  have hx := B.exec
  have hb := B.bytes
  have hr := B.returns
  have hts := atoms_spec (ws := wsX5_barred) B.pre
  have hown : s.vm.findClass RX5 = some m.cls := findClass_of_methodNamed B.named
  have hlocks := B.notSynchronized
  subst hsz
  have hD : va_D (aL 23 ad s.heap.size) (wM ad kk σ) := aL_D hD0
  have hS : va_S (aL 23 ad s.heap.size) s.heap s.heap [] := va_S.rf
  have hl := lv_entry ([.ref (ad 0), .int (nI j1), .int (nI j2)]) (n := 4) (Nat.le_of_ble_eq_true rfl)
  rw [lg_entry_eq]
  generalize (lg_sl ([.ref (ad 0), .int (nI j1), .int (nI j2)]) ++ List.replicate (4 - (lg_sl ([.ref (ad 0), .int (nI j1), .int (nI j2)])).length) Slot.unset).toArray = ls at hl ⊢
  have hl : lv_has ls 4 [(0, .ref (ad 0)), (1, .int (nI j1)), (2, .int (nI j2))] := hl
  have CF : CallFix p m c cX5_barred 4 s ([.ref (ad 0), .int (nI j1), .int (nI j2)] : List Value).toArray wsX5_barred RX5 := ⟨hx, hb, hml, hown, hts⟩
  have ht : ∀ w ∈ T0, w.before ([.ref (ad 0), .int (nI j1), .int (nI j2)] : List Value).toArray s = true := fun w h => hts w (List.mem_cons_of_mem _ h)
  generalize hT : M_m_barred σ (nI j1) (nI j2) = T
  refine namedQ (fun Q eQ => ?_)
  have L_2 : ∀ (n i102 : Nat) (H : Heap) (locs : List Loc) (ls : Array Slot), i102 ≤ 8 → 9 ≤ i102 + n → va_P D vwCl (wM ad kk σ) H → va_D (aL 23 ad s.heap.size) (wM ad kk σ) → va_S (aL 23 ad s.heap.size) s.heap H locs → lv_has ls 4 [(0, .ref (ad 0)), (1, .int (nI j1)), (2, .int (nI j2)), (3, .int (nI i102))] → M_m_barred_h2 n i102 σ j1 j2 = T → W p l e (headSpec wsX5_barred { frames := 1, cells := 0, slots := 0, locals := 25 }).room s m ([.ref (ad 0), .int (nI j1), .int (nI j2)] : List Value).toArray below meth c H locs 0 0 Q (F0 m 2 ls []) := by
    intro n
    induction n with
    | zero =>
      intro i102 H locs ls h_le h_fu hP hD hS hl hT
      exact absurd h_fu (by omega)
    | succ n ih =>
      intro i102 H locs ls h_le h_fu hP hD hS hl hT
      rw [M_m_barred_h2] at hT
      refine lv_iload_n hx hb dX5_barred_2 rfl (lv_at hl 3 rfl) ?_
      refine lv_aload_n hx hb dX5_barred_3 rfl (lv_at hl 0 rfl) ?_
      refine va_get (D := D) (ci := 5) (v := .ref (ad 8)) (C := RX5) (T := TX5) (N := 27) hx hb ht inX5 hown hK hP 0 g_Md rfl 11 (by decide) (ht _ mw_584) (fun _ h9 => h9) rfl dX5_barred_4 ?_
      refine lv_iload_n hx hb dX5_barred_7 rfl (lv_at hl 1 rfl) ?_
      refine va_iald (i := nI j1) hx hb hK hP 8 0 g_m_parts rfl (vp_in_nI (by omega) (by decide)) dX5_barred_8 ?_
      rw [nI_clamp (n := j1) (by omega)]
      refine lv_icmp_ge (tgt := 41) hx hb dX5_barred_9 (by decide) (fun c1 => ?_) (fun c1 => ?_)
      · rw [if_pos c1] at hT
        refine lv_iconst (v := (-1)) hx hb dX5_barred_41 (by decide) ?_
        rw [eQ]
        exact W.iret (v := (-1)) hx hb hr (fun t ht hW => ⟨⟨(-1), σ, rfl, ⟨hT, rfl⟩, by rw [ht]; exact hP, va_K.moved hW.alike hK, hD⟩, hS.F ht⟩) hS.2.2 dX5_barred_42
      · rw [if_neg c1] at hT
        have h_lt := lp_lt (N := 8) (by decide) (hI.parts hj1).2 h_le c1
        refine lv_aload_n hx hb dX5_barred_12 rfl (lv_at hl 0 rfl) ?_
        refine lv_iload_n hx hb dX5_barred_13 rfl (lv_at hl 2 rfl) ?_
        refine lv_bipush (v := 98) hx hb dX5_barred_14 (by decide) ?_
        refine lv_aload_n hx hb dX5_barred_16 rfl (lv_at hl 0 rfl) ?_
        refine va_get (D := D) (ci := 5) (v := .ref (ad 9)) (C := RX5) (T := TX5) (N := 27) hx hb ht inX5 hown hK hP 0 g_Md rfl 12 (by decide) (ht _ mw_585) (fun _ h9 => h9) rfl dX5_barred_17 ?_
        refine lv_bipush (v := 8) hx hb dX5_barred_20 (by decide) ?_
        refine lv_iload_n hx hb dX5_barred_22 rfl (lv_at hl 1 rfl) ?_
        refine lv_imul hx hb dX5_barred_23 ?_
        refine lv_topE (pk_mul 8 j1) ?_
        refine lv_iload_n hx hb dX5_barred_24 rfl (lv_at hl 3 rfl) ?_
        refine lv_iadd hx hb dX5_barred_25 ?_
        refine lv_topE (nI_add (8 * j1) i102) ?_
        refine va_iald (i := nI ((8 * j1) + i102)) hx hb hK hP 9 0 g_m_materials rfl (vp_in_nI (by omega) (by decide)) dX5_barred_26 ?_
        rw [nI_clamp (n := ((8 * j1) + i102)) (by omega)]
        refine kM_i (va_runV (As := [.int (nI j2), .int 98, .int (gA σ 9 ((8 * j1) + i102))]) (rest := []) CF (k_m_has l D ad kk _ σ (nI j2) 98 (gA σ 9 ((8 * j1) + i102)) (vp_in_nI (n := j2) (by omega) (by decide)) hI) ⟨callB_of 3 hts (gT mw_737) rfl rfl rfl (ht _ mw_6) (ht _ mw_734) (by decide +kernel) ⟨Nat.le_of_ble_eq_true rfl, Nat.le_of_ble_eq_true rfl⟩, (ht _ mw_736), (ht _ ms_30)⟩ (preV_M hK hP hD hS (ci := 5) rfl rfl g_Md) rfl rfl hl.1 rfl (lv_room (Nat.le_of_ble_eq_true rfl)) dX5_barred_27 ⟨Nat.le_of_ble_eq_true rfl, Nat.le_of_ble_eq_true rfl⟩) hS (fun r2 u9 H locs hw hP hD hS => ?_)
        obtain ⟨rfl, e9⟩ := hw
        rw [e9] at hP hD
        refine lv_if_eq (tgt := 35) hx hb dX5_barred_30 (by decide) (fun c3 => ?_) (fun c3 => ?_)
        · rw [if_pos c3] at hT
          refine lv_iinc (v := nI (i102 + 1)) (lv' := [(3, .int (nI (i102 + 1))), (0, .ref (ad 0)), (1, .int (nI j1)), (2, .int (nI j2))]) hx hb dX5_barred_35 hl (k := 3) rfl (nI_1 i102) (by decide) rfl (fun ls hl => ?_)
          refine lv_goto (tgt := 2) hx hb dX5_barred_38 (by decide) ?_
          exact ih  (i102 + 1) _ _ ls h_lt (by omega) hP hD hS (lv_sub hl [1, 2, 3, 0] rfl) hT
        · rw [if_neg c3] at hT
          refine lv_iload_n hx hb dX5_barred_33 rfl (lv_at hl 3 rfl) ?_
          rw [eQ]
          exact W.iret (v := nI i102) hx hb hr (fun t ht hW => ⟨⟨nI i102, σ, rfl, ⟨hT, rfl⟩, by rw [ht]; exact hP, va_K.moved hW.alike hK, hD⟩, hS.F ht⟩) hS.2.2 dX5_barred_34
  rw [M_m_barred, nI_clamp (n := j1) (by omega), nI_clamp (n := j2) (by omega), N_m_barred] at hT
  refine lv_iconst (v := 0) hx hb dX5_barred_0 (by decide) ?_
  refine lv_istore_n (lv' := [(3, .int 0), (0, .ref (ad 0)), (1, .int (nI j1)), (2, .int (nI j2))]) hx hb dX5_barred_1 rfl hl (by decide) rfl (fun ls hl => ?_)
  exact L_2 9 0 _ _ ls (Nat.zero_le _) (by decide) hP hD hS (lv_sub hl [1, 2, 3, 0] rfl) hT
set_option maxHeartbeats 4000000 in
set_option maxRecDepth 100000 in
theorem k_m_waits (l : Launch) (D : va_G) (ad : Nat → Nat) (kk : Nat → ClassId) (sz : Nat) (σ : St) (p1 : Int32) (p2 : Int32) (p3 : Int32) (p4 : Int32) (hn1 : vp_in p1 10) (hn2 : vp_in p2 12) (hI : IM σ) : Met l yX5_waits wsX5_waits { frames := 1, cells := 0, slots := 0, locals := 24 } (va_Pc [.ref (ad 0), .int p1, .int p2, .int p3, .int p4] (PM D ad kk sz σ)) (va_Qi (fun r u => r = M_m_waits σ p1 p2 p3 p4 ∧ u = σ) (QM D ad kk sz) (aL 23 ad sz)) 0 0 (aL 23 ad sz) := by
  obtain ⟨j1, hj1, rfl⟩ := vp_in_of hn1 (by decide)
  obtain ⟨j2, hj2, rfl⟩ := vp_in_of hn2 (by decide)
  refine Met.ofW (cc := cX5_waits) (maxL := 8) (ret := (some .boolean)) (by decide) rfl ?_
  intro p e s m args below meth c s₁ B hml hv
  obtain ⟨rfl, hsz, hP, hK, hD0⟩ := hv
  have hx := B.exec
  have hb := B.bytes
  have hr := B.returns
  have hts := atoms_spec (ws := wsX5_waits) B.pre
  have hown : s.vm.findClass RX5 = some m.cls := findClass_of_methodNamed B.named
  have hlocks := B.notSynchronized
  subst hsz
  have hD : va_D (aL 23 ad s.heap.size) (wM ad kk σ) := aL_D hD0
  have hS : va_S (aL 23 ad s.heap.size) s.heap s.heap [] := va_S.rf
  have hl := lv_entry ([.ref (ad 0), .int (nI j1), .int (nI j2), .int p3, .int p4]) (n := 8) (Nat.le_of_ble_eq_true rfl)
  rw [lg_entry_eq]
  generalize (lg_sl ([.ref (ad 0), .int (nI j1), .int (nI j2), .int p3, .int p4]) ++ List.replicate (8 - (lg_sl ([.ref (ad 0), .int (nI j1), .int (nI j2), .int p3, .int p4])).length) Slot.unset).toArray = ls at hl ⊢
  have hl : lv_has ls 8 [(0, .ref (ad 0)), (1, .int (nI j1)), (2, .int (nI j2)), (3, .int p3), (4, .int p4)] := hl
  have CF : CallFix p m c cX5_waits 8 s ([.ref (ad 0), .int (nI j1), .int (nI j2), .int p3, .int p4] : List Value).toArray wsX5_waits RX5 := ⟨hx, hb, hml, hown, hts⟩
  have ht : ∀ w ∈ T0, w.before ([.ref (ad 0), .int (nI j1), .int (nI j2), .int p3, .int p4] : List Value).toArray s = true := fun w h => hts w (List.mem_cons_of_mem _ h)
  generalize hT : M_m_waits σ (nI j1) (nI j2) p3 p4 = T
  refine namedQ (fun Q eQ => ?_)
  have L_9 : ∀ (n i109 : Nat) (x9_5 : Int32) (H : Heap) (locs : List Loc) (ls : Array Slot), i109 ≤ 10 * j2 + 10 → 10 * j2 + 10 + 1 ≤ i109 + n → x9_5 = 0 ∨ x9_5 = 1 → va_P D vwCl (wM ad kk σ) H → va_D (aL 23 ad s.heap.size) (wM ad kk σ) → va_S (aL 23 ad s.heap.size) s.heap H locs → lv_has ls 8 [(0, .ref (ad 0)), (1, .int (nI j1)), (2, .int (nI j2)), (3, .int p3), (4, .int p4), (5, .int x9_5), (6, .int (nI i109))] → M_m_waits_h9 n i109 x9_5 j2 σ p3 j1 p4 = T → W p l e (headSpec wsX5_waits { frames := 1, cells := 0, slots := 0, locals := 24 }).room s m ([.ref (ad 0), .int (nI j1), .int (nI j2), .int p3, .int p4] : List Value).toArray below meth c H locs 0 0 Q (F0 m 9 ls []) := by
    intro n
    induction n with
    | zero =>
      intro i109 x9_5 H locs ls h_le h_fu hv0 hP hD hS hl hT
      exact absurd h_fu (by omega)
    | succ n ih =>
      intro i109 x9_5 H locs ls h_le h_fu hv0 hP hD hS hl hT
      rw [M_m_waits_h9] at hT
      refine lv_iload hx hb dX5_waits_9 (lv_at hl 6 rfl) ?_
      refine lv_bipush (v := 10) hx hb dX5_waits_11 (by decide) ?_
      refine lv_iload_n hx hb dX5_waits_13 rfl (lv_at hl 2 rfl) ?_
      refine lv_imul hx hb dX5_waits_14 ?_
      refine lv_topE (pk_mul 10 j2) ?_
      refine lv_aload_n hx hb dX5_waits_15 rfl (lv_at hl 0 rfl) ?_
      refine va_get (D := D) (ci := 5) (v := .ref (ad 2)) (C := RX5) (T := TX5) (N := 27) hx hb ht inX5 hown hK hP 0 g_Md rfl 4 (by decide) (ht _ mw_577) (fun _ h9 => h9) rfl dX5_waits_16 ?_
      refine lv_iload_n hx hb dX5_waits_19 rfl (lv_at hl 2 rfl) ?_
      refine va_iald (i := nI j2) hx hb hK hP 2 0 g_m_many rfl (vp_in_nI (by omega) (by decide)) dX5_waits_20 ?_
      rw [nI_clamp (n := j2) (by omega)]
      refine lv_iadd hx hb dX5_waits_21 ?_
      refine lv_icmp_ge (tgt := 107) hx hb dX5_waits_22 (by decide) (fun c1 => ?_) (fun c1 => ?_)
      · rw [if_pos c1] at hT
        refine lv_iload hx hb dX5_waits_107 (lv_at hl 5 rfl) ?_
        rw [eQ]
        exact W.zret (v := x9_5) hx hb hr (nb01 hv0) (fun t ht hW => ⟨⟨x9_5, σ, rfl, ⟨hT, rfl⟩, by rw [ht]; exact hP, va_K.moved hW.alike hK, hD⟩, hS.F ht⟩) hS.2.2 dX5_waits_109
      · rw [if_neg c1] at hT
        have h_lt := lp_lt2 (hI.many hj2) (by omega) h_le c1
        refine lv_aload_n hx hb dX5_waits_25 rfl (lv_at hl 0 rfl) ?_
        refine va_get (D := D) (ci := 5) (v := .ref (ad 3)) (C := RX5) (T := TX5) (N := 27) hx hb ht inX5 hown hK hP 0 g_Md rfl 5 (by decide) (ht _ mw_578) (fun _ h9 => h9) rfl dX5_waits_26 ?_
        refine lv_iload hx hb dX5_waits_29 (lv_at hl 6 rfl) ?_
        refine va_iald (i := nI i109) hx hb hK hP 3 0 g_m_letters rfl (vp_in_nI (by omega) (by decide)) dX5_waits_31 ?_
        rw [nI_clamp (n := i109) (by omega)]
        refine lv_bipush (v := 97) hx hb dX5_waits_32 (by decide) ?_
        refine jn (α := Int32) (E := (if (gA σ 3 i109) = 97 then (if (gA σ 4 i109) = p3 then 1 else 0) else 0)) (Kp := fun y => ∀ (H : Heap) (locs : List Loc), va_P D vwCl (wM ad kk σ) H → va_D (aL 23 ad s.heap.size) (wM ad kk σ) → va_S (aL 23 ad s.heap.size) s.heap H locs → W p l e (headSpec wsX5_waits { frames := 1, cells := 0, slots := 0, locals := 24 }).room s m ([.ref (ad 0), .int (nI j1), .int (nI j2), .int p3, .int p4] : List Value).toArray below meth c H locs 0 0 Q (F0 m 53 ls (.int y :: []))) (fun Vy2 hVy2 Ky2 => ?_) (fun y2 hy_y2 => ?_)
        · refine lv_icmp_ne (tgt := 52) hx hb dX5_waits_34 (by decide) (fun c3 => ?_) (fun c3 => ?_)
          · rw [if_neg c3] at hVy2
            refine lv_iconst (v := 0) hx hb dX5_waits_52 (by decide) ?_
            exact Ky2 0 hVy2 _ _ hP hD hS
          · rw [if_pos c3] at hVy2
            refine lv_aload_n hx hb dX5_waits_37 rfl (lv_at hl 0 rfl) ?_
            refine va_get (D := D) (ci := 5) (v := .ref (ad 4)) (C := RX5) (T := TX5) (N := 27) hx hb ht inX5 hown hK hP 0 g_Md rfl 6 (by decide) (ht _ mw_579) (fun _ h9 => h9) rfl dX5_waits_38 ?_
            refine lv_iload hx hb dX5_waits_41 (lv_at hl 6 rfl) ?_
            refine va_iald (i := nI i109) hx hb hK hP 4 0 g_m_firsts rfl (vp_in_nI (by omega) (by decide)) dX5_waits_43 ?_
            rw [nI_clamp (n := i109) (by omega)]
            refine lv_iload_n hx hb dX5_waits_44 rfl (lv_at hl 3 rfl) ?_
            refine lv_icmp_ne (tgt := 52) hx hb dX5_waits_45 (by decide) (fun c4 => ?_) (fun c4 => ?_)
            · rw [if_neg c4] at hVy2
              refine lv_iconst (v := 0) hx hb dX5_waits_52 (by decide) ?_
              exact Ky2 0 hVy2 _ _ hP hD hS
            · rw [if_pos c4] at hVy2
              refine lv_iconst (v := 1) hx hb dX5_waits_48 (by decide) ?_
              refine lv_goto (tgt := 53) hx hb dX5_waits_49 (by decide) ?_
              exact Ky2 1 hVy2 _ _ hP hD hS
        · intro H locs hP hD hS
          rw [← hy_y2, vb_eq] at hT
          have b_y2 : y2 = 0 ∨ y2 = 1 := by rw [hy_y2]; (repeat' split) <;> first | exact Or.inl rfl | exact Or.inr rfl
          refine lv_istore (lv' := [(7, .int y2), (0, .ref (ad 0)), (1, .int (nI j1)), (2, .int (nI j2)), (3, .int p3), (4, .int p4), (5, .int x9_5), (6, .int (nI i109))]) hx hb dX5_waits_53 hl (by decide) rfl (fun ls hl => ?_)
          refine lv_iload hx hb dX5_waits_55 (lv_at hl 6 rfl) ?_
          refine jn (α := Int32) (E := (if x9_5 = 0 then (if y2 = 0 then 0 else (if (M_m_latest σ (nI j1) p3) = (-1) then 1 else (if ((M_m_latest σ (nI j1) p3) + (gA σ 5 i109)) ≤ p4 then 0 else 1))) else 1)) (Kp := fun y => ∀ (H : Heap) (locs : List Loc), va_P D vwCl (wM ad kk σ) H → va_D (aL 23 ad s.heap.size) (wM ad kk σ) → va_S (aL 23 ad s.heap.size) s.heap H locs → W p l e (headSpec wsX5_waits { frames := 1, cells := 0, slots := 0, locals := 24 }).room s m ([.ref (ad 0), .int (nI j1), .int (nI j2), .int p3, .int p4] : List Value).toArray below meth c H locs 0 0 Q (F0 m 99 ls (.int y :: []))) (fun Vy5 hVy5 Ky5 => ?_) (fun y5 hy_y5 => ?_)
          · refine lv_if_ne (tgt := 94) hx hb dX5_waits_57 (by decide) (fun c6 => ?_) (fun c6 => ?_)
            · rw [if_neg c6] at hVy5
              refine lv_iconst (v := 1) hx hb dX5_waits_94 (by decide) ?_
              refine lv_goto (tgt := 99) hx hb dX5_waits_95 (by decide) ?_
              exact Ky5 1 hVy5 _ _ hP hD hS
            · rw [if_pos c6] at hVy5
              refine lv_iload hx hb dX5_waits_60 (lv_at hl 0 rfl) ?_
              refine lv_if_eq (tgt := 98) hx hb dX5_waits_62 (by decide) (fun c7 => ?_) (fun c7 => ?_)
              · rw [if_pos c7] at hVy5
                refine lv_iconst (v := 0) hx hb dX5_waits_98 (by decide) ?_
                exact Ky5 0 hVy5 _ _ hP hD hS
              · rw [if_neg c7] at hVy5
                refine lv_aload_n hx hb dX5_waits_65 rfl (lv_at hl 1 rfl) ?_
                refine lv_iload_n hx hb dX5_waits_66 rfl (lv_at hl 2 rfl) ?_
                refine lv_iload_n hx hb dX5_waits_67 rfl (lv_at hl 4 rfl) ?_
                refine kM_i (va_runV (As := [.int (nI j1), .int p3]) (rest := []) CF (k_m_latest l D ad kk _ σ (nI j1) p3 (vp_in_nI (n := j1) (by omega) (by decide)) hI) ⟨callB_of 2 hts (gT mw_741) rfl rfl rfl (ht _ mw_6) (ht _ mw_738) (by decide +kernel) ⟨Nat.le_of_ble_eq_true rfl, Nat.le_of_ble_eq_true rfl⟩, (ht _ mw_740), (ht _ ms_31)⟩ (preV_M hK hP hD hS (ci := 5) rfl rfl g_Md) rfl rfl hl.1 rfl (lv_room (Nat.le_of_ble_eq_true rfl)) dX5_waits_68 ⟨Nat.le_of_ble_eq_true rfl, Nat.le_of_ble_eq_true rfl⟩) hS (fun r8 u9 H locs hw hP hD hS => ?_)
                obtain ⟨rfl, e9⟩ := hw
                rw [e9] at hP hD
                refine lv_iconst (v := (-1)) hx hb dX5_waits_71 (by decide) ?_
                refine lv_icmp_eq (tgt := 94) hx hb dX5_waits_72 (by decide) (fun c9 => ?_) (fun c9 => ?_)
                · rw [if_pos c9] at hVy5
                  refine lv_iconst (v := 1) hx hb dX5_waits_94 (by decide) ?_
                  refine lv_goto (tgt := 99) hx hb dX5_waits_95 (by decide) ?_
                  exact Ky5 1 hVy5 _ _ hP hD hS
                · rw [if_neg c9] at hVy5
                  refine lv_aload_n hx hb dX5_waits_75 rfl (lv_at hl 1 rfl) ?_
                  refine lv_iload_n hx hb dX5_waits_76 rfl (lv_at hl 2 rfl) ?_
                  refine lv_iload_n hx hb dX5_waits_77 rfl (lv_at hl 4 rfl) ?_
                  refine kM_i (va_runV (As := [.int (nI j1), .int p3]) (rest := []) CF (k_m_latest l D ad kk _ σ (nI j1) p3 (vp_in_nI (n := j1) (by omega) (by decide)) hI) ⟨callB_of 2 hts (gT mw_741) rfl rfl rfl (ht _ mw_6) (ht _ mw_738) (by decide +kernel) ⟨Nat.le_of_ble_eq_true rfl, Nat.le_of_ble_eq_true rfl⟩, (ht _ mw_740), (ht _ ms_31)⟩ (preV_M hK hP hD hS (ci := 5) rfl rfl g_Md) rfl rfl hl.1 rfl (lv_room (Nat.le_of_ble_eq_true rfl)) dX5_waits_78 ⟨Nat.le_of_ble_eq_true rfl, Nat.le_of_ble_eq_true rfl⟩) hS (fun r10 u9 H locs hw hP hD hS => ?_)
                  obtain ⟨rfl, e9⟩ := hw
                  rw [e9] at hP hD
                  refine lv_aload_n hx hb dX5_waits_81 rfl (lv_at hl 1 rfl) ?_
                  refine va_get (D := D) (ci := 5) (v := .ref (ad 5)) (C := RX5) (T := TX5) (N := 27) hx hb ht inX5 hown hK hP 0 g_Md rfl 7 (by decide) (ht _ mw_580) (fun _ h9 => h9) rfl dX5_waits_82 ?_
                  refine lv_iload hx hb dX5_waits_85 (lv_at hl 7 rfl) ?_
                  refine va_iald (i := nI i109) hx hb hK hP 5 0 g_m_seconds rfl (vp_in_nI (by omega) (by decide)) dX5_waits_87 ?_
                  rw [nI_clamp (n := i109) (by omega)]
                  refine lv_iadd hx hb dX5_waits_88 ?_
                  refine lv_iload hx hb dX5_waits_89 (lv_at hl 5 rfl) ?_
                  refine lv_icmp_le (tgt := 98) hx hb dX5_waits_91 (by decide) (fun c11 => ?_) (fun c11 => ?_)
                  · rw [if_pos c11] at hVy5
                    refine lv_iconst (v := 0) hx hb dX5_waits_98 (by decide) ?_
                    exact Ky5 0 hVy5 _ _ hP hD hS
                  · rw [if_neg c11] at hVy5
                    refine lv_iconst (v := 1) hx hb dX5_waits_94 (by decide) ?_
                    refine lv_goto (tgt := 99) hx hb dX5_waits_95 (by decide) ?_
                    exact Ky5 1 hVy5 _ _ hP hD hS
          · intro H locs hP hD hS
            rw [← hy_y5, vb_eq] at hT
            have b_y5 : y5 = 0 ∨ y5 = 1 := by rw [hy_y5]; (repeat' split) <;> first | exact Or.inl rfl | exact Or.inr rfl
            refine lv_istore (lv' := [(5, .int y5), (7, .int y2), (0, .ref (ad 0)), (1, .int (nI j1)), (2, .int (nI j2)), (3, .int p3), (4, .int p4), (6, .int (nI i109))]) hx hb dX5_waits_99 hl (by decide) rfl (fun ls hl => ?_)
            refine lv_iinc (v := nI (i109 + 1)) (lv' := [(6, .int (nI (i109 + 1))), (5, .int y5), (7, .int y2), (0, .ref (ad 0)), (1, .int (nI j1)), (2, .int (nI j2)), (3, .int p3), (4, .int p4)]) hx hb dX5_waits_101 hl (k := 7) rfl (nI_1 i109) (by decide) rfl (fun ls hl => ?_)
            refine lv_goto (tgt := 9) hx hb dX5_waits_104 (by decide) ?_
            exact ih  (i109 + 1) y5 _ _ ls h_lt (by omega) b_y5 hP hD hS (lv_sub hl [3, 4, 5, 6, 7, 1, 0] rfl) hT
  rw [M_m_waits, nI_clamp (n := j1) (by omega), nI_clamp (n := j2) (by omega), N_m_waits] at hT
  refine lv_iconst (v := 0) hx hb dX5_waits_0 (by decide) ?_
  refine lv_istore (lv' := [(5, .int 0), (0, .ref (ad 0)), (1, .int (nI j1)), (2, .int (nI j2)), (3, .int p3), (4, .int p4)]) hx hb dX5_waits_1 hl (by decide) rfl (fun ls hl => ?_)
  refine lv_bipush (v := 10) hx hb dX5_waits_3 (by decide) ?_
  refine lv_iload_n hx hb dX5_waits_5 rfl (lv_at hl 3 rfl) ?_
  refine lv_imul hx hb dX5_waits_6 ?_
  refine lv_topE (pk_mul 10 j2) ?_
  refine lv_istore (lv' := [(6, .int (nI (10 * j2))), (5, .int 0), (0, .ref (ad 0)), (1, .int (nI j1)), (2, .int (nI j2)), (3, .int p3), (4, .int p4)]) hx hb dX5_waits_7 hl (by decide) rfl (fun ls hl => ?_)
  exact L_9 11 (10 * j2) 0 _ _ ls (by omega) (by omega) (Or.inl rfl) hP hD hS (lv_sub hl [2, 3, 4, 5, 6, 1, 0] rfl) hT
set_option maxHeartbeats 4000000 in
set_option maxRecDepth 100000 in
theorem k_m_hasPart (l : Launch) (D : va_G) (ad : Nat → Nat) (kk : Nat → ClassId) (sz : Nat) (σ : St) (p1 : Int32) (p2 : Int32) (hn1 : vp_in p1 10) (hI : IM σ) : Met l yX5_hasPart wsX5_hasPart { frames := 0, cells := 0, slots := 0, locals := 0 } (va_Pc [.ref (ad 0), .int p1, .int p2] (PM D ad kk sz σ)) (va_Qi (fun r u => r = M_m_hasPart σ p1 p2 ∧ u = σ) (QM D ad kk sz) (aL 23 ad sz)) 0 0 (aL 23 ad sz) := by
  obtain ⟨j1, hj1, rfl⟩ := vp_in_of hn1 (by decide)
  refine Met.ofW (cc := cX5_hasPart) (maxL := 5) (ret := (some .boolean)) (by decide) rfl ?_
  intro p e s m args below meth c s₁ B hml hv
  obtain ⟨rfl, hsz, hP, hK, hD0⟩ := hv
  have hx := B.exec
  have hb := B.bytes
  have hr := B.returns
  have hts := atoms_spec (ws := wsX5_hasPart) B.pre
  have hown : s.vm.findClass RX5 = some m.cls := findClass_of_methodNamed B.named
  have hlocks := B.notSynchronized
  subst hsz
  have hD : va_D (aL 23 ad s.heap.size) (wM ad kk σ) := aL_D hD0
  have hS : va_S (aL 23 ad s.heap.size) s.heap s.heap [] := va_S.rf
  have hl := lv_entry ([.ref (ad 0), .int (nI j1), .int p2]) (n := 5) (Nat.le_of_ble_eq_true rfl)
  rw [lg_entry_eq]
  generalize (lg_sl ([.ref (ad 0), .int (nI j1), .int p2]) ++ List.replicate (5 - (lg_sl ([.ref (ad 0), .int (nI j1), .int p2])).length) Slot.unset).toArray = ls at hl ⊢
  have hl : lv_has ls 5 [(0, .ref (ad 0)), (1, .int (nI j1)), (2, .int p2)] := hl
  have CF : CallFix p m c cX5_hasPart 5 s ([.ref (ad 0), .int (nI j1), .int p2] : List Value).toArray wsX5_hasPart RX5 := ⟨hx, hb, hml, hown, hts⟩
  have ht : ∀ w ∈ T0, w.before ([.ref (ad 0), .int (nI j1), .int p2] : List Value).toArray s = true := fun w h => hts w (List.mem_cons_of_mem _ h)
  generalize hT : M_m_hasPart σ (nI j1) p2 = T
  refine namedQ (fun Q eQ => ?_)
  have L_5 : ∀ (n i105 : Nat) (x5_3 : Int32) (H : Heap) (locs : List Loc) (ls : Array Slot), i105 ≤ 8 → 9 ≤ i105 + n → x5_3 = 0 ∨ x5_3 = 1 → va_P D vwCl (wM ad kk σ) H → va_D (aL 23 ad s.heap.size) (wM ad kk σ) → va_S (aL 23 ad s.heap.size) s.heap H locs → lv_has ls 5 [(0, .ref (ad 0)), (1, .int (nI j1)), (2, .int p2), (3, .int x5_3), (4, .int (nI i105))] → M_m_hasPart_h5 n i105 x5_3 σ j1 p2 = T → W p l e (headSpec wsX5_hasPart { frames := 0, cells := 0, slots := 0, locals := 0 }).room s m ([.ref (ad 0), .int (nI j1), .int p2] : List Value).toArray below meth c H locs 0 0 Q (F0 m 5 ls []) := by
    intro n
    induction n with
    | zero =>
      intro i105 x5_3 H locs ls h_le h_fu hv0 hP hD hS hl hT
      exact absurd h_fu (by omega)
    | succ n ih =>
      intro i105 x5_3 H locs ls h_le h_fu hv0 hP hD hS hl hT
      rw [M_m_hasPart_h5] at hT
      refine lv_iload hx hb dX5_hasPart_5 (lv_at hl 4 rfl) ?_
      refine lv_aload_n hx hb dX5_hasPart_7 rfl (lv_at hl 0 rfl) ?_
      refine va_get (D := D) (ci := 5) (v := .ref (ad 8)) (C := RX5) (T := TX5) (N := 27) hx hb ht inX5 hown hK hP 0 g_Md rfl 11 (by decide) (ht _ mw_584) (fun _ h9 => h9) rfl dX5_hasPart_8 ?_
      refine lv_iload_n hx hb dX5_hasPart_11 rfl (lv_at hl 1 rfl) ?_
      refine va_iald (i := nI j1) hx hb hK hP 8 0 g_m_parts rfl (vp_in_nI (by omega) (by decide)) dX5_hasPart_12 ?_
      rw [nI_clamp (n := j1) (by omega)]
      refine lv_icmp_ge (tgt := 48) hx hb dX5_hasPart_13 (by decide) (fun c1 => ?_) (fun c1 => ?_)
      · rw [if_pos c1] at hT
        refine lv_iload_n hx hb dX5_hasPart_48 rfl (lv_at hl 3 rfl) ?_
        rw [eQ]
        exact W.zret (v := x5_3) hx hb hr (nb01 hv0) (fun t ht hW => ⟨⟨x5_3, σ, rfl, ⟨hT, rfl⟩, by rw [ht]; exact hP, va_K.moved hW.alike hK, hD⟩, hS.F ht⟩) hS.2.2 dX5_hasPart_49
      · rw [if_neg c1] at hT
        have h_lt := lp_lt (N := 8) (by decide) (hI.parts hj1).2 h_le c1
        refine lv_iload_n hx hb dX5_hasPart_16 rfl (lv_at hl 3 rfl) ?_
        refine jn (α := Int32) (E := (if x5_3 = 0 then (if (gA σ 9 ((8 * j1) + i105)) = p2 then 1 else 0) else 1)) (Kp := fun y => ∀ (H : Heap) (locs : List Loc), va_P D vwCl (wM ad kk σ) H → va_D (aL 23 ad s.heap.size) (wM ad kk σ) → va_S (aL 23 ad s.heap.size) s.heap H locs → W p l e (headSpec wsX5_hasPart { frames := 0, cells := 0, slots := 0, locals := 0 }).room s m ([.ref (ad 0), .int (nI j1), .int p2] : List Value).toArray below meth c H locs 0 0 Q (F0 m 41 ls (.int y :: []))) (fun Vy2 hVy2 Ky2 => ?_) (fun y2 hy_y2 => ?_)
        · refine lv_if_ne (tgt := 36) hx hb dX5_hasPart_17 (by decide) (fun c3 => ?_) (fun c3 => ?_)
          · rw [if_neg c3] at hVy2
            refine lv_iconst (v := 1) hx hb dX5_hasPart_36 (by decide) ?_
            refine lv_goto (tgt := 41) hx hb dX5_hasPart_37 (by decide) ?_
            exact Ky2 1 hVy2 _ _ hP hD hS
          · rw [if_pos c3] at hVy2
            refine lv_aload_n hx hb dX5_hasPart_20 rfl (lv_at hl 0 rfl) ?_
            refine va_get (D := D) (ci := 5) (v := .ref (ad 9)) (C := RX5) (T := TX5) (N := 27) hx hb ht inX5 hown hK hP 0 g_Md rfl 12 (by decide) (ht _ mw_585) (fun _ h9 => h9) rfl dX5_hasPart_21 ?_
            refine lv_bipush (v := 8) hx hb dX5_hasPart_24 (by decide) ?_
            refine lv_iload_n hx hb dX5_hasPart_26 rfl (lv_at hl 1 rfl) ?_
            refine lv_imul hx hb dX5_hasPart_27 ?_
            refine lv_topE (pk_mul 8 j1) ?_
            refine lv_iload hx hb dX5_hasPart_28 (lv_at hl 4 rfl) ?_
            refine lv_iadd hx hb dX5_hasPart_30 ?_
            refine lv_topE (nI_add (8 * j1) i105) ?_
            refine va_iald (i := nI ((8 * j1) + i105)) hx hb hK hP 9 0 g_m_materials rfl (vp_in_nI (by omega) (by decide)) dX5_hasPart_31 ?_
            rw [nI_clamp (n := ((8 * j1) + i105)) (by omega)]
            refine lv_iload_n hx hb dX5_hasPart_32 rfl (lv_at hl 2 rfl) ?_
            refine lv_icmp_ne (tgt := 40) hx hb dX5_hasPart_33 (by decide) (fun c4 => ?_) (fun c4 => ?_)
            · rw [if_neg c4] at hVy2
              refine lv_iconst (v := 0) hx hb dX5_hasPart_40 (by decide) ?_
              exact Ky2 0 hVy2 _ _ hP hD hS
            · rw [if_pos c4] at hVy2
              refine lv_iconst (v := 1) hx hb dX5_hasPart_36 (by decide) ?_
              refine lv_goto (tgt := 41) hx hb dX5_hasPart_37 (by decide) ?_
              exact Ky2 1 hVy2 _ _ hP hD hS
        · intro H locs hP hD hS
          rw [← hy_y2, vb_eq] at hT
          have b_y2 : y2 = 0 ∨ y2 = 1 := by rw [hy_y2]; (repeat' split) <;> first | exact Or.inl rfl | exact Or.inr rfl
          refine lv_istore_n (lv' := [(3, .int y2), (0, .ref (ad 0)), (1, .int (nI j1)), (2, .int p2), (4, .int (nI i105))]) hx hb dX5_hasPart_41 rfl hl (by decide) rfl (fun ls hl => ?_)
          refine lv_iinc (v := nI (i105 + 1)) (lv' := [(4, .int (nI (i105 + 1))), (3, .int y2), (0, .ref (ad 0)), (1, .int (nI j1)), (2, .int p2)]) hx hb dX5_hasPart_42 hl (k := 4) rfl (nI_1 i105) (by decide) rfl (fun ls hl => ?_)
          refine lv_goto (tgt := 5) hx hb dX5_hasPart_45 (by decide) ?_
          exact ih  (i105 + 1) y2 _ _ ls h_lt (by omega) b_y2 hP hD hS (lv_sub hl [2, 3, 4, 1, 0] rfl) hT
  rw [M_m_hasPart, nI_clamp (n := j1) (by omega), N_m_hasPart] at hT
  refine lv_iconst (v := 0) hx hb dX5_hasPart_0 (by decide) ?_
  refine lv_istore_n (lv' := [(3, .int 0), (0, .ref (ad 0)), (1, .int (nI j1)), (2, .int p2)]) hx hb dX5_hasPart_1 rfl hl (by decide) rfl (fun ls hl => ?_)
  refine lv_iconst (v := 0) hx hb dX5_hasPart_2 (by decide) ?_
  refine lv_istore (lv' := [(4, .int 0), (3, .int 0), (0, .ref (ad 0)), (1, .int (nI j1)), (2, .int p2)]) hx hb dX5_hasPart_3 hl (by decide) rfl (fun ls hl => ?_)
  exact L_5 9 0 0 _ _ ls (Nat.zero_le _) (by decide) (Or.inl rfl) hP hD hS (lv_sub hl [2, 3, 4, 1, 0] rfl) hT
set_option maxHeartbeats 4000000 in
set_option maxRecDepth 100000 in
theorem k_m_why (l : Launch) (D : va_G) (ad : Nat → Nat) (kk : Nat → ClassId) (sz : Nat) (σ : St) (p1 : Int32) (p2 : Int32) (p3 : Int32) (p4 : Int32) (hn1 : vp_in p1 10) (hn2 : vp_in p2 12) (hn3 : vp_in p3 8) (hI : IM σ) : Met l yX5_why wsX5_why { frames := 2, cells := 0, slots := 0, locals := 51 } (va_Pc [.ref (ad 0), .int p1, .int p2, .int p3, .int p4] (PM D ad kk sz σ)) (va_Qi (fun r u => r = M_m_why σ p1 p2 p3 p4 ∧ u = σ) (QM D ad kk sz) (aL 23 ad sz)) 0 0 (aL 23 ad sz) := by
  obtain ⟨j1, hj1, rfl⟩ := vp_in_of hn1 (by decide)
  obtain ⟨j2, hj2, rfl⟩ := vp_in_of hn2 (by decide)
  obtain ⟨j3, hj3, rfl⟩ := vp_in_of hn3 (by decide)
  refine Met.ofW (cc := cX5_why) (maxL := 6) (ret := (some .int)) (by decide) rfl ?_
  intro p e s m args below meth c s₁ B hml hv
  obtain ⟨rfl, hsz, hP, hK, hD0⟩ := hv
  have hx := B.exec
  have hb := B.bytes
  have hr := B.returns
  have hts := atoms_spec (ws := wsX5_why) B.pre
  have hown : s.vm.findClass RX5 = some m.cls := findClass_of_methodNamed B.named
  have hlocks := B.notSynchronized
  subst hsz
  have hD : va_D (aL 23 ad s.heap.size) (wM ad kk σ) := aL_D hD0
  have hS : va_S (aL 23 ad s.heap.size) s.heap s.heap [] := va_S.rf
  have hl := lv_entry ([.ref (ad 0), .int (nI j1), .int (nI j2), .int (nI j3), .int p4]) (n := 6) (Nat.le_of_ble_eq_true rfl)
  rw [lg_entry_eq]
  generalize (lg_sl ([.ref (ad 0), .int (nI j1), .int (nI j2), .int (nI j3), .int p4]) ++ List.replicate (6 - (lg_sl ([.ref (ad 0), .int (nI j1), .int (nI j2), .int (nI j3), .int p4])).length) Slot.unset).toArray = ls at hl ⊢
  have hl : lv_has ls 6 [(0, .ref (ad 0)), (1, .int (nI j1)), (2, .int (nI j2)), (3, .int (nI j3)), (4, .int p4)] := hl
  have CF : CallFix p m c cX5_why 6 s ([.ref (ad 0), .int (nI j1), .int (nI j2), .int (nI j3), .int p4] : List Value).toArray wsX5_why RX5 := ⟨hx, hb, hml, hown, hts⟩
  have ht : ∀ w ∈ T0, w.before ([.ref (ad 0), .int (nI j1), .int (nI j2), .int (nI j3), .int p4] : List Value).toArray s = true := fun w h => hts w (List.mem_cons_of_mem _ h)
  generalize hT : M_m_why σ (nI j1) (nI j2) (nI j3) p4 = T
  refine namedQ (fun Q eQ => ?_)
  have L_164 : ∀ (n i264 : Nat) (H : Heap) (locs : List Loc) (ls : Array Slot), i264 ≤ 12 → 13 ≤ i264 + n → va_P D vwCl (wM ad kk σ) H → va_D (aL 23 ad s.heap.size) (wM ad kk σ) → va_S (aL 23 ad s.heap.size) s.heap H locs → lv_has ls 6 [(0, .ref (ad 0)), (1, .int (nI j1)), (2, .int (nI j2)), (3, .int (nI j3)), (4, .int p4), (5, .int (nI i264))] → M_m_why_h164 n i264 σ j3 j2 = T → W p l e (headSpec wsX5_why { frames := 2, cells := 0, slots := 0, locals := 51 }).room s m ([.ref (ad 0), .int (nI j1), .int (nI j2), .int (nI j3), .int p4] : List Value).toArray below meth c H locs 0 0 Q (F0 m 164 ls []) := by
    intro n
    induction n with
    | zero =>
      intro i264 H locs ls h_le h_fu hP hD hS hl hT
      exact absurd h_fu (by omega)
    | succ n ih =>
      intro i264 H locs ls h_le h_fu hP hD hS hl hT
      rw [M_m_why_h164] at hT
      refine lv_iload hx hb dX5_why_164 (lv_at hl 5 rfl) ?_
      refine lv_bipush (v := 12) hx hb dX5_why_166 (by decide) ?_
      refine lv_icmp_ge (tgt := 201) hx hb dX5_why_168 (by decide) (fun c6 => ?_) (fun c6 => ?_)
      · rw [if_pos c6] at hT
        refine lv_aload_n hx hb dX5_why_201 rfl (lv_at hl 0 rfl) ?_
        refine va_get (D := D) (ci := 5) (v := .ref (ad 7)) (C := RX5) (T := TX5) (N := 27) hx hb ht inX5 hown hK hP 0 g_Md rfl 9 (by decide) (ht _ mw_582) (fun _ h9 => h9) rfl dX5_why_202 ?_
        refine lv_bipush (v := 12) hx hb dX5_why_205 (by decide) ?_
        refine lv_iload_n hx hb dX5_why_207 rfl (lv_at hl 3 rfl) ?_
        refine lv_imul hx hb dX5_why_208 ?_
        refine lv_topE (pk_mul 12 j3) ?_
        refine lv_iload_n hx hb dX5_why_209 rfl (lv_at hl 2 rfl) ?_
        refine lv_iadd hx hb dX5_why_210 ?_
        refine lv_topE (nI_add (12 * j3) j2) ?_
        refine va_zald (i := nI ((12 * j3) + j2)) hx hb hK hP 7 1 g_m_rights rfl (vp_in_nI (by omega) (by decide)) dX5_why_211 ?_
        rw [nI_clamp (n := ((12 * j3) + j2)) (by omega)]
        refine jn (α := Int32) (E := (if (gA σ 7 ((12 * j3) + j2)) = 0 then 600 else 0)) (Kp := fun y => ∀ (H : Heap) (locs : List Loc), va_P D vwCl (wM ad kk σ) H → va_D (aL 23 ad s.heap.size) (wM ad kk σ) → va_S (aL 23 ad s.heap.size) s.heap H locs → W p l e (headSpec wsX5_why { frames := 2, cells := 0, slots := 0, locals := 51 }).room s m ([.ref (ad 0), .int (nI j1), .int (nI j2), .int (nI j3), .int p4] : List Value).toArray below meth c H locs 0 0 Q (F0 m 222 ls (.int y :: []))) (fun Vy7 hVy7 Ky7 => ?_) (fun y7 hy_y7 => ?_)
        · refine lv_if_eq (tgt := 219) hx hb dX5_why_212 (by decide) (fun c8 => ?_) (fun c8 => ?_)
          · rw [if_pos c8] at hVy7
            refine lv_sipush (v := 600) hx hb dX5_why_219 (by decide) ?_
            exact Ky7 600 hVy7 _ _ hP hD hS
          · rw [if_neg c8] at hVy7
            refine lv_iconst (v := 0) hx hb dX5_why_215 (by decide) ?_
            refine lv_goto (tgt := 222) hx hb dX5_why_216 (by decide) ?_
            exact Ky7 0 hVy7 _ _ hP hD hS
        · intro H locs hP hD hS
          rw [← hy_y7, vb_eq] at hT
          rw [eQ]
          exact W.iret (v := y7) hx hb hr (fun t ht hW => ⟨⟨y7, σ, rfl, ⟨hT, rfl⟩, by rw [ht]; exact hP, va_K.moved hW.alike hK, hD⟩, hS.F ht⟩) hS.2.2 dX5_why_222
      · rw [if_neg c6] at hT
        have h_lt := lp_lt (N := 12) (by decide) (by decide) h_le c6
        refine lv_aload_n hx hb dX5_why_171 rfl (lv_at hl 0 rfl) ?_
        refine lv_iload_n hx hb dX5_why_172 rfl (lv_at hl 2 rfl) ?_
        refine lv_iload hx hb dX5_why_173 (lv_at hl 5 rfl) ?_
        refine kM_i (va_runV (As := [.int (nI j2), .int (nI i264)]) (rest := []) CF (k_m_used l D ad kk _ σ (nI j2) (nI i264) (vp_in_nI (n := j2) (by omega) (by decide)) hI) ⟨callB_of 2 hts (gT mw_697) rfl rfl rfl (ht _ mw_6) (ht _ mw_694) (by decide +kernel) ⟨Nat.le_of_ble_eq_true rfl, Nat.le_of_ble_eq_true rfl⟩, (ht _ mw_696), (ht _ ms_26)⟩ (preV_M hK hP hD hS (ci := 5) rfl rfl g_Md) rfl rfl hl.1 rfl (lv_room (Nat.le_of_ble_eq_true rfl)) dX5_why_175 ⟨Nat.le_of_ble_eq_true rfl, Nat.le_of_ble_eq_true rfl⟩) hS (fun r9 u9 H locs hw hP hD hS => ?_)
        obtain ⟨rfl, e9⟩ := hw
        rw [e9] at hP hD
        refine lv_aload_n hx hb dX5_why_178 rfl (lv_at hl 0 rfl) ?_
        refine va_get (D := D) (ci := 5) (v := .ref (ad 15)) (C := RX5) (T := TX5) (N := 27) hx hb ht inX5 hown hK hP 0 g_Md rfl 18 (by decide) (ht _ mw_591) (fun _ h9 => h9) rfl dX5_why_179 ?_
        refine lv_iload hx hb dX5_why_182 (lv_at hl 5 rfl) ?_
        refine va_iald (i := nI i264) hx hb hK hP 15 0 g_m_stocks rfl (vp_in_nI (by omega) (by decide)) dX5_why_184 ?_
        rw [nI_clamp (n := i264) (by omega)]
        refine lv_icmp_le (tgt := 195) hx hb dX5_why_185 (by decide) (fun c10 => ?_) (fun c10 => ?_)
        · rw [if_pos c10] at hT
          refine lv_iinc (v := nI (i264 + 1)) (lv' := [(5, .int (nI (i264 + 1))), (0, .ref (ad 0)), (1, .int (nI j1)), (2, .int (nI j2)), (3, .int (nI j3)), (4, .int p4)]) hx hb dX5_why_195 hl (k := 5) rfl (nI_1 i264) (by decide) rfl (fun ls hl => ?_)
          refine lv_goto (tgt := 164) hx hb dX5_why_198 (by decide) ?_
          exact ih  (i264 + 1) _ _ ls h_lt (by omega) hP hD hS (lv_sub hl [1, 2, 3, 4, 5, 0] rfl) hT
        · rw [if_neg c10] at hT
          refine lv_sipush (v := 500) hx hb dX5_why_188 (by decide) ?_
          refine lv_iload hx hb dX5_why_191 (lv_at hl 5 rfl) ?_
          refine lv_iadd hx hb dX5_why_193 ?_
          refine lv_topE (nI_add 500 i264) ?_
          rw [eQ]
          exact W.iret (v := nI (500 + i264)) hx hb hr (fun t ht hW => ⟨⟨nI (500 + i264), σ, rfl, ⟨hT, rfl⟩, by rw [ht]; exact hP, va_K.moved hW.alike hK, hD⟩, hS.F ht⟩) hS.2.2 dX5_why_194
  have L_105 : ∀ (n i205 : Nat) (H : Heap) (locs : List Loc) (ls : Array Slot), i205 ≤ 10 → 11 ≤ i205 + n → va_P D vwCl (wM ad kk σ) H → va_D (aL 23 ad s.heap.size) (wM ad kk σ) → va_S (aL 23 ad s.heap.size) s.heap H locs → lv_has ls 6 [(0, .ref (ad 0)), (1, .int (nI j1)), (2, .int (nI j2)), (3, .int (nI j3)), (4, .int p4), (5, .int (nI i205))] → M_m_why_h105 n i205 σ j3 j2 j1 = T → W p l e (headSpec wsX5_why { frames := 2, cells := 0, slots := 0, locals := 51 }).room s m ([.ref (ad 0), .int (nI j1), .int (nI j2), .int (nI j3), .int p4] : List Value).toArray below meth c H locs 0 0 Q (F0 m 105 ls []) := by
    intro n
    induction n with
    | zero =>
      intro i205 H locs ls h_le h_fu hP hD hS hl hT
      exact absurd h_fu (by omega)
    | succ n ih =>
      intro i205 H locs ls h_le h_fu hP hD hS hl hT
      rw [M_m_why_h105] at hT
      refine lv_iload hx hb dX5_why_105 (lv_at hl 5 rfl) ?_
      refine lv_bipush (v := 10) hx hb dX5_why_107 (by decide) ?_
      refine lv_icmp_ge (tgt := 161) hx hb dX5_why_109 (by decide) (fun c5 => ?_) (fun c5 => ?_)
      · rw [if_pos c5] at hT
        refine lv_iconst (v := 0) hx hb dX5_why_161 (by decide) ?_
        refine lv_istore (lv' := [(5, .int 0), (0, .ref (ad 0)), (1, .int (nI j1)), (2, .int (nI j2)), (3, .int (nI j3)), (4, .int p4)]) hx hb dX5_why_162 hl (by decide) rfl (fun ls hl => ?_)
        exact L_164 13 0 _ _ ls (Nat.zero_le _) (by decide) hP hD hS (lv_sub hl [1, 2, 3, 4, 5, 0] rfl) hT
      · rw [if_neg c5] at hT
        have h_lt := lp_lt (N := 10) (by decide) (by decide) h_le c5
        refine lv_aload_n hx hb dX5_why_112 rfl (lv_at hl 0 rfl) ?_
        refine lv_iload_n hx hb dX5_why_113 rfl (lv_at hl 2 rfl) ?_
        refine lv_bipush (v := 116) hx hb dX5_why_114 (by decide) ?_
        refine lv_iconst (v := (-1)) hx hb dX5_why_116 (by decide) ?_
        refine kM_i (va_runV (As := [.int (nI j2), .int 116, .int (-1)]) (rest := []) CF (k_m_has l D ad kk _ σ (nI j2) 116 (-1) (vp_in_nI (n := j2) (by omega) (by decide)) hI) ⟨callB_of 3 hts (gT mw_737) rfl rfl rfl (ht _ mw_6) (ht _ mw_734) (by decide +kernel) ⟨Nat.le_of_ble_eq_true rfl, Nat.le_of_ble_eq_true rfl⟩, (ht _ mw_736), (ht _ ms_30)⟩ (preV_M hK hP hD hS (ci := 5) rfl rfl g_Md) rfl rfl hl.1 rfl (lv_room (Nat.le_of_ble_eq_true rfl)) dX5_why_117 ⟨Nat.le_of_ble_eq_true rfl, Nat.le_of_ble_eq_true rfl⟩) hS (fun r6 u9 H locs hw hP hD hS => ?_)
        obtain ⟨rfl, e9⟩ := hw
        rw [e9] at hP hD
        refine lv_if_eq (tgt := 155) hx hb dX5_why_120 (by decide) (fun c7 => ?_) (fun c7 => ?_)
        · rw [if_pos c7] at hT
          refine lv_iinc (v := nI (i205 + 1)) (lv' := [(5, .int (nI (i205 + 1))), (0, .ref (ad 0)), (1, .int (nI j1)), (2, .int (nI j2)), (3, .int (nI j3)), (4, .int p4)]) hx hb dX5_why_155 hl (k := 5) rfl (nI_1 i205) (by decide) rfl (fun ls hl => ?_)
          refine lv_goto (tgt := 105) hx hb dX5_why_158 (by decide) ?_
          exact ih  (i205 + 1) _ _ ls h_lt (by omega) hP hD hS (lv_sub hl [1, 2, 3, 4, 5, 0] rfl) hT
        · rw [if_neg c7] at hT
          refine lv_aload_n hx hb dX5_why_123 rfl (lv_at hl 0 rfl) ?_
          refine lv_iload_n hx hb dX5_why_124 rfl (lv_at hl 1 rfl) ?_
          refine lv_iload hx hb dX5_why_125 (lv_at hl 5 rfl) ?_
          refine kM_i (va_runV (As := [.int (nI j1), .int (nI i205)]) (rest := []) CF (k_m_hasPart l D ad kk _ σ (nI j1) (nI i205) (vp_in_nI (n := j1) (by omega) (by decide)) hI) ⟨callB_of 2 hts (gT mw_749) rfl rfl rfl (ht _ mw_6) (ht _ mw_746) (by decide +kernel) ⟨Nat.le_of_ble_eq_true rfl, Nat.le_of_ble_eq_true rfl⟩, (ht _ mw_748), (ht _ ms_33)⟩ (preV_M hK hP hD hS (ci := 5) rfl rfl g_Md) rfl rfl hl.1 rfl (lv_room (Nat.le_of_ble_eq_true rfl)) dX5_why_127 ⟨Nat.le_of_ble_eq_true rfl, Nat.le_of_ble_eq_true rfl⟩) hS (fun r8 u9 H locs hw hP hD hS => ?_)
          obtain ⟨rfl, e9⟩ := hw
          rw [e9] at hP hD
          refine lv_if_eq (tgt := 155) hx hb dX5_why_130 (by decide) (fun c9 => ?_) (fun c9 => ?_)
          · rw [if_pos c9] at hT
            refine lv_iinc (v := nI (i205 + 1)) (lv' := [(5, .int (nI (i205 + 1))), (0, .ref (ad 0)), (1, .int (nI j1)), (2, .int (nI j2)), (3, .int (nI j3)), (4, .int p4)]) hx hb dX5_why_155 hl (k := 5) rfl (nI_1 i205) (by decide) rfl (fun ls hl => ?_)
            refine lv_goto (tgt := 105) hx hb dX5_why_158 (by decide) ?_
            exact ih  (i205 + 1) _ _ ls h_lt (by omega) hP hD hS (lv_sub hl [1, 2, 3, 4, 5, 0] rfl) hT
          · rw [if_neg c9] at hT
            refine lv_aload_n hx hb dX5_why_133 rfl (lv_at hl 0 rfl) ?_
            refine va_get (D := D) (ci := 5) (v := .ref (ad 6)) (C := RX5) (T := TX5) (N := 27) hx hb ht inX5 hown hK hP 0 g_Md rfl 8 (by decide) (ht _ mw_581) (fun _ h9 => h9) rfl dX5_why_134 ?_
            refine lv_bipush (v := 10) hx hb dX5_why_137 (by decide) ?_
            refine lv_iload_n hx hb dX5_why_139 rfl (lv_at hl 2 rfl) ?_
            refine lv_imul hx hb dX5_why_140 ?_
            refine lv_topE (pk_mul 10 j2) ?_
            refine lv_iload hx hb dX5_why_141 (lv_at hl 5 rfl) ?_
            refine lv_iadd hx hb dX5_why_143 ?_
            refine lv_topE (nI_add (10 * j2) i205) ?_
            refine va_zald (i := nI ((10 * j2) + i205)) hx hb hK hP 6 1 g_m_trials rfl (vp_in_nI (by omega) (by decide)) dX5_why_144 ?_
            rw [nI_clamp (n := ((10 * j2) + i205)) (by omega)]
            refine lv_if_ne (tgt := 155) hx hb dX5_why_145 (by decide) (fun c10 => ?_) (fun c10 => ?_)
            · rw [if_neg c10] at hT
              refine lv_iinc (v := nI (i205 + 1)) (lv' := [(5, .int (nI (i205 + 1))), (0, .ref (ad 0)), (1, .int (nI j1)), (2, .int (nI j2)), (3, .int (nI j3)), (4, .int p4)]) hx hb dX5_why_155 hl (k := 5) rfl (nI_1 i205) (by decide) rfl (fun ls hl => ?_)
              refine lv_goto (tgt := 105) hx hb dX5_why_158 (by decide) ?_
              exact ih  (i205 + 1) _ _ ls h_lt (by omega) hP hD hS (lv_sub hl [1, 2, 3, 4, 5, 0] rfl) hT
            · rw [if_pos c10] at hT
              refine lv_sipush (v := 400) hx hb dX5_why_148 (by decide) ?_
              refine lv_iload hx hb dX5_why_151 (lv_at hl 5 rfl) ?_
              refine lv_iadd hx hb dX5_why_153 ?_
              refine lv_topE (nI_add 400 i205) ?_
              rw [eQ]
              exact W.iret (v := nI (400 + i205)) hx hb hr (fun t ht hW => ⟨⟨nI (400 + i205), σ, rfl, ⟨hT, rfl⟩, by rw [ht]; exact hP, va_K.moved hW.alike hK, hD⟩, hS.F ht⟩) hS.2.2 dX5_why_154
  have L_69 : ∀ (n i169 : Nat) (H : Heap) (locs : List Loc) (ls : Array Slot), i169 ≤ 12 → 13 ≤ i169 + n → va_P D vwCl (wM ad kk σ) H → va_D (aL 23 ad s.heap.size) (wM ad kk σ) → va_S (aL 23 ad s.heap.size) s.heap H locs → lv_has ls 6 [(0, .ref (ad 0)), (1, .int (nI j1)), (2, .int (nI j2)), (3, .int (nI j3)), (4, .int p4), (5, .int (nI i169))] → M_m_why_h69 n i169 σ j3 j2 j1 p4 = T → W p l e (headSpec wsX5_why { frames := 2, cells := 0, slots := 0, locals := 51 }).room s m ([.ref (ad 0), .int (nI j1), .int (nI j2), .int (nI j3), .int p4] : List Value).toArray below meth c H locs 0 0 Q (F0 m 69 ls []) := by
    intro n
    induction n with
    | zero =>
      intro i169 H locs ls h_le h_fu hP hD hS hl hT
      exact absurd h_fu (by omega)
    | succ n ih =>
      intro i169 H locs ls h_le h_fu hP hD hS hl hT
      rw [M_m_why_h69] at hT
      refine lv_iload hx hb dX5_why_69 (lv_at hl 5 rfl) ?_
      refine lv_bipush (v := 12) hx hb dX5_why_71 (by decide) ?_
      refine lv_icmp_ge (tgt := 102) hx hb dX5_why_73 (by decide) (fun c4 => ?_) (fun c4 => ?_)
      · rw [if_pos c4] at hT
        refine lv_iconst (v := 0) hx hb dX5_why_102 (by decide) ?_
        refine lv_istore (lv' := [(5, .int 0), (0, .ref (ad 0)), (1, .int (nI j1)), (2, .int (nI j2)), (3, .int (nI j3)), (4, .int p4)]) hx hb dX5_why_103 hl (by decide) rfl (fun ls hl => ?_)
        exact L_105 11 0 _ _ ls (Nat.zero_le _) (by decide) hP hD hS (lv_sub hl [1, 2, 3, 4, 5, 0] rfl) hT
      · rw [if_neg c4] at hT
        have h_lt := lp_lt (N := 12) (by decide) (by decide) h_le c4
        refine lv_aload_n hx hb dX5_why_76 rfl (lv_at hl 0 rfl) ?_
        refine lv_iload_n hx hb dX5_why_77 rfl (lv_at hl 1 rfl) ?_
        refine lv_iload_n hx hb dX5_why_78 rfl (lv_at hl 2 rfl) ?_
        refine lv_iload hx hb dX5_why_79 (lv_at hl 5 rfl) ?_
        refine lv_iload hx hb dX5_why_81 (lv_at hl 4 rfl) ?_
        refine kM_i (va_runV (As := [.int (nI j1), .int (nI j2), .int (nI i169), .int p4]) (rest := []) CF (k_m_waits l D ad kk _ σ (nI j1) (nI j2) (nI i169) p4 (vp_in_nI (n := j1) (by omega) (by decide)) (vp_in_nI (n := j2) (by omega) (by decide)) hI) ⟨callB_of 4 hts (gT mw_745) rfl rfl rfl (ht _ mw_6) (ht _ mw_742) (by decide +kernel) ⟨Nat.le_of_ble_eq_true rfl, Nat.le_of_ble_eq_true rfl⟩, (ht _ mw_744), (ht _ ms_32)⟩ (preV_M hK hP hD hS (ci := 5) rfl rfl g_Md) rfl rfl hl.1 rfl (lv_room (Nat.le_of_ble_eq_true rfl)) dX5_why_83 ⟨Nat.le_of_ble_eq_true rfl, Nat.le_of_ble_eq_true rfl⟩) hS (fun r5 u9 H locs hw hP hD hS => ?_)
        obtain ⟨rfl, e9⟩ := hw
        rw [e9] at hP hD
        refine lv_if_eq (tgt := 96) hx hb dX5_why_86 (by decide) (fun c6 => ?_) (fun c6 => ?_)
        · rw [if_pos c6] at hT
          refine lv_iinc (v := nI (i169 + 1)) (lv' := [(5, .int (nI (i169 + 1))), (0, .ref (ad 0)), (1, .int (nI j1)), (2, .int (nI j2)), (3, .int (nI j3)), (4, .int p4)]) hx hb dX5_why_96 hl (k := 5) rfl (nI_1 i169) (by decide) rfl (fun ls hl => ?_)
          refine lv_goto (tgt := 69) hx hb dX5_why_99 (by decide) ?_
          exact ih  (i169 + 1) _ _ ls h_lt (by omega) hP hD hS (lv_sub hl [1, 2, 3, 4, 5, 0] rfl) hT
        · rw [if_neg c6] at hT
          refine lv_sipush (v := 300) hx hb dX5_why_89 (by decide) ?_
          refine lv_iload hx hb dX5_why_92 (lv_at hl 5 rfl) ?_
          refine lv_iadd hx hb dX5_why_94 ?_
          refine lv_topE (nI_add 300 i169) ?_
          rw [eQ]
          exact W.iret (v := nI (300 + i169)) hx hb hr (fun t ht hW => ⟨⟨nI (300 + i169), σ, rfl, ⟨hT, rfl⟩, by rw [ht]; exact hP, va_K.moved hW.alike hK, hD⟩, hS.F ht⟩) hS.2.2 dX5_why_95
  have L_23 : ∀ (n i123 : Nat) (H : Heap) (locs : List Loc) (ls : Array Slot), i123 ≤ 12 → 13 ≤ i123 + n → va_P D vwCl (wM ad kk σ) H → va_D (aL 23 ad s.heap.size) (wM ad kk σ) → va_S (aL 23 ad s.heap.size) s.heap H locs → lv_has ls 6 [(0, .ref (ad 0)), (1, .int (nI j1)), (2, .int (nI j2)), (3, .int (nI j3)), (4, .int p4), (5, .int (nI i123))] → M_m_why_h23 n i123 σ j3 j2 j1 p4 = T → W p l e (headSpec wsX5_why { frames := 2, cells := 0, slots := 0, locals := 51 }).room s m ([.ref (ad 0), .int (nI j1), .int (nI j2), .int (nI j3), .int p4] : List Value).toArray below meth c H locs 0 0 Q (F0 m 23 ls []) := by
    intro n
    induction n with
    | zero =>
      intro i123 H locs ls h_le h_fu hP hD hS hl hT
      exact absurd h_fu (by omega)
    | succ n ih =>
      intro i123 H locs ls h_le h_fu hP hD hS hl hT
      rw [M_m_why_h23] at hT
      refine lv_iload hx hb dX5_why_23 (lv_at hl 5 rfl) ?_
      refine lv_bipush (v := 12) hx hb dX5_why_25 (by decide) ?_
      refine lv_icmp_ge (tgt := 66) hx hb dX5_why_27 (by decide) (fun c3 => ?_) (fun c3 => ?_)
      · rw [if_pos c3] at hT
        refine lv_iconst (v := 0) hx hb dX5_why_66 (by decide) ?_
        refine lv_istore (lv' := [(5, .int 0), (0, .ref (ad 0)), (1, .int (nI j1)), (2, .int (nI j2)), (3, .int (nI j3)), (4, .int p4)]) hx hb dX5_why_67 hl (by decide) rfl (fun ls hl => ?_)
        exact L_69 13 0 _ _ ls (Nat.zero_le _) (by decide) hP hD hS (lv_sub hl [1, 2, 3, 4, 5, 0] rfl) hT
      · rw [if_neg c3] at hT
        have h_lt := lp_lt (N := 12) (by decide) (by decide) h_le c3
        refine lv_aload_n hx hb dX5_why_30 rfl (lv_at hl 0 rfl) ?_
        refine lv_iload_n hx hb dX5_why_31 rfl (lv_at hl 2 rfl) ?_
        refine lv_bipush (v := 120) hx hb dX5_why_32 (by decide) ?_
        refine lv_iload hx hb dX5_why_34 (lv_at hl 5 rfl) ?_
        refine kM_i (va_runV (As := [.int (nI j2), .int 120, .int (nI i123)]) (rest := []) CF (k_m_has l D ad kk _ σ (nI j2) 120 (nI i123) (vp_in_nI (n := j2) (by omega) (by decide)) hI) ⟨callB_of 3 hts (gT mw_737) rfl rfl rfl (ht _ mw_6) (ht _ mw_734) (by decide +kernel) ⟨Nat.le_of_ble_eq_true rfl, Nat.le_of_ble_eq_true rfl⟩, (ht _ mw_736), (ht _ ms_30)⟩ (preV_M hK hP hD hS (ci := 5) rfl rfl g_Md) rfl rfl hl.1 rfl (lv_room (Nat.le_of_ble_eq_true rfl)) dX5_why_36 ⟨Nat.le_of_ble_eq_true rfl, Nat.le_of_ble_eq_true rfl⟩) hS (fun r4 u9 H locs hw hP hD hS => ?_)
        obtain ⟨rfl, e9⟩ := hw
        rw [e9] at hP hD
        refine lv_if_eq (tgt := 60) hx hb dX5_why_39 (by decide) (fun c5 => ?_) (fun c5 => ?_)
        · rw [if_pos c5] at hT
          refine lv_iinc (v := nI (i123 + 1)) (lv' := [(5, .int (nI (i123 + 1))), (0, .ref (ad 0)), (1, .int (nI j1)), (2, .int (nI j2)), (3, .int (nI j3)), (4, .int p4)]) hx hb dX5_why_60 hl (k := 5) rfl (nI_1 i123) (by decide) rfl (fun ls hl => ?_)
          refine lv_goto (tgt := 23) hx hb dX5_why_63 (by decide) ?_
          exact ih  (i123 + 1) _ _ ls h_lt (by omega) hP hD hS (lv_sub hl [1, 2, 3, 4, 5, 0] rfl) hT
        · rw [if_neg c5] at hT
          refine lv_aload_n hx hb dX5_why_42 rfl (lv_at hl 0 rfl) ?_
          refine lv_iload_n hx hb dX5_why_43 rfl (lv_at hl 1 rfl) ?_
          refine lv_iload hx hb dX5_why_44 (lv_at hl 5 rfl) ?_
          refine kM_i (va_runV (As := [.int (nI j1), .int (nI i123)]) (rest := []) CF (k_m_latest l D ad kk _ σ (nI j1) (nI i123) (vp_in_nI (n := j1) (by omega) (by decide)) hI) ⟨callB_of 2 hts (gT mw_741) rfl rfl rfl (ht _ mw_6) (ht _ mw_738) (by decide +kernel) ⟨Nat.le_of_ble_eq_true rfl, Nat.le_of_ble_eq_true rfl⟩, (ht _ mw_740), (ht _ ms_31)⟩ (preV_M hK hP hD hS (ci := 5) rfl rfl g_Md) rfl rfl hl.1 rfl (lv_room (Nat.le_of_ble_eq_true rfl)) dX5_why_46 ⟨Nat.le_of_ble_eq_true rfl, Nat.le_of_ble_eq_true rfl⟩) hS (fun r6 u9 H locs hw hP hD hS => ?_)
          obtain ⟨rfl, e9⟩ := hw
          rw [e9] at hP hD
          refine lv_iconst (v := (-1)) hx hb dX5_why_49 (by decide) ?_
          refine lv_icmp_eq (tgt := 60) hx hb dX5_why_50 (by decide) (fun c7 => ?_) (fun c7 => ?_)
          · rw [if_pos c7] at hT
            refine lv_iinc (v := nI (i123 + 1)) (lv' := [(5, .int (nI (i123 + 1))), (0, .ref (ad 0)), (1, .int (nI j1)), (2, .int (nI j2)), (3, .int (nI j3)), (4, .int p4)]) hx hb dX5_why_60 hl (k := 5) rfl (nI_1 i123) (by decide) rfl (fun ls hl => ?_)
            refine lv_goto (tgt := 23) hx hb dX5_why_63 (by decide) ?_
            exact ih  (i123 + 1) _ _ ls h_lt (by omega) hP hD hS (lv_sub hl [1, 2, 3, 4, 5, 0] rfl) hT
          · rw [if_neg c7] at hT
            refine lv_sipush (v := 200) hx hb dX5_why_53 (by decide) ?_
            refine lv_iload hx hb dX5_why_56 (lv_at hl 5 rfl) ?_
            refine lv_iadd hx hb dX5_why_58 ?_
            refine lv_topE (nI_add 200 i123) ?_
            rw [eQ]
            exact W.iret (v := nI (200 + i123)) hx hb hr (fun t ht hW => ⟨⟨nI (200 + i123), σ, rfl, ⟨hT, rfl⟩, by rw [ht]; exact hP, va_K.moved hW.alike hK, hD⟩, hS.F ht⟩) hS.2.2 dX5_why_59
  rw [M_m_why, nI_clamp (n := j1) (by omega), nI_clamp (n := j2) (by omega), nI_clamp (n := j3) (by omega), N_m_why] at hT
  refine lv_aload_n hx hb dX5_why_0 rfl (lv_at hl 0 rfl) ?_
  refine lv_iload_n hx hb dX5_why_1 rfl (lv_at hl 1 rfl) ?_
  refine lv_iload_n hx hb dX5_why_2 rfl (lv_at hl 2 rfl) ?_
  refine kM_i (va_runV (As := [.int (nI j1), .int (nI j2)]) (rest := []) CF (k_m_barred l D ad kk _ σ (nI j1) (nI j2) (vp_in_nI (n := j1) (by omega) (by decide)) (vp_in_nI (n := j2) (by omega) (by decide)) hI) ⟨callB_of 2 hts (gT mw_733) rfl rfl rfl (ht _ mw_6) (ht _ mw_730) (by decide +kernel) ⟨Nat.le_of_ble_eq_true rfl, Nat.le_of_ble_eq_true rfl⟩, (ht _ mw_732), (ht _ ms_29)⟩ (preV_M hK hP hD hS (ci := 5) rfl rfl g_Md) rfl rfl hl.1 rfl (lv_room (Nat.le_of_ble_eq_true rfl)) dX5_why_3 ⟨Nat.le_of_ble_eq_true rfl, Nat.le_of_ble_eq_true rfl⟩) hS (fun r1 u9 H locs hw hP hD hS => ?_)
  obtain ⟨rfl, e9⟩ := hw
  rw [e9] at hP hD
  refine lv_iconst (v := (-1)) hx hb dX5_why_6 (by decide) ?_
  refine lv_icmp_eq (tgt := 20) hx hb dX5_why_7 (by decide) (fun c2 => ?_) (fun c2 => ?_)
  · rw [if_pos c2] at hT
    refine lv_iconst (v := 0) hx hb dX5_why_20 (by decide) ?_
    refine lv_istore (lv' := [(5, .int 0), (0, .ref (ad 0)), (1, .int (nI j1)), (2, .int (nI j2)), (3, .int (nI j3)), (4, .int p4)]) hx hb dX5_why_21 hl (by decide) rfl (fun ls hl => ?_)
    exact L_23 13 0 _ _ ls (Nat.zero_le _) (by decide) hP hD hS (lv_sub hl [1, 2, 3, 4, 5, 0] rfl) hT
  · rw [if_neg c2] at hT
    refine lv_bipush (v := 100) hx hb dX5_why_10 (by decide) ?_
    refine lv_aload_n hx hb dX5_why_12 rfl (lv_at hl 0 rfl) ?_
    refine lv_iload_n hx hb dX5_why_13 rfl (lv_at hl 1 rfl) ?_
    refine lv_iload_n hx hb dX5_why_14 rfl (lv_at hl 2 rfl) ?_
    refine kM_i (va_runV (As := [.int (nI j1), .int (nI j2)]) (rest := [.int 100]) CF (k_m_barred l D ad kk _ σ (nI j1) (nI j2) (vp_in_nI (n := j1) (by omega) (by decide)) (vp_in_nI (n := j2) (by omega) (by decide)) hI) ⟨callB_of 2 hts (gT mw_733) rfl rfl rfl (ht _ mw_6) (ht _ mw_730) (by decide +kernel) ⟨Nat.le_of_ble_eq_true rfl, Nat.le_of_ble_eq_true rfl⟩, (ht _ mw_732), (ht _ ms_29)⟩ (preV_M hK hP hD hS (ci := 5) rfl rfl g_Md) rfl rfl hl.1 rfl (lv_room (Nat.le_of_ble_eq_true rfl)) dX5_why_15 ⟨Nat.le_of_ble_eq_true rfl, Nat.le_of_ble_eq_true rfl⟩) hS (fun r8 u9 H locs hw hP hD hS => ?_)
    obtain ⟨rfl, e9⟩ := hw
    rw [e9] at hP hD
    refine lv_iadd hx hb dX5_why_18 ?_
    rw [eQ]
    exact W.iret (v := 100 + (M_m_barred σ (nI j1) (nI j2))) hx hb hr (fun t ht hW => ⟨⟨100 + (M_m_barred σ (nI j1) (nI j2)), σ, rfl, ⟨hT, rfl⟩, by rw [ht]; exact hP, va_K.moved hW.alike hK, hD⟩, hS.F ht⟩) hS.2.2 dX5_why_19

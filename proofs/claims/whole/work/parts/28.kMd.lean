set_option maxHeartbeats 4000000 in
set_option maxRecDepth 100000 in
theorem k_m_fault (l : Launch) (D : va_G) (ad : Nat → Nat) (kk : Nat → ClassId) (sz : Nat) (σ : St) (hI : IM σ) (hm : vp_in (gF σ 0 3) 12) : Met l yX5_fault wsX5_fault { frames := 1, cells := 0, slots := 0, locals := 20 } (va_Pc [.ref (ad 0)] (PM D ad kk sz σ)) (va_Qi (fun r u => (r, u) = M_m_fault σ) (QM D ad kk sz) (aL 23 ad sz)) 0 0 (aL 23 ad sz) := by
  refine Met.ofW (cc := cX5_fault) (maxL := 10) (ret := (some .int)) (by decide) rfl ?_
  intro p e s m args below meth c s₁ B hml hv
  obtain ⟨rfl, hsz, hP, hK, hD0⟩ := hv
  have hx := B.exec
  have hb := B.bytes
  have hr := B.returns
  have hts := atoms_spec (ws := wsX5_fault) B.pre
  have hown : s.vm.findClass RX5 = some m.cls := findClass_of_methodNamed B.named
  have hlocks := B.notSynchronized
  subst hsz
  have hD : va_D (aL 23 ad s.heap.size) (wM ad kk σ) := aL_D hD0
  have hS : va_S (aL 23 ad s.heap.size) s.heap s.heap [] := va_S.rf
  have hl := lv_entry ([.ref (ad 0)]) (n := 10) (Nat.le_of_ble_eq_true rfl)
  rw [lg_entry_eq]
  generalize (lg_sl ([.ref (ad 0)]) ++ List.replicate (10 - (lg_sl ([.ref (ad 0)])).length) Slot.unset).toArray = ls at hl ⊢
  have hl : lv_has ls 10 [(0, .ref (ad 0))] := hl
  have CF : CallFix p m c cX5_fault 10 s ([.ref (ad 0)] : List Value).toArray wsX5_fault RX5 := ⟨hx, hb, hml, hown, hts⟩
  have ht : ∀ w ∈ T0, w.before ([.ref (ad 0)] : List Value).toArray s = true := fun w h => hts w (List.mem_cons_of_mem _ h)
  generalize hT : M_m_fault σ = T
  refine namedQ (fun Q eQ => ?_)
  have L_9 : ∀ (n i109 : Nat) (x9_1 : Int32) (x9_2 : Int32) (x9_3 : Int32) (τ9 : St) (H : Heap) (locs : List Loc) (ls : Array Slot), i109 ≤ 50 → 51 ≤ i109 + n → IM τ9 → vp_in (gF τ9 0 3) 12 → vp_in x9_2 10 → va_P D vwCl (wM ad kk τ9) H → va_D (aL 23 ad s.heap.size) (wM ad kk τ9) → va_S (aL 23 ad s.heap.size) s.heap H locs → lv_has ls 10 [(0, .ref (ad 0)), (1, .int x9_1), (2, .int x9_2), (3, .int x9_3), (4, .int (nI i109))] → M_m_fault_h9 n i109 x9_1 x9_2 x9_3 τ9 = T → W p l e (headSpec wsX5_fault { frames := 1, cells := 0, slots := 0, locals := 20 }).room s m ([.ref (ad 0)] : List Value).toArray below meth c H locs 0 0 Q (F0 m 9 ls []) := by
    intro n
    induction n with
    | zero =>
      intro i109 x9_1 x9_2 x9_3 τ9 H locs ls h_le h_fu hv0 hv1 hv2 hP hD hS hl hT
      exact absurd h_fu (by omega)
    | succ n ih =>
      intro i109 x9_1 x9_2 x9_3 τ9 H locs ls h_le h_fu hv0 hv1 hv2 hP hD hS hl hT
      rw [M_m_fault_h9] at hT
      refine lv_iload hx hb dX5_fault_9 (lv_at hl 4 rfl) ?_
      refine lv_aload_n hx hb dX5_fault_11 rfl (lv_at hl 0 rfl) ?_
      refine va_get (D := D) (ci := 5) (v := .int (gF τ9 0 1)) (C := RX5) (T := TX5) (N := 27) hx hb ht inX5 hown hK hP 0 g_Md rfl 1 (by decide) (ht _ mw_574) (fun _ h9 => h9) rfl dX5_fault_12 ?_
      refine lv_icmp_ge (tgt := 439) hx hb dX5_fault_15 (by decide) (fun c1 => ?_) (fun c1 => ?_)
      · rw [if_pos c1] at hT
        refine lv_bipush (v := 10) hx hb dX5_fault_439 (by decide) ?_
        refine lv_aload_n hx hb dX5_fault_441 rfl (lv_at hl 0 rfl) ?_
        refine va_get (D := D) (ci := 5) (v := .int (gF τ9 0 3)) (C := RX5) (T := TX5) (N := 27) hx hb ht inX5 hown hK hP 0 g_Md rfl 3 (by decide) (ht _ mw_576) (fun _ h9 => h9) rfl dX5_fault_442 ?_
        refine lv_imul hx hb dX5_fault_445 ?_
        refine lv_iload_n hx hb dX5_fault_446 rfl (lv_at hl 2 rfl) ?_
        refine lv_iadd hx hb dX5_fault_447 ?_
        refine lv_istore (lv' := [(4, .int ((10 * (gF τ9 0 3)) + x9_2)), (0, .ref (ad 0)), (1, .int x9_1), (2, .int x9_2), (3, .int x9_3)]) hx hb dX5_fault_448 hl (by decide) rfl (fun ls hl => ?_)
        refine lv_aload_n hx hb dX5_fault_450 rfl (lv_at hl 1 rfl) ?_
        refine va_get (D := D) (ci := 5) (v := .int (gF τ9 0 1)) (C := RX5) (T := TX5) (N := 27) hx hb ht inX5 hown hK hP 0 g_Md rfl 1 (by decide) (ht _ mw_574) (fun _ h9 => h9) rfl dX5_fault_451 ?_
        refine jn (α := Int32) (E := (if (gF τ9 0 1) = 0 then 1 else (if x9_1 = 5 then 1 else (if x9_1 = 2 then (if (gA τ9 3 ((10 * (gF τ9 0 3)) + x9_2).toNatClampNeg) = 117 then (if x9_1 = 4 then (if (gA τ9 3 ((10 * (gF τ9 0 3)) + x9_2).toNatClampNeg) = 97 then 1 else (if (gA τ9 5 ((10 * (gF τ9 0 3)) + x9_2).toNatClampNeg) ≤ 0 then 0 else 1)) else 0) else (if (gA τ9 3 ((10 * (gF τ9 0 3)) + x9_2).toNatClampNeg) = 97 then (if x9_1 = 4 then (if (gA τ9 3 ((10 * (gF τ9 0 3)) + x9_2).toNatClampNeg) = 97 then 1 else (if (gA τ9 5 ((10 * (gF τ9 0 3)) + x9_2).toNatClampNeg) ≤ 0 then 0 else 1)) else 0) else 1)) else (if x9_1 = 4 then (if (gA τ9 3 ((10 * (gF τ9 0 3)) + x9_2).toNatClampNeg) = 97 then 1 else (if (gA τ9 5 ((10 * (gF τ9 0 3)) + x9_2).toNatClampNeg) ≤ 0 then 0 else 1)) else 0))))) (Kp := fun y => ∀ (H : Heap) (locs : List Loc), va_P D vwCl (wM ad kk τ9) H → va_D (aL 23 ad s.heap.size) (wM ad kk τ9) → va_S (aL 23 ad s.heap.size) s.heap H locs → W p l e (headSpec wsX5_fault { frames := 1, cells := 0, slots := 0, locals := 20 }).room s m ([.ref (ad 0)] : List Value).toArray below meth c H locs 0 0 Q (F0 m 523 ls (.int y :: []))) (fun Vy2 hVy2 Ky2 => ?_) (fun y2 hy_y2 => ?_)
        · refine lv_if_eq (tgt := 518) hx hb dX5_fault_454 (by decide) (fun c3 => ?_) (fun c3 => ?_)
          · rw [if_pos c3] at hVy2
            refine lv_iconst (v := 1) hx hb dX5_fault_518 (by decide) ?_
            refine lv_goto (tgt := 523) hx hb dX5_fault_519 (by decide) ?_
            exact Ky2 1 hVy2 _ _ hP hD hS
          · rw [if_neg c3] at hVy2
            refine lv_iload_n hx hb dX5_fault_457 rfl (lv_at hl 2 rfl) ?_
            refine lv_iconst (v := 5) hx hb dX5_fault_458 (by decide) ?_
            refine lv_icmp_eq (tgt := 518) hx hb dX5_fault_459 (by decide) (fun c4 => ?_) (fun c4 => ?_)
            · rw [if_pos c4] at hVy2
              refine lv_iconst (v := 1) hx hb dX5_fault_518 (by decide) ?_
              refine lv_goto (tgt := 523) hx hb dX5_fault_519 (by decide) ?_
              exact Ky2 1 hVy2 _ _ hP hD hS
            · rw [if_neg c4] at hVy2
              refine lv_iload_n hx hb dX5_fault_462 rfl (lv_at hl 2 rfl) ?_
              refine lv_iconst (v := 2) hx hb dX5_fault_463 (by decide) ?_
              refine lv_icmp_ne (tgt := 491) hx hb dX5_fault_464 (by decide) (fun c5 => ?_) (fun c5 => ?_)
              · rw [if_neg c5] at hVy2
                refine lv_iload_n hx hb dX5_fault_491 rfl (lv_at hl 2 rfl) ?_
                refine lv_iconst (v := 4) hx hb dX5_fault_492 (by decide) ?_
                refine lv_icmp_ne (tgt := 522) hx hb dX5_fault_493 (by decide) (fun c6 => ?_) (fun c6 => ?_)
                · rw [if_neg c6] at hVy2
                  refine lv_iconst (v := 0) hx hb dX5_fault_522 (by decide) ?_
                  exact Ky2 0 hVy2 _ _ hP hD hS
                · rw [if_pos c6] at hVy2
                  refine lv_aload_n hx hb dX5_fault_496 rfl (lv_at hl 1 rfl) ?_
                  refine va_get (D := D) (ci := 5) (v := .ref (ad 3)) (C := RX5) (T := TX5) (N := 27) hx hb ht inX5 hown hK hP 0 g_Md rfl 5 (by decide) (ht _ mw_578) (fun _ h9 => h9) rfl dX5_fault_497 ?_
                  refine lv_iload hx hb dX5_fault_500 (lv_at hl 0 rfl) ?_
                  refine va_iald (i := (10 * (gF τ9 0 3)) + x9_2) hx hb hK hP 3 0 g_m_letters rfl (c_in hv1 hv2) dX5_fault_502 ?_
                  refine lv_bipush (v := 97) hx hb dX5_fault_503 (by decide) ?_
                  refine lv_icmp_eq (tgt := 518) hx hb dX5_fault_505 (by decide) (fun c7 => ?_) (fun c7 => ?_)
                  · rw [if_pos c7] at hVy2
                    refine lv_iconst (v := 1) hx hb dX5_fault_518 (by decide) ?_
                    refine lv_goto (tgt := 523) hx hb dX5_fault_519 (by decide) ?_
                    exact Ky2 1 hVy2 _ _ hP hD hS
                  · rw [if_neg c7] at hVy2
                    refine lv_aload_n hx hb dX5_fault_508 rfl (lv_at hl 1 rfl) ?_
                    refine va_get (D := D) (ci := 5) (v := .ref (ad 5)) (C := RX5) (T := TX5) (N := 27) hx hb ht inX5 hown hK hP 0 g_Md rfl 7 (by decide) (ht _ mw_580) (fun _ h9 => h9) rfl dX5_fault_509 ?_
                    refine lv_iload hx hb dX5_fault_512 (lv_at hl 0 rfl) ?_
                    refine va_iald (i := (10 * (gF τ9 0 3)) + x9_2) hx hb hK hP 5 0 g_m_seconds rfl (c_in hv1 hv2) dX5_fault_514 ?_
                    refine lv_if_le (tgt := 522) hx hb dX5_fault_515 (by decide) (fun c8 => ?_) (fun c8 => ?_)
                    · rw [if_pos c8] at hVy2
                      refine lv_iconst (v := 0) hx hb dX5_fault_522 (by decide) ?_
                      exact Ky2 0 hVy2 _ _ hP hD hS
                    · rw [if_neg c8] at hVy2
                      refine lv_iconst (v := 1) hx hb dX5_fault_518 (by decide) ?_
                      refine lv_goto (tgt := 523) hx hb dX5_fault_519 (by decide) ?_
                      exact Ky2 1 hVy2 _ _ hP hD hS
              · rw [if_pos c5] at hVy2
                refine lv_aload_n hx hb dX5_fault_467 rfl (lv_at hl 1 rfl) ?_
                refine va_get (D := D) (ci := 5) (v := .ref (ad 3)) (C := RX5) (T := TX5) (N := 27) hx hb ht inX5 hown hK hP 0 g_Md rfl 5 (by decide) (ht _ mw_578) (fun _ h9 => h9) rfl dX5_fault_468 ?_
                refine lv_iload hx hb dX5_fault_471 (lv_at hl 0 rfl) ?_
                refine va_iald (i := (10 * (gF τ9 0 3)) + x9_2) hx hb hK hP 3 0 g_m_letters rfl (c_in hv1 hv2) dX5_fault_473 ?_
                refine lv_bipush (v := 117) hx hb dX5_fault_474 (by decide) ?_
                refine lv_icmp_eq (tgt := 491) hx hb dX5_fault_476 (by decide) (fun c9 => ?_) (fun c9 => ?_)
                · rw [if_pos c9] at hVy2
                  refine lv_iload_n hx hb dX5_fault_491 rfl (lv_at hl 2 rfl) ?_
                  refine lv_iconst (v := 4) hx hb dX5_fault_492 (by decide) ?_
                  refine lv_icmp_ne (tgt := 522) hx hb dX5_fault_493 (by decide) (fun c10 => ?_) (fun c10 => ?_)
                  · rw [if_neg c10] at hVy2
                    refine lv_iconst (v := 0) hx hb dX5_fault_522 (by decide) ?_
                    exact Ky2 0 hVy2 _ _ hP hD hS
                  · rw [if_pos c10] at hVy2
                    refine lv_aload_n hx hb dX5_fault_496 rfl (lv_at hl 1 rfl) ?_
                    refine va_get (D := D) (ci := 5) (v := .ref (ad 3)) (C := RX5) (T := TX5) (N := 27) hx hb ht inX5 hown hK hP 0 g_Md rfl 5 (by decide) (ht _ mw_578) (fun _ h9 => h9) rfl dX5_fault_497 ?_
                    refine lv_iload hx hb dX5_fault_500 (lv_at hl 0 rfl) ?_
                    refine va_iald (i := (10 * (gF τ9 0 3)) + x9_2) hx hb hK hP 3 0 g_m_letters rfl (c_in hv1 hv2) dX5_fault_502 ?_
                    refine lv_bipush (v := 97) hx hb dX5_fault_503 (by decide) ?_
                    refine lv_icmp_eq (tgt := 518) hx hb dX5_fault_505 (by decide) (fun c11 => ?_) (fun c11 => ?_)
                    · rw [if_pos c11] at hVy2
                      refine lv_iconst (v := 1) hx hb dX5_fault_518 (by decide) ?_
                      refine lv_goto (tgt := 523) hx hb dX5_fault_519 (by decide) ?_
                      exact Ky2 1 hVy2 _ _ hP hD hS
                    · rw [if_neg c11] at hVy2
                      refine lv_aload_n hx hb dX5_fault_508 rfl (lv_at hl 1 rfl) ?_
                      refine va_get (D := D) (ci := 5) (v := .ref (ad 5)) (C := RX5) (T := TX5) (N := 27) hx hb ht inX5 hown hK hP 0 g_Md rfl 7 (by decide) (ht _ mw_580) (fun _ h9 => h9) rfl dX5_fault_509 ?_
                      refine lv_iload hx hb dX5_fault_512 (lv_at hl 0 rfl) ?_
                      refine va_iald (i := (10 * (gF τ9 0 3)) + x9_2) hx hb hK hP 5 0 g_m_seconds rfl (c_in hv1 hv2) dX5_fault_514 ?_
                      refine lv_if_le (tgt := 522) hx hb dX5_fault_515 (by decide) (fun c12 => ?_) (fun c12 => ?_)
                      · rw [if_pos c12] at hVy2
                        refine lv_iconst (v := 0) hx hb dX5_fault_522 (by decide) ?_
                        exact Ky2 0 hVy2 _ _ hP hD hS
                      · rw [if_neg c12] at hVy2
                        refine lv_iconst (v := 1) hx hb dX5_fault_518 (by decide) ?_
                        refine lv_goto (tgt := 523) hx hb dX5_fault_519 (by decide) ?_
                        exact Ky2 1 hVy2 _ _ hP hD hS
                · rw [if_neg c9] at hVy2
                  refine lv_aload_n hx hb dX5_fault_479 rfl (lv_at hl 1 rfl) ?_
                  refine va_get (D := D) (ci := 5) (v := .ref (ad 3)) (C := RX5) (T := TX5) (N := 27) hx hb ht inX5 hown hK hP 0 g_Md rfl 5 (by decide) (ht _ mw_578) (fun _ h9 => h9) rfl dX5_fault_480 ?_
                  refine lv_iload hx hb dX5_fault_483 (lv_at hl 0 rfl) ?_
                  refine va_iald (i := (10 * (gF τ9 0 3)) + x9_2) hx hb hK hP 3 0 g_m_letters rfl (c_in hv1 hv2) dX5_fault_485 ?_
                  refine lv_bipush (v := 97) hx hb dX5_fault_486 (by decide) ?_
                  refine lv_icmp_ne (tgt := 518) hx hb dX5_fault_488 (by decide) (fun c13 => ?_) (fun c13 => ?_)
                  · rw [if_neg c13] at hVy2
                    refine lv_iconst (v := 1) hx hb dX5_fault_518 (by decide) ?_
                    refine lv_goto (tgt := 523) hx hb dX5_fault_519 (by decide) ?_
                    exact Ky2 1 hVy2 _ _ hP hD hS
                  · rw [if_pos c13] at hVy2
                    refine lv_iload_n hx hb dX5_fault_491 rfl (lv_at hl 2 rfl) ?_
                    refine lv_iconst (v := 4) hx hb dX5_fault_492 (by decide) ?_
                    refine lv_icmp_ne (tgt := 522) hx hb dX5_fault_493 (by decide) (fun c14 => ?_) (fun c14 => ?_)
                    · rw [if_neg c14] at hVy2
                      refine lv_iconst (v := 0) hx hb dX5_fault_522 (by decide) ?_
                      exact Ky2 0 hVy2 _ _ hP hD hS
                    · rw [if_pos c14] at hVy2
                      refine lv_aload_n hx hb dX5_fault_496 rfl (lv_at hl 1 rfl) ?_
                      refine va_get (D := D) (ci := 5) (v := .ref (ad 3)) (C := RX5) (T := TX5) (N := 27) hx hb ht inX5 hown hK hP 0 g_Md rfl 5 (by decide) (ht _ mw_578) (fun _ h9 => h9) rfl dX5_fault_497 ?_
                      refine lv_iload hx hb dX5_fault_500 (lv_at hl 0 rfl) ?_
                      refine va_iald (i := (10 * (gF τ9 0 3)) + x9_2) hx hb hK hP 3 0 g_m_letters rfl (c_in hv1 hv2) dX5_fault_502 ?_
                      refine lv_bipush (v := 97) hx hb dX5_fault_503 (by decide) ?_
                      refine lv_icmp_eq (tgt := 518) hx hb dX5_fault_505 (by decide) (fun c15 => ?_) (fun c15 => ?_)
                      · rw [if_pos c15] at hVy2
                        refine lv_iconst (v := 1) hx hb dX5_fault_518 (by decide) ?_
                        refine lv_goto (tgt := 523) hx hb dX5_fault_519 (by decide) ?_
                        exact Ky2 1 hVy2 _ _ hP hD hS
                      · rw [if_neg c15] at hVy2
                        refine lv_aload_n hx hb dX5_fault_508 rfl (lv_at hl 1 rfl) ?_
                        refine va_get (D := D) (ci := 5) (v := .ref (ad 5)) (C := RX5) (T := TX5) (N := 27) hx hb ht inX5 hown hK hP 0 g_Md rfl 7 (by decide) (ht _ mw_580) (fun _ h9 => h9) rfl dX5_fault_509 ?_
                        refine lv_iload hx hb dX5_fault_512 (lv_at hl 0 rfl) ?_
                        refine va_iald (i := (10 * (gF τ9 0 3)) + x9_2) hx hb hK hP 5 0 g_m_seconds rfl (c_in hv1 hv2) dX5_fault_514 ?_
                        refine lv_if_le (tgt := 522) hx hb dX5_fault_515 (by decide) (fun c16 => ?_) (fun c16 => ?_)
                        · rw [if_pos c16] at hVy2
                          refine lv_iconst (v := 0) hx hb dX5_fault_522 (by decide) ?_
                          exact Ky2 0 hVy2 _ _ hP hD hS
                        · rw [if_neg c16] at hVy2
                          refine lv_iconst (v := 1) hx hb dX5_fault_518 (by decide) ?_
                          refine lv_goto (tgt := 523) hx hb dX5_fault_519 (by decide) ?_
                          exact Ky2 1 hVy2 _ _ hP hD hS
        · intro H locs hP hD hS
          rw [← hy_y2, vb_eq] at hT
          have b_y2 : y2 = 0 ∨ y2 = 1 := by rw [hy_y2]; (repeat' split) <;> first | exact Or.inl rfl | exact Or.inr rfl
          refine lv_istore (lv' := [(5, .int y2), (4, .int ((10 * (gF τ9 0 3)) + x9_2)), (0, .ref (ad 0)), (1, .int x9_1), (2, .int x9_2), (3, .int x9_3)]) hx hb dX5_fault_523 hl (by decide) rfl (fun ls hl => ?_)
          refine lv_aload_n hx hb dX5_fault_525 rfl (lv_at hl 2 rfl) ?_
          refine va_get (D := D) (ci := 5) (v := .ref (ad 2)) (C := RX5) (T := TX5) (N := 27) hx hb ht inX5 hown hK hP 0 g_Md rfl 4 (by decide) (ht _ mw_577) (fun _ h9 => h9) rfl dX5_fault_526 ?_
          refine lv_aload_n hx hb dX5_fault_529 rfl (lv_at hl 2 rfl) ?_
          refine va_get (D := D) (ci := 5) (v := .int (gF τ9 0 3)) (C := RX5) (T := TX5) (N := 27) hx hb ht inX5 hown hK hP 0 g_Md rfl 3 (by decide) (ht _ mw_576) (fun _ h9 => h9) rfl dX5_fault_530 ?_
          refine lv_aload_n hx hb dX5_fault_533 rfl (lv_at hl 2 rfl) ?_
          refine va_get (D := D) (ci := 5) (v := .int (gF τ9 0 1)) (C := RX5) (T := TX5) (N := 27) hx hb ht inX5 hown hK hP 0 g_Md rfl 1 (by decide) (ht _ mw_574) (fun _ h9 => h9) rfl dX5_fault_534 ?_
          refine jn (α := Int32) (E := (if (gF τ9 0 1) = 0 then 0 else (x9_2 + 1))) (Kp := fun y => ∀ (H : Heap) (locs : List Loc), va_P D vwCl (wM ad kk τ9) H → va_D (aL 23 ad s.heap.size) (wM ad kk τ9) → va_S (aL 23 ad s.heap.size) s.heap H locs → W p l e (headSpec wsX5_fault { frames := 1, cells := 0, slots := 0, locals := 20 }).room s m ([.ref (ad 0)] : List Value).toArray below meth c H locs 0 0 Q (F0 m 547 ls (.int y :: .int (gF τ9 0 3) :: .ref (ad 2) :: []))) (fun Vy17 hVy17 Ky17 => ?_) (fun y17 hy_y17 => ?_)
          · refine lv_if_ne (tgt := 544) hx hb dX5_fault_537 (by decide) (fun c18 => ?_) (fun c18 => ?_)
            · rw [if_neg c18] at hVy17
              refine lv_iload_n hx hb dX5_fault_544 rfl (lv_at hl 4 rfl) ?_
              refine lv_iconst (v := 1) hx hb dX5_fault_545 (by decide) ?_
              refine lv_iadd hx hb dX5_fault_546 ?_
              exact Ky17 (x9_2 + 1) hVy17 _ _ hP hD hS
            · rw [if_pos c18] at hVy17
              refine lv_iconst (v := 0) hx hb dX5_fault_540 (by decide) ?_
              refine lv_goto (tgt := 547) hx hb dX5_fault_541 (by decide) ?_
              exact Ky17 0 hVy17 _ _ hP hD hS
          · intro H locs hP hD hS
            rw [← hy_y17, vb_eq] at hT
            refine va_iast (i := gF τ9 0 3) (x := y17) hx hb hK hP hD hS 2 0 g_m_many rfl hv1 dX5_fault_547 (fun H locs hP hD hS => ?_)
            rw [s_m_many] at hP hD
            refine lv_iload hx hb dX5_fault_548 (lv_at hl 0 rfl) ?_
            refine lv_if_eq (tgt := 557) hx hb dX5_fault_550 (by decide) (fun c19 => ?_) (fun c19 => ?_)
            · rw [if_pos c19] at hT
              refine lv_aload_n hx hb dX5_fault_557 rfl (lv_at hl 2 rfl) ?_
              refine va_get (D := D) (ci := 5) (v := .int (gF (sA τ9 2 (gF τ9 0 3).toNatClampNeg y17) 0 1)) (C := RX5) (T := TX5) (N := 27) hx hb ht inX5 hown hK hP 0 g_Md rfl 1 (by decide) (ht _ mw_574) (fun _ h9 => h9) rfl dX5_fault_558 ?_
              rw [eQ]
              exact W.iret (v := gF (sA τ9 2 (gF τ9 0 3).toNatClampNeg y17) 0 1) hx hb hr (fun t ht hW => ⟨⟨gF (sA τ9 2 (gF τ9 0 3).toNatClampNeg y17) 0 1, (sA τ9 2 (gF τ9 0 3).toNatClampNeg y17), rfl, hT, by rw [ht]; exact hP, va_K.moved hW.alike hK, hD⟩, hS.F ht⟩) hS.2.2 dX5_fault_561
            · rw [if_neg c19] at hT
              refine lv_iconst (v := (-1)) hx hb dX5_fault_553 (by decide) ?_
              refine lv_goto (tgt := 561) hx hb dX5_fault_554 (by decide) ?_
              rw [eQ]
              exact W.iret (v := (-1)) hx hb hr (fun t ht hW => ⟨⟨(-1), (sA τ9 2 (gF τ9 0 3).toNatClampNeg y17), rfl, hT, by rw [ht]; exact hP, va_K.moved hW.alike hK, hD⟩, hS.F ht⟩) hS.2.2 dX5_fault_561
      · rw [if_neg c1] at hT
        have h_lt := lp_lt (N := 50) (by decide) hv0.padded h_le c1
        refine lv_aload_n hx hb dX5_fault_18 rfl (lv_at hl 0 rfl) ?_
        refine va_get (D := D) (ci := 5) (v := .ref (ad 1)) (C := RX5) (T := TX5) (N := 27) hx hb ht inX5 hown hK hP 0 g_Md rfl 2 (by decide) (ht _ mw_575) (fun _ h9 => h9) rfl dX5_fault_19 ?_
        refine lv_iload hx hb dX5_fault_22 (lv_at hl 4 rfl) ?_
        refine va_iald (i := nI i109) hx hb hK hP 1 0 g_m_pad rfl (vp_in_nI (by omega) (by decide)) dX5_fault_24 ?_
        rw [nI_clamp (n := i109) (by omega)]
        refine lv_istore (lv' := [(5, .int (gA τ9 1 i109)), (0, .ref (ad 0)), (1, .int x9_1), (2, .int x9_2), (3, .int x9_3), (4, .int (nI i109))]) hx hb dX5_fault_25 hl (by decide) rfl (fun ls hl => ?_)
        refine lv_bipush (v := 10) hx hb dX5_fault_27 (by decide) ?_
        refine lv_aload_n hx hb dX5_fault_29 rfl (lv_at hl 1 rfl) ?_
        refine va_get (D := D) (ci := 5) (v := .int (gF τ9 0 3)) (C := RX5) (T := TX5) (N := 27) hx hb ht inX5 hown hK hP 0 g_Md rfl 3 (by decide) (ht _ mw_576) (fun _ h9 => h9) rfl dX5_fault_30 ?_
        refine lv_imul hx hb dX5_fault_33 ?_
        refine lv_iload_n hx hb dX5_fault_34 rfl (lv_at hl 3 rfl) ?_
        refine lv_iadd hx hb dX5_fault_35 ?_
        refine lv_istore (lv' := [(6, .int ((10 * (gF τ9 0 3)) + x9_2)), (5, .int (gA τ9 1 i109)), (0, .ref (ad 0)), (1, .int x9_1), (2, .int x9_2), (3, .int x9_3), (4, .int (nI i109))]) hx hb dX5_fault_36 hl (by decide) rfl (fun ls hl => ?_)
        refine lv_iconst (v := 1) hx hb dX5_fault_38 (by decide) ?_
        refine lv_istore (lv' := [(7, .int 1), (6, .int ((10 * (gF τ9 0 3)) + x9_2)), (5, .int (gA τ9 1 i109)), (0, .ref (ad 0)), (1, .int x9_1), (2, .int x9_2), (3, .int x9_3), (4, .int (nI i109))]) hx hb dX5_fault_39 hl (by decide) rfl (fun ls hl => ?_)
        refine lv_iload_n hx hb dX5_fault_41 rfl (lv_at hl 4 rfl) ?_
        refine lv_if_ne (tgt := 102) hx hb dX5_fault_42 (by decide) (fun c20 => ?_) (fun c20 => ?_)
        · rw [if_neg c20] at hT
          refine lv_iload hx hb dX5_fault_102 (lv_at hl 2 rfl) ?_
          refine lv_bipush (v := 48) hx hb dX5_fault_104 (by decide) ?_
          refine lv_icmp_lt (tgt := 284) hx hb dX5_fault_106 (by decide) (fun c21 => ?_) (fun c21 => ?_)
          · rw [if_pos c21] at hT
            refine lv_iload_n hx hb dX5_fault_284 rfl (lv_at hl 4 rfl) ?_
            refine lv_iconst (v := 2) hx hb dX5_fault_285 (by decide) ?_
            refine lv_icmp_ne (tgt := 351) hx hb dX5_fault_286 (by decide) (fun c22 => ?_) (fun c22 => ?_)
            · rw [if_neg c22] at hT
              refine lv_iload_n hx hb dX5_fault_351 rfl (lv_at hl 4 rfl) ?_
              refine lv_iconst (v := 5) hx hb dX5_fault_352 (by decide) ?_
              refine jn (α := Int32) (E := (if x9_1 = 5 then 1 else (if x9_1 = 2 then 1 else (if x9_1 = 4 then (if (gA τ9 3 ((10 * (gF τ9 0 3)) + x9_2).toNatClampNeg) = 97 then 1 else (if (gA τ9 5 ((10 * (gF τ9 0 3)) + x9_2).toNatClampNeg) ≤ 0 then 0 else 1)) else 0)))) (Kp := fun y => ∀ (H : Heap) (locs : List Loc), va_P D vwCl (wM ad kk τ9) H → va_D (aL 23 ad s.heap.size) (wM ad kk τ9) → va_S (aL 23 ad s.heap.size) s.heap H locs → W p l e (headSpec wsX5_fault { frames := 1, cells := 0, slots := 0, locals := 20 }).room s m ([.ref (ad 0)] : List Value).toArray below meth c H locs 0 0 Q (F0 m 393 ls (.int y :: []))) (fun Vy23 hVy23 Ky23 => ?_) (fun y23 hy_y23 => ?_)
              · refine lv_icmp_eq (tgt := 388) hx hb dX5_fault_353 (by decide) (fun c24 => ?_) (fun c24 => ?_)
                · rw [if_pos c24] at hVy23
                  refine lv_iconst (v := 1) hx hb dX5_fault_388 (by decide) ?_
                  refine lv_goto (tgt := 393) hx hb dX5_fault_389 (by decide) ?_
                  exact Ky23 1 hVy23 _ _ hP hD hS
                · rw [if_neg c24] at hVy23
                  refine lv_iload_n hx hb dX5_fault_356 rfl (lv_at hl 4 rfl) ?_
                  refine lv_iconst (v := 2) hx hb dX5_fault_357 (by decide) ?_
                  refine lv_icmp_eq (tgt := 388) hx hb dX5_fault_358 (by decide) (fun c25 => ?_) (fun c25 => ?_)
                  · rw [if_pos c25] at hVy23
                    refine lv_iconst (v := 1) hx hb dX5_fault_388 (by decide) ?_
                    refine lv_goto (tgt := 393) hx hb dX5_fault_389 (by decide) ?_
                    exact Ky23 1 hVy23 _ _ hP hD hS
                  · rw [if_neg c25] at hVy23
                    refine lv_iload_n hx hb dX5_fault_361 rfl (lv_at hl 4 rfl) ?_
                    refine lv_iconst (v := 4) hx hb dX5_fault_362 (by decide) ?_
                    refine lv_icmp_ne (tgt := 392) hx hb dX5_fault_363 (by decide) (fun c26 => ?_) (fun c26 => ?_)
                    · rw [if_neg c26] at hVy23
                      refine lv_iconst (v := 0) hx hb dX5_fault_392 (by decide) ?_
                      exact Ky23 0 hVy23 _ _ hP hD hS
                    · rw [if_pos c26] at hVy23
                      refine lv_aload_n hx hb dX5_fault_366 rfl (lv_at hl 3 rfl) ?_
                      refine va_get (D := D) (ci := 5) (v := .ref (ad 3)) (C := RX5) (T := TX5) (N := 27) hx hb ht inX5 hown hK hP 0 g_Md rfl 5 (by decide) (ht _ mw_578) (fun _ h9 => h9) rfl dX5_fault_367 ?_
                      refine lv_iload hx hb dX5_fault_370 (lv_at hl 1 rfl) ?_
                      refine va_iald (i := (10 * (gF τ9 0 3)) + x9_2) hx hb hK hP 3 0 g_m_letters rfl (c_in hv1 hv2) dX5_fault_372 ?_
                      refine lv_bipush (v := 97) hx hb dX5_fault_373 (by decide) ?_
                      refine lv_icmp_eq (tgt := 388) hx hb dX5_fault_375 (by decide) (fun c27 => ?_) (fun c27 => ?_)
                      · rw [if_pos c27] at hVy23
                        refine lv_iconst (v := 1) hx hb dX5_fault_388 (by decide) ?_
                        refine lv_goto (tgt := 393) hx hb dX5_fault_389 (by decide) ?_
                        exact Ky23 1 hVy23 _ _ hP hD hS
                      · rw [if_neg c27] at hVy23
                        refine lv_aload_n hx hb dX5_fault_378 rfl (lv_at hl 3 rfl) ?_
                        refine va_get (D := D) (ci := 5) (v := .ref (ad 5)) (C := RX5) (T := TX5) (N := 27) hx hb ht inX5 hown hK hP 0 g_Md rfl 7 (by decide) (ht _ mw_580) (fun _ h9 => h9) rfl dX5_fault_379 ?_
                        refine lv_iload hx hb dX5_fault_382 (lv_at hl 1 rfl) ?_
                        refine va_iald (i := (10 * (gF τ9 0 3)) + x9_2) hx hb hK hP 5 0 g_m_seconds rfl (c_in hv1 hv2) dX5_fault_384 ?_
                        refine lv_if_le (tgt := 392) hx hb dX5_fault_385 (by decide) (fun c28 => ?_) (fun c28 => ?_)
                        · rw [if_pos c28] at hVy23
                          refine lv_iconst (v := 0) hx hb dX5_fault_392 (by decide) ?_
                          exact Ky23 0 hVy23 _ _ hP hD hS
                        · rw [if_neg c28] at hVy23
                          refine lv_iconst (v := 1) hx hb dX5_fault_388 (by decide) ?_
                          refine lv_goto (tgt := 393) hx hb dX5_fault_389 (by decide) ?_
                          exact Ky23 1 hVy23 _ _ hP hD hS
              · intro H locs hP hD hS
                rw [← hy_y23, vb_eq] at hT
                have b_y23 : y23 = 0 ∨ y23 = 1 := by rw [hy_y23]; (repeat' split) <;> first | exact Or.inl rfl | exact Or.inr rfl
                refine lv_istore (lv' := [(8, .int y23), (7, .int 1), (6, .int ((10 * (gF τ9 0 3)) + x9_2)), (5, .int (gA τ9 1 i109)), (0, .ref (ad 0)), (1, .int x9_1), (2, .int x9_2), (3, .int x9_3), (4, .int (nI i109))]) hx hb dX5_fault_393 hl (by decide) rfl (fun ls hl => ?_)
                refine lv_iload hx hb dX5_fault_395 (lv_at hl 0 rfl) ?_
                refine jn (α := Int32) (E := (if y23 = 0 then 0 else (if (gA τ9 1 i109) = 44 then (if 9 ≤ x9_2 then 0 else 1) else 0))) (Kp := fun y => ∀ (H : Heap) (locs : List Loc), va_P D vwCl (wM ad kk τ9) H → va_D (aL 23 ad s.heap.size) (wM ad kk τ9) → va_S (aL 23 ad s.heap.size) s.heap H locs → W p l e (headSpec wsX5_fault { frames := 1, cells := 0, slots := 0, locals := 20 }).room s m ([.ref (ad 0)] : List Value).toArray below meth c H locs 0 0 Q (F0 m 418 ls (.int y :: []))) (fun Vy29 hVy29 Ky29 => ?_) (fun y29 hy_y29 => ?_)
                · refine lv_if_eq (tgt := 417) hx hb dX5_fault_397 (by decide) (fun c30 => ?_) (fun c30 => ?_)
                  · rw [if_pos c30] at hVy29
                    refine lv_iconst (v := 0) hx hb dX5_fault_417 (by decide) ?_
                    exact Ky29 0 hVy29 _ _ hP hD hS
                  · rw [if_neg c30] at hVy29
                    refine lv_iload hx hb dX5_fault_400 (lv_at hl 3 rfl) ?_
                    refine lv_bipush (v := 44) hx hb dX5_fault_402 (by decide) ?_
                    refine lv_icmp_ne (tgt := 417) hx hb dX5_fault_404 (by decide) (fun c31 => ?_) (fun c31 => ?_)
                    · rw [if_neg c31] at hVy29
                      refine lv_iconst (v := 0) hx hb dX5_fault_417 (by decide) ?_
                      exact Ky29 0 hVy29 _ _ hP hD hS
                    · rw [if_pos c31] at hVy29
                      refine lv_iload_n hx hb dX5_fault_407 rfl (lv_at hl 6 rfl) ?_
                      refine lv_bipush (v := 9) hx hb dX5_fault_408 (by decide) ?_
                      refine lv_icmp_ge (tgt := 417) hx hb dX5_fault_410 (by decide) (fun c32 => ?_) (fun c32 => ?_)
                      · rw [if_pos c32] at hVy29
                        refine lv_iconst (v := 0) hx hb dX5_fault_417 (by decide) ?_
                        exact Ky29 0 hVy29 _ _ hP hD hS
                      · rw [if_neg c32] at hVy29
                        refine lv_iconst (v := 1) hx hb dX5_fault_413 (by decide) ?_
                        refine lv_goto (tgt := 418) hx hb dX5_fault_414 (by decide) ?_
                        exact Ky29 1 hVy29 _ _ hP hD hS
                · intro H locs hP hD hS
                  rw [← hy_y29, vb_eq] at hT
                  have hgd := hy_y29
                  have b_y29 : y29 = 0 ∨ y29 = 1 := by rw [hy_y29]; (repeat' split) <;> first | exact Or.inl rfl | exact Or.inr rfl
                  refine lv_istore (lv' := [(7, .int y29), (8, .int y23), (6, .int ((10 * (gF τ9 0 3)) + x9_2)), (5, .int (gA τ9 1 i109)), (0, .ref (ad 0)), (1, .int x9_1), (2, .int x9_2), (3, .int x9_3), (4, .int (nI i109))]) hx hb dX5_fault_418 hl (by decide) rfl (fun ls hl => ?_)
                  refine lv_iinc (v := x9_2 + 1) (lv' := [(2, .int (x9_2 + 1)), (7, .int y29), (8, .int y23), (6, .int ((10 * (gF τ9 0 3)) + x9_2)), (5, .int (gA τ9 1 i109)), (0, .ref (ad 0)), (1, .int x9_1), (3, .int x9_3), (4, .int (nI i109))]) hx hb dX5_fault_420 hl (k := 6) rfl rfl (by decide) rfl (fun ls hl => ?_)
                  refine lv_iconst (v := 0) hx hb dX5_fault_423 (by decide) ?_
                  refine lv_istore_n (lv' := [(1, .int 0), (2, .int (x9_2 + 1)), (7, .int y29), (8, .int y23), (6, .int ((10 * (gF τ9 0 3)) + x9_2)), (5, .int (gA τ9 1 i109)), (0, .ref (ad 0)), (3, .int x9_3), (4, .int (nI i109))]) hx hb dX5_fault_424 rfl hl (by decide) rfl (fun ls hl => ?_)
                  refine lv_iload hx hb dX5_fault_425 (lv_at hl 2 rfl) ?_
                  refine lv_if_ne (tgt := 433) hx hb dX5_fault_427 (by decide) (fun c33 => ?_) (fun c33 => ?_)
                  · rw [if_neg c33] at hT
                    have hgo := c33
                    refine lv_iinc (v := nI (i109 + 1)) (lv' := [(4, .int (nI (i109 + 1))), (1, .int 0), (2, .int (x9_2 + 1)), (7, .int y29), (8, .int y23), (6, .int ((10 * (gF τ9 0 3)) + x9_2)), (5, .int (gA τ9 1 i109)), (0, .ref (ad 0)), (3, .int x9_3)]) hx hb dX5_fault_433 hl (k := 8) rfl (nI_1 i109) (by decide) rfl (fun ls hl => ?_)
                    refine lv_goto (tgt := 9) hx hb dX5_fault_436 (by decide) ?_
                    exact ih  (i109 + 1) 0 (x9_2 + 1) x9_3 τ9 _ _ ls h_lt (by omega) (by first | exact hv0 | exact (hv0.k4).k5 | exact ((hv0.k3).k4).k5) hv1 (by first | exact hv2 | exact n_in hgd hgo hv2) hP hD hS (lv_sub hl [7, 1, 2, 8, 0] rfl) hT
                  · rw [if_pos c33] at hT
                    refine lv_iload hx hb dX5_fault_430 (lv_at hl 8 rfl) ?_
                    rw [eQ]
                    exact W.iret (v := nI i109) hx hb hr (fun t ht hW => ⟨⟨nI i109, τ9, rfl, hT, by rw [ht]; exact hP, va_K.moved hW.alike hK, hD⟩, hS.F ht⟩) hS.2.2 dX5_fault_432
            · rw [if_pos c22] at hT
              refine lv_aload_n hx hb dX5_fault_289 rfl (lv_at hl 3 rfl) ?_
              refine va_get (D := D) (ci := 5) (v := .ref (ad 3)) (C := RX5) (T := TX5) (N := 27) hx hb ht inX5 hown hK hP 0 g_Md rfl 5 (by decide) (ht _ mw_578) (fun _ h9 => h9) rfl dX5_fault_290 ?_
              refine lv_iload hx hb dX5_fault_293 (lv_at hl 1 rfl) ?_
              refine va_iald (i := (10 * (gF τ9 0 3)) + x9_2) hx hb hK hP 3 0 g_m_letters rfl (c_in hv1 hv2) dX5_fault_295 ?_
              refine lv_bipush (v := 117) hx hb dX5_fault_296 (by decide) ?_
              refine lv_icmp_eq (tgt := 313) hx hb dX5_fault_298 (by decide) (fun c34 => ?_) (fun c34 => ?_)
              · rw [if_pos c34] at hT
                refine lv_iload hx hb dX5_fault_313 (lv_at hl 2 rfl) ?_
                refine lv_aload_n hx hb dX5_fault_315 rfl (lv_at hl 3 rfl) ?_
                refine va_get (D := D) (ci := 5) (v := .ref (ad 3)) (C := RX5) (T := TX5) (N := 27) hx hb ht inX5 hown hK hP 0 g_Md rfl 5 (by decide) (ht _ mw_578) (fun _ h9 => h9) rfl dX5_fault_316 ?_
                refine lv_iload hx hb dX5_fault_319 (lv_at hl 1 rfl) ?_
                refine va_iald (i := (10 * (gF τ9 0 3)) + x9_2) hx hb hK hP 3 0 g_m_letters rfl (c_in hv1 hv2) dX5_fault_321 ?_
                refine lv_bipush (v := 117) hx hb dX5_fault_322 (by decide) ?_
                refine jn (α := Int32) (E := (if (gA τ9 3 ((10 * (gF τ9 0 3)) + x9_2).toNatClampNeg) = 117 then 42 else 58)) (Kp := fun y => ∀ (H : Heap) (locs : List Loc), va_P D vwCl (wM ad kk τ9) H → va_D (aL 23 ad s.heap.size) (wM ad kk τ9) → va_S (aL 23 ad s.heap.size) s.heap H locs → W p l e (headSpec wsX5_fault { frames := 1, cells := 0, slots := 0, locals := 20 }).room s m ([.ref (ad 0)] : List Value).toArray below meth c H locs 0 0 Q (F0 m 334 ls (.int y :: .int (gA τ9 1 i109) :: []))) (fun Vy35 hVy35 Ky35 => ?_) (fun y35 hy_y35 => ?_)
                · refine lv_icmp_ne (tgt := 332) hx hb dX5_fault_324 (by decide) (fun c36 => ?_) (fun c36 => ?_)
                  · rw [if_neg c36] at hVy35
                    refine lv_bipush (v := 58) hx hb dX5_fault_332 (by decide) ?_
                    exact Ky35 58 hVy35 _ _ hP hD hS
                  · rw [if_pos c36] at hVy35
                    refine lv_bipush (v := 42) hx hb dX5_fault_327 (by decide) ?_
                    refine lv_goto (tgt := 334) hx hb dX5_fault_329 (by decide) ?_
                    exact Ky35 42 hVy35 _ _ hP hD hS
                · intro H locs hP hD hS
                  rw [← hy_y35, vb_eq] at hT
                  refine jn (α := Int32) (E := (if (gA τ9 1 i109) = y35 then 1 else 0)) (Kp := fun y => ∀ (H : Heap) (locs : List Loc), va_P D vwCl (wM ad kk τ9) H → va_D (aL 23 ad s.heap.size) (wM ad kk τ9) → va_S (aL 23 ad s.heap.size) s.heap H locs → W p l e (headSpec wsX5_fault { frames := 1, cells := 0, slots := 0, locals := 20 }).room s m ([.ref (ad 0)] : List Value).toArray below meth c H locs 0 0 Q (F0 m 342 ls (.int y :: []))) (fun Vy37 hVy37 Ky37 => ?_) (fun y37 hy_y37 => ?_)
                  · refine lv_icmp_ne (tgt := 341) hx hb dX5_fault_334 (by decide) (fun c38 => ?_) (fun c38 => ?_)
                    · rw [if_neg c38] at hVy37
                      refine lv_iconst (v := 0) hx hb dX5_fault_341 (by decide) ?_
                      exact Ky37 0 hVy37 _ _ hP hD hS
                    · rw [if_pos c38] at hVy37
                      refine lv_iconst (v := 1) hx hb dX5_fault_337 (by decide) ?_
                      refine lv_goto (tgt := 342) hx hb dX5_fault_338 (by decide) ?_
                      exact Ky37 1 hVy37 _ _ hP hD hS
                  · intro H locs hP hD hS
                    rw [← hy_y37, vb_eq] at hT
                    have b_y37 : y37 = 0 ∨ y37 = 1 := by rw [hy_y37]; (repeat' split) <;> first | exact Or.inl rfl | exact Or.inr rfl
                    refine lv_istore (lv' := [(7, .int y37), (6, .int ((10 * (gF τ9 0 3)) + x9_2)), (5, .int (gA τ9 1 i109)), (0, .ref (ad 0)), (1, .int x9_1), (2, .int x9_2), (3, .int x9_3), (4, .int (nI i109))]) hx hb dX5_fault_342 hl (by decide) rfl (fun ls hl => ?_)
                    refine lv_iconst (v := 0) hx hb dX5_fault_344 (by decide) ?_
                    refine lv_istore_n (lv' := [(3, .int 0), (7, .int y37), (6, .int ((10 * (gF τ9 0 3)) + x9_2)), (5, .int (gA τ9 1 i109)), (0, .ref (ad 0)), (1, .int x9_1), (2, .int x9_2), (4, .int (nI i109))]) hx hb dX5_fault_345 rfl hl (by decide) rfl (fun ls hl => ?_)
                    refine lv_iconst (v := 3) hx hb dX5_fault_346 (by decide) ?_
                    refine lv_istore_n (lv' := [(1, .int 3), (3, .int 0), (7, .int y37), (6, .int ((10 * (gF τ9 0 3)) + x9_2)), (5, .int (gA τ9 1 i109)), (0, .ref (ad 0)), (2, .int x9_2), (4, .int (nI i109))]) hx hb dX5_fault_347 rfl hl (by decide) rfl (fun ls hl => ?_)
                    refine lv_goto (tgt := 425) hx hb dX5_fault_348 (by decide) ?_
                    refine lv_iload hx hb dX5_fault_425 (lv_at hl 2 rfl) ?_
                    refine lv_if_ne (tgt := 433) hx hb dX5_fault_427 (by decide) (fun c39 => ?_) (fun c39 => ?_)
                    · rw [if_neg c39] at hT
                      have hgo := c39
                      refine lv_iinc (v := nI (i109 + 1)) (lv' := [(4, .int (nI (i109 + 1))), (1, .int 3), (3, .int 0), (7, .int y37), (6, .int ((10 * (gF τ9 0 3)) + x9_2)), (5, .int (gA τ9 1 i109)), (0, .ref (ad 0)), (2, .int x9_2)]) hx hb dX5_fault_433 hl (k := 7) rfl (nI_1 i109) (by decide) rfl (fun ls hl => ?_)
                      refine lv_goto (tgt := 9) hx hb dX5_fault_436 (by decide) ?_
                      exact ih  (i109 + 1) 3 x9_2 0 τ9 _ _ ls h_lt (by omega) (by first | exact hv0 | exact (hv0.k4).k5 | exact ((hv0.k3).k4).k5) hv1 (by first | exact hv2 | exact n_in hgd hgo hv2) hP hD hS (lv_sub hl [6, 1, 7, 2, 0] rfl) hT
                    · rw [if_pos c39] at hT
                      refine lv_iload hx hb dX5_fault_430 (lv_at hl 7 rfl) ?_
                      rw [eQ]
                      exact W.iret (v := nI i109) hx hb hr (fun t ht hW => ⟨⟨nI i109, τ9, rfl, hT, by rw [ht]; exact hP, va_K.moved hW.alike hK, hD⟩, hS.F ht⟩) hS.2.2 dX5_fault_432
              · rw [if_neg c34] at hT
                refine lv_aload_n hx hb dX5_fault_301 rfl (lv_at hl 3 rfl) ?_
                refine va_get (D := D) (ci := 5) (v := .ref (ad 3)) (C := RX5) (T := TX5) (N := 27) hx hb ht inX5 hown hK hP 0 g_Md rfl 5 (by decide) (ht _ mw_578) (fun _ h9 => h9) rfl dX5_fault_302 ?_
                refine lv_iload hx hb dX5_fault_305 (lv_at hl 1 rfl) ?_
                refine va_iald (i := (10 * (gF τ9 0 3)) + x9_2) hx hb hK hP 3 0 g_m_letters rfl (c_in hv1 hv2) dX5_fault_307 ?_
                refine lv_bipush (v := 97) hx hb dX5_fault_308 (by decide) ?_
                refine lv_icmp_ne (tgt := 351) hx hb dX5_fault_310 (by decide) (fun c40 => ?_) (fun c40 => ?_)
                · rw [if_neg c40] at hT
                  refine lv_iload_n hx hb dX5_fault_351 rfl (lv_at hl 4 rfl) ?_
                  refine lv_iconst (v := 5) hx hb dX5_fault_352 (by decide) ?_
                  refine jn (α := Int32) (E := (if x9_1 = 5 then 1 else (if x9_1 = 2 then 1 else (if x9_1 = 4 then (if (gA τ9 3 ((10 * (gF τ9 0 3)) + x9_2).toNatClampNeg) = 97 then 1 else (if (gA τ9 5 ((10 * (gF τ9 0 3)) + x9_2).toNatClampNeg) ≤ 0 then 0 else 1)) else 0)))) (Kp := fun y => ∀ (H : Heap) (locs : List Loc), va_P D vwCl (wM ad kk τ9) H → va_D (aL 23 ad s.heap.size) (wM ad kk τ9) → va_S (aL 23 ad s.heap.size) s.heap H locs → W p l e (headSpec wsX5_fault { frames := 1, cells := 0, slots := 0, locals := 20 }).room s m ([.ref (ad 0)] : List Value).toArray below meth c H locs 0 0 Q (F0 m 393 ls (.int y :: []))) (fun Vy41 hVy41 Ky41 => ?_) (fun y41 hy_y41 => ?_)
                  · refine lv_icmp_eq (tgt := 388) hx hb dX5_fault_353 (by decide) (fun c42 => ?_) (fun c42 => ?_)
                    · rw [if_pos c42] at hVy41
                      refine lv_iconst (v := 1) hx hb dX5_fault_388 (by decide) ?_
                      refine lv_goto (tgt := 393) hx hb dX5_fault_389 (by decide) ?_
                      exact Ky41 1 hVy41 _ _ hP hD hS
                    · rw [if_neg c42] at hVy41
                      refine lv_iload_n hx hb dX5_fault_356 rfl (lv_at hl 4 rfl) ?_
                      refine lv_iconst (v := 2) hx hb dX5_fault_357 (by decide) ?_
                      refine lv_icmp_eq (tgt := 388) hx hb dX5_fault_358 (by decide) (fun c43 => ?_) (fun c43 => ?_)
                      · rw [if_pos c43] at hVy41
                        refine lv_iconst (v := 1) hx hb dX5_fault_388 (by decide) ?_
                        refine lv_goto (tgt := 393) hx hb dX5_fault_389 (by decide) ?_
                        exact Ky41 1 hVy41 _ _ hP hD hS
                      · rw [if_neg c43] at hVy41
                        refine lv_iload_n hx hb dX5_fault_361 rfl (lv_at hl 4 rfl) ?_
                        refine lv_iconst (v := 4) hx hb dX5_fault_362 (by decide) ?_
                        refine lv_icmp_ne (tgt := 392) hx hb dX5_fault_363 (by decide) (fun c44 => ?_) (fun c44 => ?_)
                        · rw [if_neg c44] at hVy41
                          refine lv_iconst (v := 0) hx hb dX5_fault_392 (by decide) ?_
                          exact Ky41 0 hVy41 _ _ hP hD hS
                        · rw [if_pos c44] at hVy41
                          refine lv_aload_n hx hb dX5_fault_366 rfl (lv_at hl 3 rfl) ?_
                          refine va_get (D := D) (ci := 5) (v := .ref (ad 3)) (C := RX5) (T := TX5) (N := 27) hx hb ht inX5 hown hK hP 0 g_Md rfl 5 (by decide) (ht _ mw_578) (fun _ h9 => h9) rfl dX5_fault_367 ?_
                          refine lv_iload hx hb dX5_fault_370 (lv_at hl 1 rfl) ?_
                          refine va_iald (i := (10 * (gF τ9 0 3)) + x9_2) hx hb hK hP 3 0 g_m_letters rfl (c_in hv1 hv2) dX5_fault_372 ?_
                          refine lv_bipush (v := 97) hx hb dX5_fault_373 (by decide) ?_
                          refine lv_icmp_eq (tgt := 388) hx hb dX5_fault_375 (by decide) (fun c45 => ?_) (fun c45 => ?_)
                          · rw [if_pos c45] at hVy41
                            refine lv_iconst (v := 1) hx hb dX5_fault_388 (by decide) ?_
                            refine lv_goto (tgt := 393) hx hb dX5_fault_389 (by decide) ?_
                            exact Ky41 1 hVy41 _ _ hP hD hS
                          · rw [if_neg c45] at hVy41
                            refine lv_aload_n hx hb dX5_fault_378 rfl (lv_at hl 3 rfl) ?_
                            refine va_get (D := D) (ci := 5) (v := .ref (ad 5)) (C := RX5) (T := TX5) (N := 27) hx hb ht inX5 hown hK hP 0 g_Md rfl 7 (by decide) (ht _ mw_580) (fun _ h9 => h9) rfl dX5_fault_379 ?_
                            refine lv_iload hx hb dX5_fault_382 (lv_at hl 1 rfl) ?_
                            refine va_iald (i := (10 * (gF τ9 0 3)) + x9_2) hx hb hK hP 5 0 g_m_seconds rfl (c_in hv1 hv2) dX5_fault_384 ?_
                            refine lv_if_le (tgt := 392) hx hb dX5_fault_385 (by decide) (fun c46 => ?_) (fun c46 => ?_)
                            · rw [if_pos c46] at hVy41
                              refine lv_iconst (v := 0) hx hb dX5_fault_392 (by decide) ?_
                              exact Ky41 0 hVy41 _ _ hP hD hS
                            · rw [if_neg c46] at hVy41
                              refine lv_iconst (v := 1) hx hb dX5_fault_388 (by decide) ?_
                              refine lv_goto (tgt := 393) hx hb dX5_fault_389 (by decide) ?_
                              exact Ky41 1 hVy41 _ _ hP hD hS
                  · intro H locs hP hD hS
                    rw [← hy_y41, vb_eq] at hT
                    have b_y41 : y41 = 0 ∨ y41 = 1 := by rw [hy_y41]; (repeat' split) <;> first | exact Or.inl rfl | exact Or.inr rfl
                    refine lv_istore (lv' := [(8, .int y41), (7, .int 1), (6, .int ((10 * (gF τ9 0 3)) + x9_2)), (5, .int (gA τ9 1 i109)), (0, .ref (ad 0)), (1, .int x9_1), (2, .int x9_2), (3, .int x9_3), (4, .int (nI i109))]) hx hb dX5_fault_393 hl (by decide) rfl (fun ls hl => ?_)
                    refine lv_iload hx hb dX5_fault_395 (lv_at hl 0 rfl) ?_
                    refine jn (α := Int32) (E := (if y41 = 0 then 0 else (if (gA τ9 1 i109) = 44 then (if 9 ≤ x9_2 then 0 else 1) else 0))) (Kp := fun y => ∀ (H : Heap) (locs : List Loc), va_P D vwCl (wM ad kk τ9) H → va_D (aL 23 ad s.heap.size) (wM ad kk τ9) → va_S (aL 23 ad s.heap.size) s.heap H locs → W p l e (headSpec wsX5_fault { frames := 1, cells := 0, slots := 0, locals := 20 }).room s m ([.ref (ad 0)] : List Value).toArray below meth c H locs 0 0 Q (F0 m 418 ls (.int y :: []))) (fun Vy47 hVy47 Ky47 => ?_) (fun y47 hy_y47 => ?_)
                    · refine lv_if_eq (tgt := 417) hx hb dX5_fault_397 (by decide) (fun c48 => ?_) (fun c48 => ?_)
                      · rw [if_pos c48] at hVy47
                        refine lv_iconst (v := 0) hx hb dX5_fault_417 (by decide) ?_
                        exact Ky47 0 hVy47 _ _ hP hD hS
                      · rw [if_neg c48] at hVy47
                        refine lv_iload hx hb dX5_fault_400 (lv_at hl 3 rfl) ?_
                        refine lv_bipush (v := 44) hx hb dX5_fault_402 (by decide) ?_
                        refine lv_icmp_ne (tgt := 417) hx hb dX5_fault_404 (by decide) (fun c49 => ?_) (fun c49 => ?_)
                        · rw [if_neg c49] at hVy47
                          refine lv_iconst (v := 0) hx hb dX5_fault_417 (by decide) ?_
                          exact Ky47 0 hVy47 _ _ hP hD hS
                        · rw [if_pos c49] at hVy47
                          refine lv_iload_n hx hb dX5_fault_407 rfl (lv_at hl 6 rfl) ?_
                          refine lv_bipush (v := 9) hx hb dX5_fault_408 (by decide) ?_
                          refine lv_icmp_ge (tgt := 417) hx hb dX5_fault_410 (by decide) (fun c50 => ?_) (fun c50 => ?_)
                          · rw [if_pos c50] at hVy47
                            refine lv_iconst (v := 0) hx hb dX5_fault_417 (by decide) ?_
                            exact Ky47 0 hVy47 _ _ hP hD hS
                          · rw [if_neg c50] at hVy47
                            refine lv_iconst (v := 1) hx hb dX5_fault_413 (by decide) ?_
                            refine lv_goto (tgt := 418) hx hb dX5_fault_414 (by decide) ?_
                            exact Ky47 1 hVy47 _ _ hP hD hS
                    · intro H locs hP hD hS
                      rw [← hy_y47, vb_eq] at hT
                      have hgd := hy_y47
                      have b_y47 : y47 = 0 ∨ y47 = 1 := by rw [hy_y47]; (repeat' split) <;> first | exact Or.inl rfl | exact Or.inr rfl
                      refine lv_istore (lv' := [(7, .int y47), (8, .int y41), (6, .int ((10 * (gF τ9 0 3)) + x9_2)), (5, .int (gA τ9 1 i109)), (0, .ref (ad 0)), (1, .int x9_1), (2, .int x9_2), (3, .int x9_3), (4, .int (nI i109))]) hx hb dX5_fault_418 hl (by decide) rfl (fun ls hl => ?_)
                      refine lv_iinc (v := x9_2 + 1) (lv' := [(2, .int (x9_2 + 1)), (7, .int y47), (8, .int y41), (6, .int ((10 * (gF τ9 0 3)) + x9_2)), (5, .int (gA τ9 1 i109)), (0, .ref (ad 0)), (1, .int x9_1), (3, .int x9_3), (4, .int (nI i109))]) hx hb dX5_fault_420 hl (k := 6) rfl rfl (by decide) rfl (fun ls hl => ?_)
                      refine lv_iconst (v := 0) hx hb dX5_fault_423 (by decide) ?_
                      refine lv_istore_n (lv' := [(1, .int 0), (2, .int (x9_2 + 1)), (7, .int y47), (8, .int y41), (6, .int ((10 * (gF τ9 0 3)) + x9_2)), (5, .int (gA τ9 1 i109)), (0, .ref (ad 0)), (3, .int x9_3), (4, .int (nI i109))]) hx hb dX5_fault_424 rfl hl (by decide) rfl (fun ls hl => ?_)
                      refine lv_iload hx hb dX5_fault_425 (lv_at hl 2 rfl) ?_
                      refine lv_if_ne (tgt := 433) hx hb dX5_fault_427 (by decide) (fun c51 => ?_) (fun c51 => ?_)
                      · rw [if_neg c51] at hT
                        have hgo := c51
                        refine lv_iinc (v := nI (i109 + 1)) (lv' := [(4, .int (nI (i109 + 1))), (1, .int 0), (2, .int (x9_2 + 1)), (7, .int y47), (8, .int y41), (6, .int ((10 * (gF τ9 0 3)) + x9_2)), (5, .int (gA τ9 1 i109)), (0, .ref (ad 0)), (3, .int x9_3)]) hx hb dX5_fault_433 hl (k := 8) rfl (nI_1 i109) (by decide) rfl (fun ls hl => ?_)
                        refine lv_goto (tgt := 9) hx hb dX5_fault_436 (by decide) ?_
                        exact ih  (i109 + 1) 0 (x9_2 + 1) x9_3 τ9 _ _ ls h_lt (by omega) (by first | exact hv0 | exact (hv0.k4).k5 | exact ((hv0.k3).k4).k5) hv1 (by first | exact hv2 | exact n_in hgd hgo hv2) hP hD hS (lv_sub hl [7, 1, 2, 8, 0] rfl) hT
                      · rw [if_pos c51] at hT
                        refine lv_iload hx hb dX5_fault_430 (lv_at hl 8 rfl) ?_
                        rw [eQ]
                        exact W.iret (v := nI i109) hx hb hr (fun t ht hW => ⟨⟨nI i109, τ9, rfl, hT, by rw [ht]; exact hP, va_K.moved hW.alike hK, hD⟩, hS.F ht⟩) hS.2.2 dX5_fault_432
                · rw [if_pos c40] at hT
                  refine lv_iload hx hb dX5_fault_313 (lv_at hl 2 rfl) ?_
                  refine lv_aload_n hx hb dX5_fault_315 rfl (lv_at hl 3 rfl) ?_
                  refine va_get (D := D) (ci := 5) (v := .ref (ad 3)) (C := RX5) (T := TX5) (N := 27) hx hb ht inX5 hown hK hP 0 g_Md rfl 5 (by decide) (ht _ mw_578) (fun _ h9 => h9) rfl dX5_fault_316 ?_
                  refine lv_iload hx hb dX5_fault_319 (lv_at hl 1 rfl) ?_
                  refine va_iald (i := (10 * (gF τ9 0 3)) + x9_2) hx hb hK hP 3 0 g_m_letters rfl (c_in hv1 hv2) dX5_fault_321 ?_
                  refine lv_bipush (v := 117) hx hb dX5_fault_322 (by decide) ?_
                  refine jn (α := Int32) (E := (if (gA τ9 3 ((10 * (gF τ9 0 3)) + x9_2).toNatClampNeg) = 117 then 42 else 58)) (Kp := fun y => ∀ (H : Heap) (locs : List Loc), va_P D vwCl (wM ad kk τ9) H → va_D (aL 23 ad s.heap.size) (wM ad kk τ9) → va_S (aL 23 ad s.heap.size) s.heap H locs → W p l e (headSpec wsX5_fault { frames := 1, cells := 0, slots := 0, locals := 20 }).room s m ([.ref (ad 0)] : List Value).toArray below meth c H locs 0 0 Q (F0 m 334 ls (.int y :: .int (gA τ9 1 i109) :: []))) (fun Vy52 hVy52 Ky52 => ?_) (fun y52 hy_y52 => ?_)
                  · refine lv_icmp_ne (tgt := 332) hx hb dX5_fault_324 (by decide) (fun c53 => ?_) (fun c53 => ?_)
                    · rw [if_neg c53] at hVy52
                      refine lv_bipush (v := 58) hx hb dX5_fault_332 (by decide) ?_
                      exact Ky52 58 hVy52 _ _ hP hD hS
                    · rw [if_pos c53] at hVy52
                      refine lv_bipush (v := 42) hx hb dX5_fault_327 (by decide) ?_
                      refine lv_goto (tgt := 334) hx hb dX5_fault_329 (by decide) ?_
                      exact Ky52 42 hVy52 _ _ hP hD hS
                  · intro H locs hP hD hS
                    rw [← hy_y52, vb_eq] at hT
                    refine jn (α := Int32) (E := (if (gA τ9 1 i109) = y52 then 1 else 0)) (Kp := fun y => ∀ (H : Heap) (locs : List Loc), va_P D vwCl (wM ad kk τ9) H → va_D (aL 23 ad s.heap.size) (wM ad kk τ9) → va_S (aL 23 ad s.heap.size) s.heap H locs → W p l e (headSpec wsX5_fault { frames := 1, cells := 0, slots := 0, locals := 20 }).room s m ([.ref (ad 0)] : List Value).toArray below meth c H locs 0 0 Q (F0 m 342 ls (.int y :: []))) (fun Vy54 hVy54 Ky54 => ?_) (fun y54 hy_y54 => ?_)
                    · refine lv_icmp_ne (tgt := 341) hx hb dX5_fault_334 (by decide) (fun c55 => ?_) (fun c55 => ?_)
                      · rw [if_neg c55] at hVy54
                        refine lv_iconst (v := 0) hx hb dX5_fault_341 (by decide) ?_
                        exact Ky54 0 hVy54 _ _ hP hD hS
                      · rw [if_pos c55] at hVy54
                        refine lv_iconst (v := 1) hx hb dX5_fault_337 (by decide) ?_
                        refine lv_goto (tgt := 342) hx hb dX5_fault_338 (by decide) ?_
                        exact Ky54 1 hVy54 _ _ hP hD hS
                    · intro H locs hP hD hS
                      rw [← hy_y54, vb_eq] at hT
                      have b_y54 : y54 = 0 ∨ y54 = 1 := by rw [hy_y54]; (repeat' split) <;> first | exact Or.inl rfl | exact Or.inr rfl
                      refine lv_istore (lv' := [(7, .int y54), (6, .int ((10 * (gF τ9 0 3)) + x9_2)), (5, .int (gA τ9 1 i109)), (0, .ref (ad 0)), (1, .int x9_1), (2, .int x9_2), (3, .int x9_3), (4, .int (nI i109))]) hx hb dX5_fault_342 hl (by decide) rfl (fun ls hl => ?_)
                      refine lv_iconst (v := 0) hx hb dX5_fault_344 (by decide) ?_
                      refine lv_istore_n (lv' := [(3, .int 0), (7, .int y54), (6, .int ((10 * (gF τ9 0 3)) + x9_2)), (5, .int (gA τ9 1 i109)), (0, .ref (ad 0)), (1, .int x9_1), (2, .int x9_2), (4, .int (nI i109))]) hx hb dX5_fault_345 rfl hl (by decide) rfl (fun ls hl => ?_)
                      refine lv_iconst (v := 3) hx hb dX5_fault_346 (by decide) ?_
                      refine lv_istore_n (lv' := [(1, .int 3), (3, .int 0), (7, .int y54), (6, .int ((10 * (gF τ9 0 3)) + x9_2)), (5, .int (gA τ9 1 i109)), (0, .ref (ad 0)), (2, .int x9_2), (4, .int (nI i109))]) hx hb dX5_fault_347 rfl hl (by decide) rfl (fun ls hl => ?_)
                      refine lv_goto (tgt := 425) hx hb dX5_fault_348 (by decide) ?_
                      refine lv_iload hx hb dX5_fault_425 (lv_at hl 2 rfl) ?_
                      refine lv_if_ne (tgt := 433) hx hb dX5_fault_427 (by decide) (fun c56 => ?_) (fun c56 => ?_)
                      · rw [if_neg c56] at hT
                        have hgo := c56
                        refine lv_iinc (v := nI (i109 + 1)) (lv' := [(4, .int (nI (i109 + 1))), (1, .int 3), (3, .int 0), (7, .int y54), (6, .int ((10 * (gF τ9 0 3)) + x9_2)), (5, .int (gA τ9 1 i109)), (0, .ref (ad 0)), (2, .int x9_2)]) hx hb dX5_fault_433 hl (k := 7) rfl (nI_1 i109) (by decide) rfl (fun ls hl => ?_)
                        refine lv_goto (tgt := 9) hx hb dX5_fault_436 (by decide) ?_
                        exact ih  (i109 + 1) 3 x9_2 0 τ9 _ _ ls h_lt (by omega) (by first | exact hv0 | exact (hv0.k4).k5 | exact ((hv0.k3).k4).k5) hv1 (by first | exact hv2 | exact n_in hgd hgo hv2) hP hD hS (lv_sub hl [6, 1, 7, 2, 0] rfl) hT
                      · rw [if_pos c56] at hT
                        refine lv_iload hx hb dX5_fault_430 (lv_at hl 7 rfl) ?_
                        rw [eQ]
                        exact W.iret (v := nI i109) hx hb hr (fun t ht hW => ⟨⟨nI i109, τ9, rfl, hT, by rw [ht]; exact hP, va_K.moved hW.alike hK, hD⟩, hS.F ht⟩) hS.2.2 dX5_fault_432
          · rw [if_neg c21] at hT
            refine lv_iload hx hb dX5_fault_109 (lv_at hl 2 rfl) ?_
            refine lv_bipush (v := 57) hx hb dX5_fault_111 (by decide) ?_
            refine lv_icmp_gt (tgt := 284) hx hb dX5_fault_113 (by decide) (fun c57 => ?_) (fun c57 => ?_)
            · rw [if_pos c57] at hT
              refine lv_iload_n hx hb dX5_fault_284 rfl (lv_at hl 4 rfl) ?_
              refine lv_iconst (v := 2) hx hb dX5_fault_285 (by decide) ?_
              refine lv_icmp_ne (tgt := 351) hx hb dX5_fault_286 (by decide) (fun c58 => ?_) (fun c58 => ?_)
              · rw [if_neg c58] at hT
                refine lv_iload_n hx hb dX5_fault_351 rfl (lv_at hl 4 rfl) ?_
                refine lv_iconst (v := 5) hx hb dX5_fault_352 (by decide) ?_
                refine jn (α := Int32) (E := (if x9_1 = 5 then 1 else (if x9_1 = 2 then 1 else (if x9_1 = 4 then (if (gA τ9 3 ((10 * (gF τ9 0 3)) + x9_2).toNatClampNeg) = 97 then 1 else (if (gA τ9 5 ((10 * (gF τ9 0 3)) + x9_2).toNatClampNeg) ≤ 0 then 0 else 1)) else 0)))) (Kp := fun y => ∀ (H : Heap) (locs : List Loc), va_P D vwCl (wM ad kk τ9) H → va_D (aL 23 ad s.heap.size) (wM ad kk τ9) → va_S (aL 23 ad s.heap.size) s.heap H locs → W p l e (headSpec wsX5_fault { frames := 1, cells := 0, slots := 0, locals := 20 }).room s m ([.ref (ad 0)] : List Value).toArray below meth c H locs 0 0 Q (F0 m 393 ls (.int y :: []))) (fun Vy59 hVy59 Ky59 => ?_) (fun y59 hy_y59 => ?_)
                · refine lv_icmp_eq (tgt := 388) hx hb dX5_fault_353 (by decide) (fun c60 => ?_) (fun c60 => ?_)
                  · rw [if_pos c60] at hVy59
                    refine lv_iconst (v := 1) hx hb dX5_fault_388 (by decide) ?_
                    refine lv_goto (tgt := 393) hx hb dX5_fault_389 (by decide) ?_
                    exact Ky59 1 hVy59 _ _ hP hD hS
                  · rw [if_neg c60] at hVy59
                    refine lv_iload_n hx hb dX5_fault_356 rfl (lv_at hl 4 rfl) ?_
                    refine lv_iconst (v := 2) hx hb dX5_fault_357 (by decide) ?_
                    refine lv_icmp_eq (tgt := 388) hx hb dX5_fault_358 (by decide) (fun c61 => ?_) (fun c61 => ?_)
                    · rw [if_pos c61] at hVy59
                      refine lv_iconst (v := 1) hx hb dX5_fault_388 (by decide) ?_
                      refine lv_goto (tgt := 393) hx hb dX5_fault_389 (by decide) ?_
                      exact Ky59 1 hVy59 _ _ hP hD hS
                    · rw [if_neg c61] at hVy59
                      refine lv_iload_n hx hb dX5_fault_361 rfl (lv_at hl 4 rfl) ?_
                      refine lv_iconst (v := 4) hx hb dX5_fault_362 (by decide) ?_
                      refine lv_icmp_ne (tgt := 392) hx hb dX5_fault_363 (by decide) (fun c62 => ?_) (fun c62 => ?_)
                      · rw [if_neg c62] at hVy59
                        refine lv_iconst (v := 0) hx hb dX5_fault_392 (by decide) ?_
                        exact Ky59 0 hVy59 _ _ hP hD hS
                      · rw [if_pos c62] at hVy59
                        refine lv_aload_n hx hb dX5_fault_366 rfl (lv_at hl 3 rfl) ?_
                        refine va_get (D := D) (ci := 5) (v := .ref (ad 3)) (C := RX5) (T := TX5) (N := 27) hx hb ht inX5 hown hK hP 0 g_Md rfl 5 (by decide) (ht _ mw_578) (fun _ h9 => h9) rfl dX5_fault_367 ?_
                        refine lv_iload hx hb dX5_fault_370 (lv_at hl 1 rfl) ?_
                        refine va_iald (i := (10 * (gF τ9 0 3)) + x9_2) hx hb hK hP 3 0 g_m_letters rfl (c_in hv1 hv2) dX5_fault_372 ?_
                        refine lv_bipush (v := 97) hx hb dX5_fault_373 (by decide) ?_
                        refine lv_icmp_eq (tgt := 388) hx hb dX5_fault_375 (by decide) (fun c63 => ?_) (fun c63 => ?_)
                        · rw [if_pos c63] at hVy59
                          refine lv_iconst (v := 1) hx hb dX5_fault_388 (by decide) ?_
                          refine lv_goto (tgt := 393) hx hb dX5_fault_389 (by decide) ?_
                          exact Ky59 1 hVy59 _ _ hP hD hS
                        · rw [if_neg c63] at hVy59
                          refine lv_aload_n hx hb dX5_fault_378 rfl (lv_at hl 3 rfl) ?_
                          refine va_get (D := D) (ci := 5) (v := .ref (ad 5)) (C := RX5) (T := TX5) (N := 27) hx hb ht inX5 hown hK hP 0 g_Md rfl 7 (by decide) (ht _ mw_580) (fun _ h9 => h9) rfl dX5_fault_379 ?_
                          refine lv_iload hx hb dX5_fault_382 (lv_at hl 1 rfl) ?_
                          refine va_iald (i := (10 * (gF τ9 0 3)) + x9_2) hx hb hK hP 5 0 g_m_seconds rfl (c_in hv1 hv2) dX5_fault_384 ?_
                          refine lv_if_le (tgt := 392) hx hb dX5_fault_385 (by decide) (fun c64 => ?_) (fun c64 => ?_)
                          · rw [if_pos c64] at hVy59
                            refine lv_iconst (v := 0) hx hb dX5_fault_392 (by decide) ?_
                            exact Ky59 0 hVy59 _ _ hP hD hS
                          · rw [if_neg c64] at hVy59
                            refine lv_iconst (v := 1) hx hb dX5_fault_388 (by decide) ?_
                            refine lv_goto (tgt := 393) hx hb dX5_fault_389 (by decide) ?_
                            exact Ky59 1 hVy59 _ _ hP hD hS
                · intro H locs hP hD hS
                  rw [← hy_y59, vb_eq] at hT
                  have b_y59 : y59 = 0 ∨ y59 = 1 := by rw [hy_y59]; (repeat' split) <;> first | exact Or.inl rfl | exact Or.inr rfl
                  refine lv_istore (lv' := [(8, .int y59), (7, .int 1), (6, .int ((10 * (gF τ9 0 3)) + x9_2)), (5, .int (gA τ9 1 i109)), (0, .ref (ad 0)), (1, .int x9_1), (2, .int x9_2), (3, .int x9_3), (4, .int (nI i109))]) hx hb dX5_fault_393 hl (by decide) rfl (fun ls hl => ?_)
                  refine lv_iload hx hb dX5_fault_395 (lv_at hl 0 rfl) ?_
                  refine jn (α := Int32) (E := (if y59 = 0 then 0 else (if (gA τ9 1 i109) = 44 then (if 9 ≤ x9_2 then 0 else 1) else 0))) (Kp := fun y => ∀ (H : Heap) (locs : List Loc), va_P D vwCl (wM ad kk τ9) H → va_D (aL 23 ad s.heap.size) (wM ad kk τ9) → va_S (aL 23 ad s.heap.size) s.heap H locs → W p l e (headSpec wsX5_fault { frames := 1, cells := 0, slots := 0, locals := 20 }).room s m ([.ref (ad 0)] : List Value).toArray below meth c H locs 0 0 Q (F0 m 418 ls (.int y :: []))) (fun Vy65 hVy65 Ky65 => ?_) (fun y65 hy_y65 => ?_)
                  · refine lv_if_eq (tgt := 417) hx hb dX5_fault_397 (by decide) (fun c66 => ?_) (fun c66 => ?_)
                    · rw [if_pos c66] at hVy65
                      refine lv_iconst (v := 0) hx hb dX5_fault_417 (by decide) ?_
                      exact Ky65 0 hVy65 _ _ hP hD hS
                    · rw [if_neg c66] at hVy65
                      refine lv_iload hx hb dX5_fault_400 (lv_at hl 3 rfl) ?_
                      refine lv_bipush (v := 44) hx hb dX5_fault_402 (by decide) ?_
                      refine lv_icmp_ne (tgt := 417) hx hb dX5_fault_404 (by decide) (fun c67 => ?_) (fun c67 => ?_)
                      · rw [if_neg c67] at hVy65
                        refine lv_iconst (v := 0) hx hb dX5_fault_417 (by decide) ?_
                        exact Ky65 0 hVy65 _ _ hP hD hS
                      · rw [if_pos c67] at hVy65
                        refine lv_iload_n hx hb dX5_fault_407 rfl (lv_at hl 6 rfl) ?_
                        refine lv_bipush (v := 9) hx hb dX5_fault_408 (by decide) ?_
                        refine lv_icmp_ge (tgt := 417) hx hb dX5_fault_410 (by decide) (fun c68 => ?_) (fun c68 => ?_)
                        · rw [if_pos c68] at hVy65
                          refine lv_iconst (v := 0) hx hb dX5_fault_417 (by decide) ?_
                          exact Ky65 0 hVy65 _ _ hP hD hS
                        · rw [if_neg c68] at hVy65
                          refine lv_iconst (v := 1) hx hb dX5_fault_413 (by decide) ?_
                          refine lv_goto (tgt := 418) hx hb dX5_fault_414 (by decide) ?_
                          exact Ky65 1 hVy65 _ _ hP hD hS
                  · intro H locs hP hD hS
                    rw [← hy_y65, vb_eq] at hT
                    have hgd := hy_y65
                    have b_y65 : y65 = 0 ∨ y65 = 1 := by rw [hy_y65]; (repeat' split) <;> first | exact Or.inl rfl | exact Or.inr rfl
                    refine lv_istore (lv' := [(7, .int y65), (8, .int y59), (6, .int ((10 * (gF τ9 0 3)) + x9_2)), (5, .int (gA τ9 1 i109)), (0, .ref (ad 0)), (1, .int x9_1), (2, .int x9_2), (3, .int x9_3), (4, .int (nI i109))]) hx hb dX5_fault_418 hl (by decide) rfl (fun ls hl => ?_)
                    refine lv_iinc (v := x9_2 + 1) (lv' := [(2, .int (x9_2 + 1)), (7, .int y65), (8, .int y59), (6, .int ((10 * (gF τ9 0 3)) + x9_2)), (5, .int (gA τ9 1 i109)), (0, .ref (ad 0)), (1, .int x9_1), (3, .int x9_3), (4, .int (nI i109))]) hx hb dX5_fault_420 hl (k := 6) rfl rfl (by decide) rfl (fun ls hl => ?_)
                    refine lv_iconst (v := 0) hx hb dX5_fault_423 (by decide) ?_
                    refine lv_istore_n (lv' := [(1, .int 0), (2, .int (x9_2 + 1)), (7, .int y65), (8, .int y59), (6, .int ((10 * (gF τ9 0 3)) + x9_2)), (5, .int (gA τ9 1 i109)), (0, .ref (ad 0)), (3, .int x9_3), (4, .int (nI i109))]) hx hb dX5_fault_424 rfl hl (by decide) rfl (fun ls hl => ?_)
                    refine lv_iload hx hb dX5_fault_425 (lv_at hl 2 rfl) ?_
                    refine lv_if_ne (tgt := 433) hx hb dX5_fault_427 (by decide) (fun c69 => ?_) (fun c69 => ?_)
                    · rw [if_neg c69] at hT
                      have hgo := c69
                      refine lv_iinc (v := nI (i109 + 1)) (lv' := [(4, .int (nI (i109 + 1))), (1, .int 0), (2, .int (x9_2 + 1)), (7, .int y65), (8, .int y59), (6, .int ((10 * (gF τ9 0 3)) + x9_2)), (5, .int (gA τ9 1 i109)), (0, .ref (ad 0)), (3, .int x9_3)]) hx hb dX5_fault_433 hl (k := 8) rfl (nI_1 i109) (by decide) rfl (fun ls hl => ?_)
                      refine lv_goto (tgt := 9) hx hb dX5_fault_436 (by decide) ?_
                      exact ih  (i109 + 1) 0 (x9_2 + 1) x9_3 τ9 _ _ ls h_lt (by omega) (by first | exact hv0 | exact (hv0.k4).k5 | exact ((hv0.k3).k4).k5) hv1 (by first | exact hv2 | exact n_in hgd hgo hv2) hP hD hS (lv_sub hl [7, 1, 2, 8, 0] rfl) hT
                    · rw [if_pos c69] at hT
                      refine lv_iload hx hb dX5_fault_430 (lv_at hl 8 rfl) ?_
                      rw [eQ]
                      exact W.iret (v := nI i109) hx hb hr (fun t ht hW => ⟨⟨nI i109, τ9, rfl, hT, by rw [ht]; exact hP, va_K.moved hW.alike hK, hD⟩, hS.F ht⟩) hS.2.2 dX5_fault_432
              · rw [if_pos c58] at hT
                refine lv_aload_n hx hb dX5_fault_289 rfl (lv_at hl 3 rfl) ?_
                refine va_get (D := D) (ci := 5) (v := .ref (ad 3)) (C := RX5) (T := TX5) (N := 27) hx hb ht inX5 hown hK hP 0 g_Md rfl 5 (by decide) (ht _ mw_578) (fun _ h9 => h9) rfl dX5_fault_290 ?_
                refine lv_iload hx hb dX5_fault_293 (lv_at hl 1 rfl) ?_
                refine va_iald (i := (10 * (gF τ9 0 3)) + x9_2) hx hb hK hP 3 0 g_m_letters rfl (c_in hv1 hv2) dX5_fault_295 ?_
                refine lv_bipush (v := 117) hx hb dX5_fault_296 (by decide) ?_
                refine lv_icmp_eq (tgt := 313) hx hb dX5_fault_298 (by decide) (fun c70 => ?_) (fun c70 => ?_)
                · rw [if_pos c70] at hT
                  refine lv_iload hx hb dX5_fault_313 (lv_at hl 2 rfl) ?_
                  refine lv_aload_n hx hb dX5_fault_315 rfl (lv_at hl 3 rfl) ?_
                  refine va_get (D := D) (ci := 5) (v := .ref (ad 3)) (C := RX5) (T := TX5) (N := 27) hx hb ht inX5 hown hK hP 0 g_Md rfl 5 (by decide) (ht _ mw_578) (fun _ h9 => h9) rfl dX5_fault_316 ?_
                  refine lv_iload hx hb dX5_fault_319 (lv_at hl 1 rfl) ?_
                  refine va_iald (i := (10 * (gF τ9 0 3)) + x9_2) hx hb hK hP 3 0 g_m_letters rfl (c_in hv1 hv2) dX5_fault_321 ?_
                  refine lv_bipush (v := 117) hx hb dX5_fault_322 (by decide) ?_
                  refine jn (α := Int32) (E := (if (gA τ9 3 ((10 * (gF τ9 0 3)) + x9_2).toNatClampNeg) = 117 then 42 else 58)) (Kp := fun y => ∀ (H : Heap) (locs : List Loc), va_P D vwCl (wM ad kk τ9) H → va_D (aL 23 ad s.heap.size) (wM ad kk τ9) → va_S (aL 23 ad s.heap.size) s.heap H locs → W p l e (headSpec wsX5_fault { frames := 1, cells := 0, slots := 0, locals := 20 }).room s m ([.ref (ad 0)] : List Value).toArray below meth c H locs 0 0 Q (F0 m 334 ls (.int y :: .int (gA τ9 1 i109) :: []))) (fun Vy71 hVy71 Ky71 => ?_) (fun y71 hy_y71 => ?_)
                  · refine lv_icmp_ne (tgt := 332) hx hb dX5_fault_324 (by decide) (fun c72 => ?_) (fun c72 => ?_)
                    · rw [if_neg c72] at hVy71
                      refine lv_bipush (v := 58) hx hb dX5_fault_332 (by decide) ?_
                      exact Ky71 58 hVy71 _ _ hP hD hS
                    · rw [if_pos c72] at hVy71
                      refine lv_bipush (v := 42) hx hb dX5_fault_327 (by decide) ?_
                      refine lv_goto (tgt := 334) hx hb dX5_fault_329 (by decide) ?_
                      exact Ky71 42 hVy71 _ _ hP hD hS
                  · intro H locs hP hD hS
                    rw [← hy_y71, vb_eq] at hT
                    refine jn (α := Int32) (E := (if (gA τ9 1 i109) = y71 then 1 else 0)) (Kp := fun y => ∀ (H : Heap) (locs : List Loc), va_P D vwCl (wM ad kk τ9) H → va_D (aL 23 ad s.heap.size) (wM ad kk τ9) → va_S (aL 23 ad s.heap.size) s.heap H locs → W p l e (headSpec wsX5_fault { frames := 1, cells := 0, slots := 0, locals := 20 }).room s m ([.ref (ad 0)] : List Value).toArray below meth c H locs 0 0 Q (F0 m 342 ls (.int y :: []))) (fun Vy73 hVy73 Ky73 => ?_) (fun y73 hy_y73 => ?_)
                    · refine lv_icmp_ne (tgt := 341) hx hb dX5_fault_334 (by decide) (fun c74 => ?_) (fun c74 => ?_)
                      · rw [if_neg c74] at hVy73
                        refine lv_iconst (v := 0) hx hb dX5_fault_341 (by decide) ?_
                        exact Ky73 0 hVy73 _ _ hP hD hS
                      · rw [if_pos c74] at hVy73
                        refine lv_iconst (v := 1) hx hb dX5_fault_337 (by decide) ?_
                        refine lv_goto (tgt := 342) hx hb dX5_fault_338 (by decide) ?_
                        exact Ky73 1 hVy73 _ _ hP hD hS
                    · intro H locs hP hD hS
                      rw [← hy_y73, vb_eq] at hT
                      have b_y73 : y73 = 0 ∨ y73 = 1 := by rw [hy_y73]; (repeat' split) <;> first | exact Or.inl rfl | exact Or.inr rfl
                      refine lv_istore (lv' := [(7, .int y73), (6, .int ((10 * (gF τ9 0 3)) + x9_2)), (5, .int (gA τ9 1 i109)), (0, .ref (ad 0)), (1, .int x9_1), (2, .int x9_2), (3, .int x9_3), (4, .int (nI i109))]) hx hb dX5_fault_342 hl (by decide) rfl (fun ls hl => ?_)
                      refine lv_iconst (v := 0) hx hb dX5_fault_344 (by decide) ?_
                      refine lv_istore_n (lv' := [(3, .int 0), (7, .int y73), (6, .int ((10 * (gF τ9 0 3)) + x9_2)), (5, .int (gA τ9 1 i109)), (0, .ref (ad 0)), (1, .int x9_1), (2, .int x9_2), (4, .int (nI i109))]) hx hb dX5_fault_345 rfl hl (by decide) rfl (fun ls hl => ?_)
                      refine lv_iconst (v := 3) hx hb dX5_fault_346 (by decide) ?_
                      refine lv_istore_n (lv' := [(1, .int 3), (3, .int 0), (7, .int y73), (6, .int ((10 * (gF τ9 0 3)) + x9_2)), (5, .int (gA τ9 1 i109)), (0, .ref (ad 0)), (2, .int x9_2), (4, .int (nI i109))]) hx hb dX5_fault_347 rfl hl (by decide) rfl (fun ls hl => ?_)
                      refine lv_goto (tgt := 425) hx hb dX5_fault_348 (by decide) ?_
                      refine lv_iload hx hb dX5_fault_425 (lv_at hl 2 rfl) ?_
                      refine lv_if_ne (tgt := 433) hx hb dX5_fault_427 (by decide) (fun c75 => ?_) (fun c75 => ?_)
                      · rw [if_neg c75] at hT
                        have hgo := c75
                        refine lv_iinc (v := nI (i109 + 1)) (lv' := [(4, .int (nI (i109 + 1))), (1, .int 3), (3, .int 0), (7, .int y73), (6, .int ((10 * (gF τ9 0 3)) + x9_2)), (5, .int (gA τ9 1 i109)), (0, .ref (ad 0)), (2, .int x9_2)]) hx hb dX5_fault_433 hl (k := 7) rfl (nI_1 i109) (by decide) rfl (fun ls hl => ?_)
                        refine lv_goto (tgt := 9) hx hb dX5_fault_436 (by decide) ?_
                        exact ih  (i109 + 1) 3 x9_2 0 τ9 _ _ ls h_lt (by omega) (by first | exact hv0 | exact (hv0.k4).k5 | exact ((hv0.k3).k4).k5) hv1 (by first | exact hv2 | exact n_in hgd hgo hv2) hP hD hS (lv_sub hl [6, 1, 7, 2, 0] rfl) hT
                      · rw [if_pos c75] at hT
                        refine lv_iload hx hb dX5_fault_430 (lv_at hl 7 rfl) ?_
                        rw [eQ]
                        exact W.iret (v := nI i109) hx hb hr (fun t ht hW => ⟨⟨nI i109, τ9, rfl, hT, by rw [ht]; exact hP, va_K.moved hW.alike hK, hD⟩, hS.F ht⟩) hS.2.2 dX5_fault_432
                · rw [if_neg c70] at hT
                  refine lv_aload_n hx hb dX5_fault_301 rfl (lv_at hl 3 rfl) ?_
                  refine va_get (D := D) (ci := 5) (v := .ref (ad 3)) (C := RX5) (T := TX5) (N := 27) hx hb ht inX5 hown hK hP 0 g_Md rfl 5 (by decide) (ht _ mw_578) (fun _ h9 => h9) rfl dX5_fault_302 ?_
                  refine lv_iload hx hb dX5_fault_305 (lv_at hl 1 rfl) ?_
                  refine va_iald (i := (10 * (gF τ9 0 3)) + x9_2) hx hb hK hP 3 0 g_m_letters rfl (c_in hv1 hv2) dX5_fault_307 ?_
                  refine lv_bipush (v := 97) hx hb dX5_fault_308 (by decide) ?_
                  refine lv_icmp_ne (tgt := 351) hx hb dX5_fault_310 (by decide) (fun c76 => ?_) (fun c76 => ?_)
                  · rw [if_neg c76] at hT
                    refine lv_iload_n hx hb dX5_fault_351 rfl (lv_at hl 4 rfl) ?_
                    refine lv_iconst (v := 5) hx hb dX5_fault_352 (by decide) ?_
                    refine jn (α := Int32) (E := (if x9_1 = 5 then 1 else (if x9_1 = 2 then 1 else (if x9_1 = 4 then (if (gA τ9 3 ((10 * (gF τ9 0 3)) + x9_2).toNatClampNeg) = 97 then 1 else (if (gA τ9 5 ((10 * (gF τ9 0 3)) + x9_2).toNatClampNeg) ≤ 0 then 0 else 1)) else 0)))) (Kp := fun y => ∀ (H : Heap) (locs : List Loc), va_P D vwCl (wM ad kk τ9) H → va_D (aL 23 ad s.heap.size) (wM ad kk τ9) → va_S (aL 23 ad s.heap.size) s.heap H locs → W p l e (headSpec wsX5_fault { frames := 1, cells := 0, slots := 0, locals := 20 }).room s m ([.ref (ad 0)] : List Value).toArray below meth c H locs 0 0 Q (F0 m 393 ls (.int y :: []))) (fun Vy77 hVy77 Ky77 => ?_) (fun y77 hy_y77 => ?_)
                    · refine lv_icmp_eq (tgt := 388) hx hb dX5_fault_353 (by decide) (fun c78 => ?_) (fun c78 => ?_)
                      · rw [if_pos c78] at hVy77
                        refine lv_iconst (v := 1) hx hb dX5_fault_388 (by decide) ?_
                        refine lv_goto (tgt := 393) hx hb dX5_fault_389 (by decide) ?_
                        exact Ky77 1 hVy77 _ _ hP hD hS
                      · rw [if_neg c78] at hVy77
                        refine lv_iload_n hx hb dX5_fault_356 rfl (lv_at hl 4 rfl) ?_
                        refine lv_iconst (v := 2) hx hb dX5_fault_357 (by decide) ?_
                        refine lv_icmp_eq (tgt := 388) hx hb dX5_fault_358 (by decide) (fun c79 => ?_) (fun c79 => ?_)
                        · rw [if_pos c79] at hVy77
                          refine lv_iconst (v := 1) hx hb dX5_fault_388 (by decide) ?_
                          refine lv_goto (tgt := 393) hx hb dX5_fault_389 (by decide) ?_
                          exact Ky77 1 hVy77 _ _ hP hD hS
                        · rw [if_neg c79] at hVy77
                          refine lv_iload_n hx hb dX5_fault_361 rfl (lv_at hl 4 rfl) ?_
                          refine lv_iconst (v := 4) hx hb dX5_fault_362 (by decide) ?_
                          refine lv_icmp_ne (tgt := 392) hx hb dX5_fault_363 (by decide) (fun c80 => ?_) (fun c80 => ?_)
                          · rw [if_neg c80] at hVy77
                            refine lv_iconst (v := 0) hx hb dX5_fault_392 (by decide) ?_
                            exact Ky77 0 hVy77 _ _ hP hD hS
                          · rw [if_pos c80] at hVy77
                            refine lv_aload_n hx hb dX5_fault_366 rfl (lv_at hl 3 rfl) ?_
                            refine va_get (D := D) (ci := 5) (v := .ref (ad 3)) (C := RX5) (T := TX5) (N := 27) hx hb ht inX5 hown hK hP 0 g_Md rfl 5 (by decide) (ht _ mw_578) (fun _ h9 => h9) rfl dX5_fault_367 ?_
                            refine lv_iload hx hb dX5_fault_370 (lv_at hl 1 rfl) ?_
                            refine va_iald (i := (10 * (gF τ9 0 3)) + x9_2) hx hb hK hP 3 0 g_m_letters rfl (c_in hv1 hv2) dX5_fault_372 ?_
                            refine lv_bipush (v := 97) hx hb dX5_fault_373 (by decide) ?_
                            refine lv_icmp_eq (tgt := 388) hx hb dX5_fault_375 (by decide) (fun c81 => ?_) (fun c81 => ?_)
                            · rw [if_pos c81] at hVy77
                              refine lv_iconst (v := 1) hx hb dX5_fault_388 (by decide) ?_
                              refine lv_goto (tgt := 393) hx hb dX5_fault_389 (by decide) ?_
                              exact Ky77 1 hVy77 _ _ hP hD hS
                            · rw [if_neg c81] at hVy77
                              refine lv_aload_n hx hb dX5_fault_378 rfl (lv_at hl 3 rfl) ?_
                              refine va_get (D := D) (ci := 5) (v := .ref (ad 5)) (C := RX5) (T := TX5) (N := 27) hx hb ht inX5 hown hK hP 0 g_Md rfl 7 (by decide) (ht _ mw_580) (fun _ h9 => h9) rfl dX5_fault_379 ?_
                              refine lv_iload hx hb dX5_fault_382 (lv_at hl 1 rfl) ?_
                              refine va_iald (i := (10 * (gF τ9 0 3)) + x9_2) hx hb hK hP 5 0 g_m_seconds rfl (c_in hv1 hv2) dX5_fault_384 ?_
                              refine lv_if_le (tgt := 392) hx hb dX5_fault_385 (by decide) (fun c82 => ?_) (fun c82 => ?_)
                              · rw [if_pos c82] at hVy77
                                refine lv_iconst (v := 0) hx hb dX5_fault_392 (by decide) ?_
                                exact Ky77 0 hVy77 _ _ hP hD hS
                              · rw [if_neg c82] at hVy77
                                refine lv_iconst (v := 1) hx hb dX5_fault_388 (by decide) ?_
                                refine lv_goto (tgt := 393) hx hb dX5_fault_389 (by decide) ?_
                                exact Ky77 1 hVy77 _ _ hP hD hS
                    · intro H locs hP hD hS
                      rw [← hy_y77, vb_eq] at hT
                      have b_y77 : y77 = 0 ∨ y77 = 1 := by rw [hy_y77]; (repeat' split) <;> first | exact Or.inl rfl | exact Or.inr rfl
                      refine lv_istore (lv' := [(8, .int y77), (7, .int 1), (6, .int ((10 * (gF τ9 0 3)) + x9_2)), (5, .int (gA τ9 1 i109)), (0, .ref (ad 0)), (1, .int x9_1), (2, .int x9_2), (3, .int x9_3), (4, .int (nI i109))]) hx hb dX5_fault_393 hl (by decide) rfl (fun ls hl => ?_)
                      refine lv_iload hx hb dX5_fault_395 (lv_at hl 0 rfl) ?_
                      refine jn (α := Int32) (E := (if y77 = 0 then 0 else (if (gA τ9 1 i109) = 44 then (if 9 ≤ x9_2 then 0 else 1) else 0))) (Kp := fun y => ∀ (H : Heap) (locs : List Loc), va_P D vwCl (wM ad kk τ9) H → va_D (aL 23 ad s.heap.size) (wM ad kk τ9) → va_S (aL 23 ad s.heap.size) s.heap H locs → W p l e (headSpec wsX5_fault { frames := 1, cells := 0, slots := 0, locals := 20 }).room s m ([.ref (ad 0)] : List Value).toArray below meth c H locs 0 0 Q (F0 m 418 ls (.int y :: []))) (fun Vy83 hVy83 Ky83 => ?_) (fun y83 hy_y83 => ?_)
                      · refine lv_if_eq (tgt := 417) hx hb dX5_fault_397 (by decide) (fun c84 => ?_) (fun c84 => ?_)
                        · rw [if_pos c84] at hVy83
                          refine lv_iconst (v := 0) hx hb dX5_fault_417 (by decide) ?_
                          exact Ky83 0 hVy83 _ _ hP hD hS
                        · rw [if_neg c84] at hVy83
                          refine lv_iload hx hb dX5_fault_400 (lv_at hl 3 rfl) ?_
                          refine lv_bipush (v := 44) hx hb dX5_fault_402 (by decide) ?_
                          refine lv_icmp_ne (tgt := 417) hx hb dX5_fault_404 (by decide) (fun c85 => ?_) (fun c85 => ?_)
                          · rw [if_neg c85] at hVy83
                            refine lv_iconst (v := 0) hx hb dX5_fault_417 (by decide) ?_
                            exact Ky83 0 hVy83 _ _ hP hD hS
                          · rw [if_pos c85] at hVy83
                            refine lv_iload_n hx hb dX5_fault_407 rfl (lv_at hl 6 rfl) ?_
                            refine lv_bipush (v := 9) hx hb dX5_fault_408 (by decide) ?_
                            refine lv_icmp_ge (tgt := 417) hx hb dX5_fault_410 (by decide) (fun c86 => ?_) (fun c86 => ?_)
                            · rw [if_pos c86] at hVy83
                              refine lv_iconst (v := 0) hx hb dX5_fault_417 (by decide) ?_
                              exact Ky83 0 hVy83 _ _ hP hD hS
                            · rw [if_neg c86] at hVy83
                              refine lv_iconst (v := 1) hx hb dX5_fault_413 (by decide) ?_
                              refine lv_goto (tgt := 418) hx hb dX5_fault_414 (by decide) ?_
                              exact Ky83 1 hVy83 _ _ hP hD hS
                      · intro H locs hP hD hS
                        rw [← hy_y83, vb_eq] at hT
                        have hgd := hy_y83
                        have b_y83 : y83 = 0 ∨ y83 = 1 := by rw [hy_y83]; (repeat' split) <;> first | exact Or.inl rfl | exact Or.inr rfl
                        refine lv_istore (lv' := [(7, .int y83), (8, .int y77), (6, .int ((10 * (gF τ9 0 3)) + x9_2)), (5, .int (gA τ9 1 i109)), (0, .ref (ad 0)), (1, .int x9_1), (2, .int x9_2), (3, .int x9_3), (4, .int (nI i109))]) hx hb dX5_fault_418 hl (by decide) rfl (fun ls hl => ?_)
                        refine lv_iinc (v := x9_2 + 1) (lv' := [(2, .int (x9_2 + 1)), (7, .int y83), (8, .int y77), (6, .int ((10 * (gF τ9 0 3)) + x9_2)), (5, .int (gA τ9 1 i109)), (0, .ref (ad 0)), (1, .int x9_1), (3, .int x9_3), (4, .int (nI i109))]) hx hb dX5_fault_420 hl (k := 6) rfl rfl (by decide) rfl (fun ls hl => ?_)
                        refine lv_iconst (v := 0) hx hb dX5_fault_423 (by decide) ?_
                        refine lv_istore_n (lv' := [(1, .int 0), (2, .int (x9_2 + 1)), (7, .int y83), (8, .int y77), (6, .int ((10 * (gF τ9 0 3)) + x9_2)), (5, .int (gA τ9 1 i109)), (0, .ref (ad 0)), (3, .int x9_3), (4, .int (nI i109))]) hx hb dX5_fault_424 rfl hl (by decide) rfl (fun ls hl => ?_)
                        refine lv_iload hx hb dX5_fault_425 (lv_at hl 2 rfl) ?_
                        refine lv_if_ne (tgt := 433) hx hb dX5_fault_427 (by decide) (fun c87 => ?_) (fun c87 => ?_)
                        · rw [if_neg c87] at hT
                          have hgo := c87
                          refine lv_iinc (v := nI (i109 + 1)) (lv' := [(4, .int (nI (i109 + 1))), (1, .int 0), (2, .int (x9_2 + 1)), (7, .int y83), (8, .int y77), (6, .int ((10 * (gF τ9 0 3)) + x9_2)), (5, .int (gA τ9 1 i109)), (0, .ref (ad 0)), (3, .int x9_3)]) hx hb dX5_fault_433 hl (k := 8) rfl (nI_1 i109) (by decide) rfl (fun ls hl => ?_)
                          refine lv_goto (tgt := 9) hx hb dX5_fault_436 (by decide) ?_
                          exact ih  (i109 + 1) 0 (x9_2 + 1) x9_3 τ9 _ _ ls h_lt (by omega) (by first | exact hv0 | exact (hv0.k4).k5 | exact ((hv0.k3).k4).k5) hv1 (by first | exact hv2 | exact n_in hgd hgo hv2) hP hD hS (lv_sub hl [7, 1, 2, 8, 0] rfl) hT
                        · rw [if_pos c87] at hT
                          refine lv_iload hx hb dX5_fault_430 (lv_at hl 8 rfl) ?_
                          rw [eQ]
                          exact W.iret (v := nI i109) hx hb hr (fun t ht hW => ⟨⟨nI i109, τ9, rfl, hT, by rw [ht]; exact hP, va_K.moved hW.alike hK, hD⟩, hS.F ht⟩) hS.2.2 dX5_fault_432
                  · rw [if_pos c76] at hT
                    refine lv_iload hx hb dX5_fault_313 (lv_at hl 2 rfl) ?_
                    refine lv_aload_n hx hb dX5_fault_315 rfl (lv_at hl 3 rfl) ?_
                    refine va_get (D := D) (ci := 5) (v := .ref (ad 3)) (C := RX5) (T := TX5) (N := 27) hx hb ht inX5 hown hK hP 0 g_Md rfl 5 (by decide) (ht _ mw_578) (fun _ h9 => h9) rfl dX5_fault_316 ?_
                    refine lv_iload hx hb dX5_fault_319 (lv_at hl 1 rfl) ?_
                    refine va_iald (i := (10 * (gF τ9 0 3)) + x9_2) hx hb hK hP 3 0 g_m_letters rfl (c_in hv1 hv2) dX5_fault_321 ?_
                    refine lv_bipush (v := 117) hx hb dX5_fault_322 (by decide) ?_
                    refine jn (α := Int32) (E := (if (gA τ9 3 ((10 * (gF τ9 0 3)) + x9_2).toNatClampNeg) = 117 then 42 else 58)) (Kp := fun y => ∀ (H : Heap) (locs : List Loc), va_P D vwCl (wM ad kk τ9) H → va_D (aL 23 ad s.heap.size) (wM ad kk τ9) → va_S (aL 23 ad s.heap.size) s.heap H locs → W p l e (headSpec wsX5_fault { frames := 1, cells := 0, slots := 0, locals := 20 }).room s m ([.ref (ad 0)] : List Value).toArray below meth c H locs 0 0 Q (F0 m 334 ls (.int y :: .int (gA τ9 1 i109) :: []))) (fun Vy88 hVy88 Ky88 => ?_) (fun y88 hy_y88 => ?_)
                    · refine lv_icmp_ne (tgt := 332) hx hb dX5_fault_324 (by decide) (fun c89 => ?_) (fun c89 => ?_)
                      · rw [if_neg c89] at hVy88
                        refine lv_bipush (v := 58) hx hb dX5_fault_332 (by decide) ?_
                        exact Ky88 58 hVy88 _ _ hP hD hS
                      · rw [if_pos c89] at hVy88
                        refine lv_bipush (v := 42) hx hb dX5_fault_327 (by decide) ?_
                        refine lv_goto (tgt := 334) hx hb dX5_fault_329 (by decide) ?_
                        exact Ky88 42 hVy88 _ _ hP hD hS
                    · intro H locs hP hD hS
                      rw [← hy_y88, vb_eq] at hT
                      refine jn (α := Int32) (E := (if (gA τ9 1 i109) = y88 then 1 else 0)) (Kp := fun y => ∀ (H : Heap) (locs : List Loc), va_P D vwCl (wM ad kk τ9) H → va_D (aL 23 ad s.heap.size) (wM ad kk τ9) → va_S (aL 23 ad s.heap.size) s.heap H locs → W p l e (headSpec wsX5_fault { frames := 1, cells := 0, slots := 0, locals := 20 }).room s m ([.ref (ad 0)] : List Value).toArray below meth c H locs 0 0 Q (F0 m 342 ls (.int y :: []))) (fun Vy90 hVy90 Ky90 => ?_) (fun y90 hy_y90 => ?_)
                      · refine lv_icmp_ne (tgt := 341) hx hb dX5_fault_334 (by decide) (fun c91 => ?_) (fun c91 => ?_)
                        · rw [if_neg c91] at hVy90
                          refine lv_iconst (v := 0) hx hb dX5_fault_341 (by decide) ?_
                          exact Ky90 0 hVy90 _ _ hP hD hS
                        · rw [if_pos c91] at hVy90
                          refine lv_iconst (v := 1) hx hb dX5_fault_337 (by decide) ?_
                          refine lv_goto (tgt := 342) hx hb dX5_fault_338 (by decide) ?_
                          exact Ky90 1 hVy90 _ _ hP hD hS
                      · intro H locs hP hD hS
                        rw [← hy_y90, vb_eq] at hT
                        have b_y90 : y90 = 0 ∨ y90 = 1 := by rw [hy_y90]; (repeat' split) <;> first | exact Or.inl rfl | exact Or.inr rfl
                        refine lv_istore (lv' := [(7, .int y90), (6, .int ((10 * (gF τ9 0 3)) + x9_2)), (5, .int (gA τ9 1 i109)), (0, .ref (ad 0)), (1, .int x9_1), (2, .int x9_2), (3, .int x9_3), (4, .int (nI i109))]) hx hb dX5_fault_342 hl (by decide) rfl (fun ls hl => ?_)
                        refine lv_iconst (v := 0) hx hb dX5_fault_344 (by decide) ?_
                        refine lv_istore_n (lv' := [(3, .int 0), (7, .int y90), (6, .int ((10 * (gF τ9 0 3)) + x9_2)), (5, .int (gA τ9 1 i109)), (0, .ref (ad 0)), (1, .int x9_1), (2, .int x9_2), (4, .int (nI i109))]) hx hb dX5_fault_345 rfl hl (by decide) rfl (fun ls hl => ?_)
                        refine lv_iconst (v := 3) hx hb dX5_fault_346 (by decide) ?_
                        refine lv_istore_n (lv' := [(1, .int 3), (3, .int 0), (7, .int y90), (6, .int ((10 * (gF τ9 0 3)) + x9_2)), (5, .int (gA τ9 1 i109)), (0, .ref (ad 0)), (2, .int x9_2), (4, .int (nI i109))]) hx hb dX5_fault_347 rfl hl (by decide) rfl (fun ls hl => ?_)
                        refine lv_goto (tgt := 425) hx hb dX5_fault_348 (by decide) ?_
                        refine lv_iload hx hb dX5_fault_425 (lv_at hl 2 rfl) ?_
                        refine lv_if_ne (tgt := 433) hx hb dX5_fault_427 (by decide) (fun c92 => ?_) (fun c92 => ?_)
                        · rw [if_neg c92] at hT
                          have hgo := c92
                          refine lv_iinc (v := nI (i109 + 1)) (lv' := [(4, .int (nI (i109 + 1))), (1, .int 3), (3, .int 0), (7, .int y90), (6, .int ((10 * (gF τ9 0 3)) + x9_2)), (5, .int (gA τ9 1 i109)), (0, .ref (ad 0)), (2, .int x9_2)]) hx hb dX5_fault_433 hl (k := 7) rfl (nI_1 i109) (by decide) rfl (fun ls hl => ?_)
                          refine lv_goto (tgt := 9) hx hb dX5_fault_436 (by decide) ?_
                          exact ih  (i109 + 1) 3 x9_2 0 τ9 _ _ ls h_lt (by omega) (by first | exact hv0 | exact (hv0.k4).k5 | exact ((hv0.k3).k4).k5) hv1 (by first | exact hv2 | exact n_in hgd hgo hv2) hP hD hS (lv_sub hl [6, 1, 7, 2, 0] rfl) hT
                        · rw [if_pos c92] at hT
                          refine lv_iload hx hb dX5_fault_430 (lv_at hl 7 rfl) ?_
                          rw [eQ]
                          exact W.iret (v := nI i109) hx hb hr (fun t ht hW => ⟨⟨nI i109, τ9, rfl, hT, by rw [ht]; exact hP, va_K.moved hW.alike hK, hD⟩, hS.F ht⟩) hS.2.2 dX5_fault_432
            · rw [if_neg c57] at hT
              refine lv_iload_n hx hb dX5_fault_116 rfl (lv_at hl 4 rfl) ?_
              refine lv_iconst (v := 5) hx hb dX5_fault_117 (by decide) ?_
              refine lv_icmp_ge (tgt := 284) hx hb dX5_fault_118 (by decide) (fun c93 => ?_) (fun c93 => ?_)
              · rw [if_pos c93] at hT
                refine lv_iload_n hx hb dX5_fault_284 rfl (lv_at hl 4 rfl) ?_
                refine lv_iconst (v := 2) hx hb dX5_fault_285 (by decide) ?_
                refine lv_icmp_ne (tgt := 351) hx hb dX5_fault_286 (by decide) (fun c94 => ?_) (fun c94 => ?_)
                · rw [if_neg c94] at hT
                  refine lv_iload_n hx hb dX5_fault_351 rfl (lv_at hl 4 rfl) ?_
                  refine lv_iconst (v := 5) hx hb dX5_fault_352 (by decide) ?_
                  refine jn (α := Int32) (E := (if x9_1 = 5 then 1 else (if x9_1 = 2 then 1 else (if x9_1 = 4 then (if (gA τ9 3 ((10 * (gF τ9 0 3)) + x9_2).toNatClampNeg) = 97 then 1 else (if (gA τ9 5 ((10 * (gF τ9 0 3)) + x9_2).toNatClampNeg) ≤ 0 then 0 else 1)) else 0)))) (Kp := fun y => ∀ (H : Heap) (locs : List Loc), va_P D vwCl (wM ad kk τ9) H → va_D (aL 23 ad s.heap.size) (wM ad kk τ9) → va_S (aL 23 ad s.heap.size) s.heap H locs → W p l e (headSpec wsX5_fault { frames := 1, cells := 0, slots := 0, locals := 20 }).room s m ([.ref (ad 0)] : List Value).toArray below meth c H locs 0 0 Q (F0 m 393 ls (.int y :: []))) (fun Vy95 hVy95 Ky95 => ?_) (fun y95 hy_y95 => ?_)
                  · refine lv_icmp_eq (tgt := 388) hx hb dX5_fault_353 (by decide) (fun c96 => ?_) (fun c96 => ?_)
                    · rw [if_pos c96] at hVy95
                      refine lv_iconst (v := 1) hx hb dX5_fault_388 (by decide) ?_
                      refine lv_goto (tgt := 393) hx hb dX5_fault_389 (by decide) ?_
                      exact Ky95 1 hVy95 _ _ hP hD hS
                    · rw [if_neg c96] at hVy95
                      refine lv_iload_n hx hb dX5_fault_356 rfl (lv_at hl 4 rfl) ?_
                      refine lv_iconst (v := 2) hx hb dX5_fault_357 (by decide) ?_
                      refine lv_icmp_eq (tgt := 388) hx hb dX5_fault_358 (by decide) (fun c97 => ?_) (fun c97 => ?_)
                      · rw [if_pos c97] at hVy95
                        refine lv_iconst (v := 1) hx hb dX5_fault_388 (by decide) ?_
                        refine lv_goto (tgt := 393) hx hb dX5_fault_389 (by decide) ?_
                        exact Ky95 1 hVy95 _ _ hP hD hS
                      · rw [if_neg c97] at hVy95
                        refine lv_iload_n hx hb dX5_fault_361 rfl (lv_at hl 4 rfl) ?_
                        refine lv_iconst (v := 4) hx hb dX5_fault_362 (by decide) ?_
                        refine lv_icmp_ne (tgt := 392) hx hb dX5_fault_363 (by decide) (fun c98 => ?_) (fun c98 => ?_)
                        · rw [if_neg c98] at hVy95
                          refine lv_iconst (v := 0) hx hb dX5_fault_392 (by decide) ?_
                          exact Ky95 0 hVy95 _ _ hP hD hS
                        · rw [if_pos c98] at hVy95
                          refine lv_aload_n hx hb dX5_fault_366 rfl (lv_at hl 3 rfl) ?_
                          refine va_get (D := D) (ci := 5) (v := .ref (ad 3)) (C := RX5) (T := TX5) (N := 27) hx hb ht inX5 hown hK hP 0 g_Md rfl 5 (by decide) (ht _ mw_578) (fun _ h9 => h9) rfl dX5_fault_367 ?_
                          refine lv_iload hx hb dX5_fault_370 (lv_at hl 1 rfl) ?_
                          refine va_iald (i := (10 * (gF τ9 0 3)) + x9_2) hx hb hK hP 3 0 g_m_letters rfl (c_in hv1 hv2) dX5_fault_372 ?_
                          refine lv_bipush (v := 97) hx hb dX5_fault_373 (by decide) ?_
                          refine lv_icmp_eq (tgt := 388) hx hb dX5_fault_375 (by decide) (fun c99 => ?_) (fun c99 => ?_)
                          · rw [if_pos c99] at hVy95
                            refine lv_iconst (v := 1) hx hb dX5_fault_388 (by decide) ?_
                            refine lv_goto (tgt := 393) hx hb dX5_fault_389 (by decide) ?_
                            exact Ky95 1 hVy95 _ _ hP hD hS
                          · rw [if_neg c99] at hVy95
                            refine lv_aload_n hx hb dX5_fault_378 rfl (lv_at hl 3 rfl) ?_
                            refine va_get (D := D) (ci := 5) (v := .ref (ad 5)) (C := RX5) (T := TX5) (N := 27) hx hb ht inX5 hown hK hP 0 g_Md rfl 7 (by decide) (ht _ mw_580) (fun _ h9 => h9) rfl dX5_fault_379 ?_
                            refine lv_iload hx hb dX5_fault_382 (lv_at hl 1 rfl) ?_
                            refine va_iald (i := (10 * (gF τ9 0 3)) + x9_2) hx hb hK hP 5 0 g_m_seconds rfl (c_in hv1 hv2) dX5_fault_384 ?_
                            refine lv_if_le (tgt := 392) hx hb dX5_fault_385 (by decide) (fun c100 => ?_) (fun c100 => ?_)
                            · rw [if_pos c100] at hVy95
                              refine lv_iconst (v := 0) hx hb dX5_fault_392 (by decide) ?_
                              exact Ky95 0 hVy95 _ _ hP hD hS
                            · rw [if_neg c100] at hVy95
                              refine lv_iconst (v := 1) hx hb dX5_fault_388 (by decide) ?_
                              refine lv_goto (tgt := 393) hx hb dX5_fault_389 (by decide) ?_
                              exact Ky95 1 hVy95 _ _ hP hD hS
                  · intro H locs hP hD hS
                    rw [← hy_y95, vb_eq] at hT
                    have b_y95 : y95 = 0 ∨ y95 = 1 := by rw [hy_y95]; (repeat' split) <;> first | exact Or.inl rfl | exact Or.inr rfl
                    refine lv_istore (lv' := [(8, .int y95), (7, .int 1), (6, .int ((10 * (gF τ9 0 3)) + x9_2)), (5, .int (gA τ9 1 i109)), (0, .ref (ad 0)), (1, .int x9_1), (2, .int x9_2), (3, .int x9_3), (4, .int (nI i109))]) hx hb dX5_fault_393 hl (by decide) rfl (fun ls hl => ?_)
                    refine lv_iload hx hb dX5_fault_395 (lv_at hl 0 rfl) ?_
                    refine jn (α := Int32) (E := (if y95 = 0 then 0 else (if (gA τ9 1 i109) = 44 then (if 9 ≤ x9_2 then 0 else 1) else 0))) (Kp := fun y => ∀ (H : Heap) (locs : List Loc), va_P D vwCl (wM ad kk τ9) H → va_D (aL 23 ad s.heap.size) (wM ad kk τ9) → va_S (aL 23 ad s.heap.size) s.heap H locs → W p l e (headSpec wsX5_fault { frames := 1, cells := 0, slots := 0, locals := 20 }).room s m ([.ref (ad 0)] : List Value).toArray below meth c H locs 0 0 Q (F0 m 418 ls (.int y :: []))) (fun Vy101 hVy101 Ky101 => ?_) (fun y101 hy_y101 => ?_)
                    · refine lv_if_eq (tgt := 417) hx hb dX5_fault_397 (by decide) (fun c102 => ?_) (fun c102 => ?_)
                      · rw [if_pos c102] at hVy101
                        refine lv_iconst (v := 0) hx hb dX5_fault_417 (by decide) ?_
                        exact Ky101 0 hVy101 _ _ hP hD hS
                      · rw [if_neg c102] at hVy101
                        refine lv_iload hx hb dX5_fault_400 (lv_at hl 3 rfl) ?_
                        refine lv_bipush (v := 44) hx hb dX5_fault_402 (by decide) ?_
                        refine lv_icmp_ne (tgt := 417) hx hb dX5_fault_404 (by decide) (fun c103 => ?_) (fun c103 => ?_)
                        · rw [if_neg c103] at hVy101
                          refine lv_iconst (v := 0) hx hb dX5_fault_417 (by decide) ?_
                          exact Ky101 0 hVy101 _ _ hP hD hS
                        · rw [if_pos c103] at hVy101
                          refine lv_iload_n hx hb dX5_fault_407 rfl (lv_at hl 6 rfl) ?_
                          refine lv_bipush (v := 9) hx hb dX5_fault_408 (by decide) ?_
                          refine lv_icmp_ge (tgt := 417) hx hb dX5_fault_410 (by decide) (fun c104 => ?_) (fun c104 => ?_)
                          · rw [if_pos c104] at hVy101
                            refine lv_iconst (v := 0) hx hb dX5_fault_417 (by decide) ?_
                            exact Ky101 0 hVy101 _ _ hP hD hS
                          · rw [if_neg c104] at hVy101
                            refine lv_iconst (v := 1) hx hb dX5_fault_413 (by decide) ?_
                            refine lv_goto (tgt := 418) hx hb dX5_fault_414 (by decide) ?_
                            exact Ky101 1 hVy101 _ _ hP hD hS
                    · intro H locs hP hD hS
                      rw [← hy_y101, vb_eq] at hT
                      have hgd := hy_y101
                      have b_y101 : y101 = 0 ∨ y101 = 1 := by rw [hy_y101]; (repeat' split) <;> first | exact Or.inl rfl | exact Or.inr rfl
                      refine lv_istore (lv' := [(7, .int y101), (8, .int y95), (6, .int ((10 * (gF τ9 0 3)) + x9_2)), (5, .int (gA τ9 1 i109)), (0, .ref (ad 0)), (1, .int x9_1), (2, .int x9_2), (3, .int x9_3), (4, .int (nI i109))]) hx hb dX5_fault_418 hl (by decide) rfl (fun ls hl => ?_)
                      refine lv_iinc (v := x9_2 + 1) (lv' := [(2, .int (x9_2 + 1)), (7, .int y101), (8, .int y95), (6, .int ((10 * (gF τ9 0 3)) + x9_2)), (5, .int (gA τ9 1 i109)), (0, .ref (ad 0)), (1, .int x9_1), (3, .int x9_3), (4, .int (nI i109))]) hx hb dX5_fault_420 hl (k := 6) rfl rfl (by decide) rfl (fun ls hl => ?_)
                      refine lv_iconst (v := 0) hx hb dX5_fault_423 (by decide) ?_
                      refine lv_istore_n (lv' := [(1, .int 0), (2, .int (x9_2 + 1)), (7, .int y101), (8, .int y95), (6, .int ((10 * (gF τ9 0 3)) + x9_2)), (5, .int (gA τ9 1 i109)), (0, .ref (ad 0)), (3, .int x9_3), (4, .int (nI i109))]) hx hb dX5_fault_424 rfl hl (by decide) rfl (fun ls hl => ?_)
                      refine lv_iload hx hb dX5_fault_425 (lv_at hl 2 rfl) ?_
                      refine lv_if_ne (tgt := 433) hx hb dX5_fault_427 (by decide) (fun c105 => ?_) (fun c105 => ?_)
                      · rw [if_neg c105] at hT
                        have hgo := c105
                        refine lv_iinc (v := nI (i109 + 1)) (lv' := [(4, .int (nI (i109 + 1))), (1, .int 0), (2, .int (x9_2 + 1)), (7, .int y101), (8, .int y95), (6, .int ((10 * (gF τ9 0 3)) + x9_2)), (5, .int (gA τ9 1 i109)), (0, .ref (ad 0)), (3, .int x9_3)]) hx hb dX5_fault_433 hl (k := 8) rfl (nI_1 i109) (by decide) rfl (fun ls hl => ?_)
                        refine lv_goto (tgt := 9) hx hb dX5_fault_436 (by decide) ?_
                        exact ih  (i109 + 1) 0 (x9_2 + 1) x9_3 τ9 _ _ ls h_lt (by omega) (by first | exact hv0 | exact (hv0.k4).k5 | exact ((hv0.k3).k4).k5) hv1 (by first | exact hv2 | exact n_in hgd hgo hv2) hP hD hS (lv_sub hl [7, 1, 2, 8, 0] rfl) hT
                      · rw [if_pos c105] at hT
                        refine lv_iload hx hb dX5_fault_430 (lv_at hl 8 rfl) ?_
                        rw [eQ]
                        exact W.iret (v := nI i109) hx hb hr (fun t ht hW => ⟨⟨nI i109, τ9, rfl, hT, by rw [ht]; exact hP, va_K.moved hW.alike hK, hD⟩, hS.F ht⟩) hS.2.2 dX5_fault_432
                · rw [if_pos c94] at hT
                  refine lv_aload_n hx hb dX5_fault_289 rfl (lv_at hl 3 rfl) ?_
                  refine va_get (D := D) (ci := 5) (v := .ref (ad 3)) (C := RX5) (T := TX5) (N := 27) hx hb ht inX5 hown hK hP 0 g_Md rfl 5 (by decide) (ht _ mw_578) (fun _ h9 => h9) rfl dX5_fault_290 ?_
                  refine lv_iload hx hb dX5_fault_293 (lv_at hl 1 rfl) ?_
                  refine va_iald (i := (10 * (gF τ9 0 3)) + x9_2) hx hb hK hP 3 0 g_m_letters rfl (c_in hv1 hv2) dX5_fault_295 ?_
                  refine lv_bipush (v := 117) hx hb dX5_fault_296 (by decide) ?_
                  refine lv_icmp_eq (tgt := 313) hx hb dX5_fault_298 (by decide) (fun c106 => ?_) (fun c106 => ?_)
                  · rw [if_pos c106] at hT
                    refine lv_iload hx hb dX5_fault_313 (lv_at hl 2 rfl) ?_
                    refine lv_aload_n hx hb dX5_fault_315 rfl (lv_at hl 3 rfl) ?_
                    refine va_get (D := D) (ci := 5) (v := .ref (ad 3)) (C := RX5) (T := TX5) (N := 27) hx hb ht inX5 hown hK hP 0 g_Md rfl 5 (by decide) (ht _ mw_578) (fun _ h9 => h9) rfl dX5_fault_316 ?_
                    refine lv_iload hx hb dX5_fault_319 (lv_at hl 1 rfl) ?_
                    refine va_iald (i := (10 * (gF τ9 0 3)) + x9_2) hx hb hK hP 3 0 g_m_letters rfl (c_in hv1 hv2) dX5_fault_321 ?_
                    refine lv_bipush (v := 117) hx hb dX5_fault_322 (by decide) ?_
                    refine jn (α := Int32) (E := (if (gA τ9 3 ((10 * (gF τ9 0 3)) + x9_2).toNatClampNeg) = 117 then 42 else 58)) (Kp := fun y => ∀ (H : Heap) (locs : List Loc), va_P D vwCl (wM ad kk τ9) H → va_D (aL 23 ad s.heap.size) (wM ad kk τ9) → va_S (aL 23 ad s.heap.size) s.heap H locs → W p l e (headSpec wsX5_fault { frames := 1, cells := 0, slots := 0, locals := 20 }).room s m ([.ref (ad 0)] : List Value).toArray below meth c H locs 0 0 Q (F0 m 334 ls (.int y :: .int (gA τ9 1 i109) :: []))) (fun Vy107 hVy107 Ky107 => ?_) (fun y107 hy_y107 => ?_)
                    · refine lv_icmp_ne (tgt := 332) hx hb dX5_fault_324 (by decide) (fun c108 => ?_) (fun c108 => ?_)
                      · rw [if_neg c108] at hVy107
                        refine lv_bipush (v := 58) hx hb dX5_fault_332 (by decide) ?_
                        exact Ky107 58 hVy107 _ _ hP hD hS
                      · rw [if_pos c108] at hVy107
                        refine lv_bipush (v := 42) hx hb dX5_fault_327 (by decide) ?_
                        refine lv_goto (tgt := 334) hx hb dX5_fault_329 (by decide) ?_
                        exact Ky107 42 hVy107 _ _ hP hD hS
                    · intro H locs hP hD hS
                      rw [← hy_y107, vb_eq] at hT
                      refine jn (α := Int32) (E := (if (gA τ9 1 i109) = y107 then 1 else 0)) (Kp := fun y => ∀ (H : Heap) (locs : List Loc), va_P D vwCl (wM ad kk τ9) H → va_D (aL 23 ad s.heap.size) (wM ad kk τ9) → va_S (aL 23 ad s.heap.size) s.heap H locs → W p l e (headSpec wsX5_fault { frames := 1, cells := 0, slots := 0, locals := 20 }).room s m ([.ref (ad 0)] : List Value).toArray below meth c H locs 0 0 Q (F0 m 342 ls (.int y :: []))) (fun Vy109 hVy109 Ky109 => ?_) (fun y109 hy_y109 => ?_)
                      · refine lv_icmp_ne (tgt := 341) hx hb dX5_fault_334 (by decide) (fun c110 => ?_) (fun c110 => ?_)
                        · rw [if_neg c110] at hVy109
                          refine lv_iconst (v := 0) hx hb dX5_fault_341 (by decide) ?_
                          exact Ky109 0 hVy109 _ _ hP hD hS
                        · rw [if_pos c110] at hVy109
                          refine lv_iconst (v := 1) hx hb dX5_fault_337 (by decide) ?_
                          refine lv_goto (tgt := 342) hx hb dX5_fault_338 (by decide) ?_
                          exact Ky109 1 hVy109 _ _ hP hD hS
                      · intro H locs hP hD hS
                        rw [← hy_y109, vb_eq] at hT
                        have b_y109 : y109 = 0 ∨ y109 = 1 := by rw [hy_y109]; (repeat' split) <;> first | exact Or.inl rfl | exact Or.inr rfl
                        refine lv_istore (lv' := [(7, .int y109), (6, .int ((10 * (gF τ9 0 3)) + x9_2)), (5, .int (gA τ9 1 i109)), (0, .ref (ad 0)), (1, .int x9_1), (2, .int x9_2), (3, .int x9_3), (4, .int (nI i109))]) hx hb dX5_fault_342 hl (by decide) rfl (fun ls hl => ?_)
                        refine lv_iconst (v := 0) hx hb dX5_fault_344 (by decide) ?_
                        refine lv_istore_n (lv' := [(3, .int 0), (7, .int y109), (6, .int ((10 * (gF τ9 0 3)) + x9_2)), (5, .int (gA τ9 1 i109)), (0, .ref (ad 0)), (1, .int x9_1), (2, .int x9_2), (4, .int (nI i109))]) hx hb dX5_fault_345 rfl hl (by decide) rfl (fun ls hl => ?_)
                        refine lv_iconst (v := 3) hx hb dX5_fault_346 (by decide) ?_
                        refine lv_istore_n (lv' := [(1, .int 3), (3, .int 0), (7, .int y109), (6, .int ((10 * (gF τ9 0 3)) + x9_2)), (5, .int (gA τ9 1 i109)), (0, .ref (ad 0)), (2, .int x9_2), (4, .int (nI i109))]) hx hb dX5_fault_347 rfl hl (by decide) rfl (fun ls hl => ?_)
                        refine lv_goto (tgt := 425) hx hb dX5_fault_348 (by decide) ?_
                        refine lv_iload hx hb dX5_fault_425 (lv_at hl 2 rfl) ?_
                        refine lv_if_ne (tgt := 433) hx hb dX5_fault_427 (by decide) (fun c111 => ?_) (fun c111 => ?_)
                        · rw [if_neg c111] at hT
                          have hgo := c111
                          refine lv_iinc (v := nI (i109 + 1)) (lv' := [(4, .int (nI (i109 + 1))), (1, .int 3), (3, .int 0), (7, .int y109), (6, .int ((10 * (gF τ9 0 3)) + x9_2)), (5, .int (gA τ9 1 i109)), (0, .ref (ad 0)), (2, .int x9_2)]) hx hb dX5_fault_433 hl (k := 7) rfl (nI_1 i109) (by decide) rfl (fun ls hl => ?_)
                          refine lv_goto (tgt := 9) hx hb dX5_fault_436 (by decide) ?_
                          exact ih  (i109 + 1) 3 x9_2 0 τ9 _ _ ls h_lt (by omega) (by first | exact hv0 | exact (hv0.k4).k5 | exact ((hv0.k3).k4).k5) hv1 (by first | exact hv2 | exact n_in hgd hgo hv2) hP hD hS (lv_sub hl [6, 1, 7, 2, 0] rfl) hT
                        · rw [if_pos c111] at hT
                          refine lv_iload hx hb dX5_fault_430 (lv_at hl 7 rfl) ?_
                          rw [eQ]
                          exact W.iret (v := nI i109) hx hb hr (fun t ht hW => ⟨⟨nI i109, τ9, rfl, hT, by rw [ht]; exact hP, va_K.moved hW.alike hK, hD⟩, hS.F ht⟩) hS.2.2 dX5_fault_432
                  · rw [if_neg c106] at hT
                    refine lv_aload_n hx hb dX5_fault_301 rfl (lv_at hl 3 rfl) ?_
                    refine va_get (D := D) (ci := 5) (v := .ref (ad 3)) (C := RX5) (T := TX5) (N := 27) hx hb ht inX5 hown hK hP 0 g_Md rfl 5 (by decide) (ht _ mw_578) (fun _ h9 => h9) rfl dX5_fault_302 ?_
                    refine lv_iload hx hb dX5_fault_305 (lv_at hl 1 rfl) ?_
                    refine va_iald (i := (10 * (gF τ9 0 3)) + x9_2) hx hb hK hP 3 0 g_m_letters rfl (c_in hv1 hv2) dX5_fault_307 ?_
                    refine lv_bipush (v := 97) hx hb dX5_fault_308 (by decide) ?_
                    refine lv_icmp_ne (tgt := 351) hx hb dX5_fault_310 (by decide) (fun c112 => ?_) (fun c112 => ?_)
                    · rw [if_neg c112] at hT
                      refine lv_iload_n hx hb dX5_fault_351 rfl (lv_at hl 4 rfl) ?_
                      refine lv_iconst (v := 5) hx hb dX5_fault_352 (by decide) ?_
                      refine jn (α := Int32) (E := (if x9_1 = 5 then 1 else (if x9_1 = 2 then 1 else (if x9_1 = 4 then (if (gA τ9 3 ((10 * (gF τ9 0 3)) + x9_2).toNatClampNeg) = 97 then 1 else (if (gA τ9 5 ((10 * (gF τ9 0 3)) + x9_2).toNatClampNeg) ≤ 0 then 0 else 1)) else 0)))) (Kp := fun y => ∀ (H : Heap) (locs : List Loc), va_P D vwCl (wM ad kk τ9) H → va_D (aL 23 ad s.heap.size) (wM ad kk τ9) → va_S (aL 23 ad s.heap.size) s.heap H locs → W p l e (headSpec wsX5_fault { frames := 1, cells := 0, slots := 0, locals := 20 }).room s m ([.ref (ad 0)] : List Value).toArray below meth c H locs 0 0 Q (F0 m 393 ls (.int y :: []))) (fun Vy113 hVy113 Ky113 => ?_) (fun y113 hy_y113 => ?_)
                      · refine lv_icmp_eq (tgt := 388) hx hb dX5_fault_353 (by decide) (fun c114 => ?_) (fun c114 => ?_)
                        · rw [if_pos c114] at hVy113
                          refine lv_iconst (v := 1) hx hb dX5_fault_388 (by decide) ?_
                          refine lv_goto (tgt := 393) hx hb dX5_fault_389 (by decide) ?_
                          exact Ky113 1 hVy113 _ _ hP hD hS
                        · rw [if_neg c114] at hVy113
                          refine lv_iload_n hx hb dX5_fault_356 rfl (lv_at hl 4 rfl) ?_
                          refine lv_iconst (v := 2) hx hb dX5_fault_357 (by decide) ?_
                          refine lv_icmp_eq (tgt := 388) hx hb dX5_fault_358 (by decide) (fun c115 => ?_) (fun c115 => ?_)
                          · rw [if_pos c115] at hVy113
                            refine lv_iconst (v := 1) hx hb dX5_fault_388 (by decide) ?_
                            refine lv_goto (tgt := 393) hx hb dX5_fault_389 (by decide) ?_
                            exact Ky113 1 hVy113 _ _ hP hD hS
                          · rw [if_neg c115] at hVy113
                            refine lv_iload_n hx hb dX5_fault_361 rfl (lv_at hl 4 rfl) ?_
                            refine lv_iconst (v := 4) hx hb dX5_fault_362 (by decide) ?_
                            refine lv_icmp_ne (tgt := 392) hx hb dX5_fault_363 (by decide) (fun c116 => ?_) (fun c116 => ?_)
                            · rw [if_neg c116] at hVy113
                              refine lv_iconst (v := 0) hx hb dX5_fault_392 (by decide) ?_
                              exact Ky113 0 hVy113 _ _ hP hD hS
                            · rw [if_pos c116] at hVy113
                              refine lv_aload_n hx hb dX5_fault_366 rfl (lv_at hl 3 rfl) ?_
                              refine va_get (D := D) (ci := 5) (v := .ref (ad 3)) (C := RX5) (T := TX5) (N := 27) hx hb ht inX5 hown hK hP 0 g_Md rfl 5 (by decide) (ht _ mw_578) (fun _ h9 => h9) rfl dX5_fault_367 ?_
                              refine lv_iload hx hb dX5_fault_370 (lv_at hl 1 rfl) ?_
                              refine va_iald (i := (10 * (gF τ9 0 3)) + x9_2) hx hb hK hP 3 0 g_m_letters rfl (c_in hv1 hv2) dX5_fault_372 ?_
                              refine lv_bipush (v := 97) hx hb dX5_fault_373 (by decide) ?_
                              refine lv_icmp_eq (tgt := 388) hx hb dX5_fault_375 (by decide) (fun c117 => ?_) (fun c117 => ?_)
                              · rw [if_pos c117] at hVy113
                                refine lv_iconst (v := 1) hx hb dX5_fault_388 (by decide) ?_
                                refine lv_goto (tgt := 393) hx hb dX5_fault_389 (by decide) ?_
                                exact Ky113 1 hVy113 _ _ hP hD hS
                              · rw [if_neg c117] at hVy113
                                refine lv_aload_n hx hb dX5_fault_378 rfl (lv_at hl 3 rfl) ?_
                                refine va_get (D := D) (ci := 5) (v := .ref (ad 5)) (C := RX5) (T := TX5) (N := 27) hx hb ht inX5 hown hK hP 0 g_Md rfl 7 (by decide) (ht _ mw_580) (fun _ h9 => h9) rfl dX5_fault_379 ?_
                                refine lv_iload hx hb dX5_fault_382 (lv_at hl 1 rfl) ?_
                                refine va_iald (i := (10 * (gF τ9 0 3)) + x9_2) hx hb hK hP 5 0 g_m_seconds rfl (c_in hv1 hv2) dX5_fault_384 ?_
                                refine lv_if_le (tgt := 392) hx hb dX5_fault_385 (by decide) (fun c118 => ?_) (fun c118 => ?_)
                                · rw [if_pos c118] at hVy113
                                  refine lv_iconst (v := 0) hx hb dX5_fault_392 (by decide) ?_
                                  exact Ky113 0 hVy113 _ _ hP hD hS
                                · rw [if_neg c118] at hVy113
                                  refine lv_iconst (v := 1) hx hb dX5_fault_388 (by decide) ?_
                                  refine lv_goto (tgt := 393) hx hb dX5_fault_389 (by decide) ?_
                                  exact Ky113 1 hVy113 _ _ hP hD hS
                      · intro H locs hP hD hS
                        rw [← hy_y113, vb_eq] at hT
                        have b_y113 : y113 = 0 ∨ y113 = 1 := by rw [hy_y113]; (repeat' split) <;> first | exact Or.inl rfl | exact Or.inr rfl
                        refine lv_istore (lv' := [(8, .int y113), (7, .int 1), (6, .int ((10 * (gF τ9 0 3)) + x9_2)), (5, .int (gA τ9 1 i109)), (0, .ref (ad 0)), (1, .int x9_1), (2, .int x9_2), (3, .int x9_3), (4, .int (nI i109))]) hx hb dX5_fault_393 hl (by decide) rfl (fun ls hl => ?_)
                        refine lv_iload hx hb dX5_fault_395 (lv_at hl 0 rfl) ?_
                        refine jn (α := Int32) (E := (if y113 = 0 then 0 else (if (gA τ9 1 i109) = 44 then (if 9 ≤ x9_2 then 0 else 1) else 0))) (Kp := fun y => ∀ (H : Heap) (locs : List Loc), va_P D vwCl (wM ad kk τ9) H → va_D (aL 23 ad s.heap.size) (wM ad kk τ9) → va_S (aL 23 ad s.heap.size) s.heap H locs → W p l e (headSpec wsX5_fault { frames := 1, cells := 0, slots := 0, locals := 20 }).room s m ([.ref (ad 0)] : List Value).toArray below meth c H locs 0 0 Q (F0 m 418 ls (.int y :: []))) (fun Vy119 hVy119 Ky119 => ?_) (fun y119 hy_y119 => ?_)
                        · refine lv_if_eq (tgt := 417) hx hb dX5_fault_397 (by decide) (fun c120 => ?_) (fun c120 => ?_)
                          · rw [if_pos c120] at hVy119
                            refine lv_iconst (v := 0) hx hb dX5_fault_417 (by decide) ?_
                            exact Ky119 0 hVy119 _ _ hP hD hS
                          · rw [if_neg c120] at hVy119
                            refine lv_iload hx hb dX5_fault_400 (lv_at hl 3 rfl) ?_
                            refine lv_bipush (v := 44) hx hb dX5_fault_402 (by decide) ?_
                            refine lv_icmp_ne (tgt := 417) hx hb dX5_fault_404 (by decide) (fun c121 => ?_) (fun c121 => ?_)
                            · rw [if_neg c121] at hVy119
                              refine lv_iconst (v := 0) hx hb dX5_fault_417 (by decide) ?_
                              exact Ky119 0 hVy119 _ _ hP hD hS
                            · rw [if_pos c121] at hVy119
                              refine lv_iload_n hx hb dX5_fault_407 rfl (lv_at hl 6 rfl) ?_
                              refine lv_bipush (v := 9) hx hb dX5_fault_408 (by decide) ?_
                              refine lv_icmp_ge (tgt := 417) hx hb dX5_fault_410 (by decide) (fun c122 => ?_) (fun c122 => ?_)
                              · rw [if_pos c122] at hVy119
                                refine lv_iconst (v := 0) hx hb dX5_fault_417 (by decide) ?_
                                exact Ky119 0 hVy119 _ _ hP hD hS
                              · rw [if_neg c122] at hVy119
                                refine lv_iconst (v := 1) hx hb dX5_fault_413 (by decide) ?_
                                refine lv_goto (tgt := 418) hx hb dX5_fault_414 (by decide) ?_
                                exact Ky119 1 hVy119 _ _ hP hD hS
                        · intro H locs hP hD hS
                          rw [← hy_y119, vb_eq] at hT
                          have hgd := hy_y119
                          have b_y119 : y119 = 0 ∨ y119 = 1 := by rw [hy_y119]; (repeat' split) <;> first | exact Or.inl rfl | exact Or.inr rfl
                          refine lv_istore (lv' := [(7, .int y119), (8, .int y113), (6, .int ((10 * (gF τ9 0 3)) + x9_2)), (5, .int (gA τ9 1 i109)), (0, .ref (ad 0)), (1, .int x9_1), (2, .int x9_2), (3, .int x9_3), (4, .int (nI i109))]) hx hb dX5_fault_418 hl (by decide) rfl (fun ls hl => ?_)
                          refine lv_iinc (v := x9_2 + 1) (lv' := [(2, .int (x9_2 + 1)), (7, .int y119), (8, .int y113), (6, .int ((10 * (gF τ9 0 3)) + x9_2)), (5, .int (gA τ9 1 i109)), (0, .ref (ad 0)), (1, .int x9_1), (3, .int x9_3), (4, .int (nI i109))]) hx hb dX5_fault_420 hl (k := 6) rfl rfl (by decide) rfl (fun ls hl => ?_)
                          refine lv_iconst (v := 0) hx hb dX5_fault_423 (by decide) ?_
                          refine lv_istore_n (lv' := [(1, .int 0), (2, .int (x9_2 + 1)), (7, .int y119), (8, .int y113), (6, .int ((10 * (gF τ9 0 3)) + x9_2)), (5, .int (gA τ9 1 i109)), (0, .ref (ad 0)), (3, .int x9_3), (4, .int (nI i109))]) hx hb dX5_fault_424 rfl hl (by decide) rfl (fun ls hl => ?_)
                          refine lv_iload hx hb dX5_fault_425 (lv_at hl 2 rfl) ?_
                          refine lv_if_ne (tgt := 433) hx hb dX5_fault_427 (by decide) (fun c123 => ?_) (fun c123 => ?_)
                          · rw [if_neg c123] at hT
                            have hgo := c123
                            refine lv_iinc (v := nI (i109 + 1)) (lv' := [(4, .int (nI (i109 + 1))), (1, .int 0), (2, .int (x9_2 + 1)), (7, .int y119), (8, .int y113), (6, .int ((10 * (gF τ9 0 3)) + x9_2)), (5, .int (gA τ9 1 i109)), (0, .ref (ad 0)), (3, .int x9_3)]) hx hb dX5_fault_433 hl (k := 8) rfl (nI_1 i109) (by decide) rfl (fun ls hl => ?_)
                            refine lv_goto (tgt := 9) hx hb dX5_fault_436 (by decide) ?_
                            exact ih  (i109 + 1) 0 (x9_2 + 1) x9_3 τ9 _ _ ls h_lt (by omega) (by first | exact hv0 | exact (hv0.k4).k5 | exact ((hv0.k3).k4).k5) hv1 (by first | exact hv2 | exact n_in hgd hgo hv2) hP hD hS (lv_sub hl [7, 1, 2, 8, 0] rfl) hT
                          · rw [if_pos c123] at hT
                            refine lv_iload hx hb dX5_fault_430 (lv_at hl 8 rfl) ?_
                            rw [eQ]
                            exact W.iret (v := nI i109) hx hb hr (fun t ht hW => ⟨⟨nI i109, τ9, rfl, hT, by rw [ht]; exact hP, va_K.moved hW.alike hK, hD⟩, hS.F ht⟩) hS.2.2 dX5_fault_432
                    · rw [if_pos c112] at hT
                      refine lv_iload hx hb dX5_fault_313 (lv_at hl 2 rfl) ?_
                      refine lv_aload_n hx hb dX5_fault_315 rfl (lv_at hl 3 rfl) ?_
                      refine va_get (D := D) (ci := 5) (v := .ref (ad 3)) (C := RX5) (T := TX5) (N := 27) hx hb ht inX5 hown hK hP 0 g_Md rfl 5 (by decide) (ht _ mw_578) (fun _ h9 => h9) rfl dX5_fault_316 ?_
                      refine lv_iload hx hb dX5_fault_319 (lv_at hl 1 rfl) ?_
                      refine va_iald (i := (10 * (gF τ9 0 3)) + x9_2) hx hb hK hP 3 0 g_m_letters rfl (c_in hv1 hv2) dX5_fault_321 ?_
                      refine lv_bipush (v := 117) hx hb dX5_fault_322 (by decide) ?_
                      refine jn (α := Int32) (E := (if (gA τ9 3 ((10 * (gF τ9 0 3)) + x9_2).toNatClampNeg) = 117 then 42 else 58)) (Kp := fun y => ∀ (H : Heap) (locs : List Loc), va_P D vwCl (wM ad kk τ9) H → va_D (aL 23 ad s.heap.size) (wM ad kk τ9) → va_S (aL 23 ad s.heap.size) s.heap H locs → W p l e (headSpec wsX5_fault { frames := 1, cells := 0, slots := 0, locals := 20 }).room s m ([.ref (ad 0)] : List Value).toArray below meth c H locs 0 0 Q (F0 m 334 ls (.int y :: .int (gA τ9 1 i109) :: []))) (fun Vy124 hVy124 Ky124 => ?_) (fun y124 hy_y124 => ?_)
                      · refine lv_icmp_ne (tgt := 332) hx hb dX5_fault_324 (by decide) (fun c125 => ?_) (fun c125 => ?_)
                        · rw [if_neg c125] at hVy124
                          refine lv_bipush (v := 58) hx hb dX5_fault_332 (by decide) ?_
                          exact Ky124 58 hVy124 _ _ hP hD hS
                        · rw [if_pos c125] at hVy124
                          refine lv_bipush (v := 42) hx hb dX5_fault_327 (by decide) ?_
                          refine lv_goto (tgt := 334) hx hb dX5_fault_329 (by decide) ?_
                          exact Ky124 42 hVy124 _ _ hP hD hS
                      · intro H locs hP hD hS
                        rw [← hy_y124, vb_eq] at hT
                        refine jn (α := Int32) (E := (if (gA τ9 1 i109) = y124 then 1 else 0)) (Kp := fun y => ∀ (H : Heap) (locs : List Loc), va_P D vwCl (wM ad kk τ9) H → va_D (aL 23 ad s.heap.size) (wM ad kk τ9) → va_S (aL 23 ad s.heap.size) s.heap H locs → W p l e (headSpec wsX5_fault { frames := 1, cells := 0, slots := 0, locals := 20 }).room s m ([.ref (ad 0)] : List Value).toArray below meth c H locs 0 0 Q (F0 m 342 ls (.int y :: []))) (fun Vy126 hVy126 Ky126 => ?_) (fun y126 hy_y126 => ?_)
                        · refine lv_icmp_ne (tgt := 341) hx hb dX5_fault_334 (by decide) (fun c127 => ?_) (fun c127 => ?_)
                          · rw [if_neg c127] at hVy126
                            refine lv_iconst (v := 0) hx hb dX5_fault_341 (by decide) ?_
                            exact Ky126 0 hVy126 _ _ hP hD hS
                          · rw [if_pos c127] at hVy126
                            refine lv_iconst (v := 1) hx hb dX5_fault_337 (by decide) ?_
                            refine lv_goto (tgt := 342) hx hb dX5_fault_338 (by decide) ?_
                            exact Ky126 1 hVy126 _ _ hP hD hS
                        · intro H locs hP hD hS
                          rw [← hy_y126, vb_eq] at hT
                          have b_y126 : y126 = 0 ∨ y126 = 1 := by rw [hy_y126]; (repeat' split) <;> first | exact Or.inl rfl | exact Or.inr rfl
                          refine lv_istore (lv' := [(7, .int y126), (6, .int ((10 * (gF τ9 0 3)) + x9_2)), (5, .int (gA τ9 1 i109)), (0, .ref (ad 0)), (1, .int x9_1), (2, .int x9_2), (3, .int x9_3), (4, .int (nI i109))]) hx hb dX5_fault_342 hl (by decide) rfl (fun ls hl => ?_)
                          refine lv_iconst (v := 0) hx hb dX5_fault_344 (by decide) ?_
                          refine lv_istore_n (lv' := [(3, .int 0), (7, .int y126), (6, .int ((10 * (gF τ9 0 3)) + x9_2)), (5, .int (gA τ9 1 i109)), (0, .ref (ad 0)), (1, .int x9_1), (2, .int x9_2), (4, .int (nI i109))]) hx hb dX5_fault_345 rfl hl (by decide) rfl (fun ls hl => ?_)
                          refine lv_iconst (v := 3) hx hb dX5_fault_346 (by decide) ?_
                          refine lv_istore_n (lv' := [(1, .int 3), (3, .int 0), (7, .int y126), (6, .int ((10 * (gF τ9 0 3)) + x9_2)), (5, .int (gA τ9 1 i109)), (0, .ref (ad 0)), (2, .int x9_2), (4, .int (nI i109))]) hx hb dX5_fault_347 rfl hl (by decide) rfl (fun ls hl => ?_)
                          refine lv_goto (tgt := 425) hx hb dX5_fault_348 (by decide) ?_
                          refine lv_iload hx hb dX5_fault_425 (lv_at hl 2 rfl) ?_
                          refine lv_if_ne (tgt := 433) hx hb dX5_fault_427 (by decide) (fun c128 => ?_) (fun c128 => ?_)
                          · rw [if_neg c128] at hT
                            have hgo := c128
                            refine lv_iinc (v := nI (i109 + 1)) (lv' := [(4, .int (nI (i109 + 1))), (1, .int 3), (3, .int 0), (7, .int y126), (6, .int ((10 * (gF τ9 0 3)) + x9_2)), (5, .int (gA τ9 1 i109)), (0, .ref (ad 0)), (2, .int x9_2)]) hx hb dX5_fault_433 hl (k := 7) rfl (nI_1 i109) (by decide) rfl (fun ls hl => ?_)
                            refine lv_goto (tgt := 9) hx hb dX5_fault_436 (by decide) ?_
                            exact ih  (i109 + 1) 3 x9_2 0 τ9 _ _ ls h_lt (by omega) (by first | exact hv0 | exact (hv0.k4).k5 | exact ((hv0.k3).k4).k5) hv1 (by first | exact hv2 | exact n_in hgd hgo hv2) hP hD hS (lv_sub hl [6, 1, 7, 2, 0] rfl) hT
                          · rw [if_pos c128] at hT
                            refine lv_iload hx hb dX5_fault_430 (lv_at hl 7 rfl) ?_
                            rw [eQ]
                            exact W.iret (v := nI i109) hx hb hr (fun t ht hW => ⟨⟨nI i109, τ9, rfl, hT, by rw [ht]; exact hP, va_K.moved hW.alike hK, hD⟩, hS.F ht⟩) hS.2.2 dX5_fault_432
              · rw [if_neg c93] at hT
                refine lv_iinc (v := x9_3 + 1) (lv' := [(3, .int (x9_3 + 1)), (7, .int 1), (6, .int ((10 * (gF τ9 0 3)) + x9_2)), (5, .int (gA τ9 1 i109)), (0, .ref (ad 0)), (1, .int x9_1), (2, .int x9_2), (4, .int (nI i109))]) hx hb dX5_fault_121 hl (k := 6) rfl rfl (by decide) rfl (fun ls hl => ?_)
                refine lv_bipush (v := 10) hx hb dX5_fault_124 (by decide) ?_
                refine lv_iload_n hx hb dX5_fault_126 rfl (lv_at hl 5 rfl) ?_
                refine lv_iconst (v := 3) hx hb dX5_fault_127 (by decide) ?_
                refine jn (α := Int32) (E := (if 3 ≤ x9_1 then (gA τ9 5 ((10 * (gF τ9 0 3)) + x9_2).toNatClampNeg) else (gA τ9 4 ((10 * (gF τ9 0 3)) + x9_2).toNatClampNeg))) (Kp := fun y => ∀ (H : Heap) (locs : List Loc), va_P D vwCl (wM ad kk τ9) H → va_D (aL 23 ad s.heap.size) (wM ad kk τ9) → va_S (aL 23 ad s.heap.size) s.heap H locs → W p l e (headSpec wsX5_fault { frames := 1, cells := 0, slots := 0, locals := 20 }).room s m ([.ref (ad 0)] : List Value).toArray below meth c H locs 0 0 Q (F0 m 148 ls (.int y :: .int 10 :: []))) (fun Vy129 hVy129 Ky129 => ?_) (fun y129 hy_y129 => ?_)
                · refine lv_icmp_ge (tgt := 141) hx hb dX5_fault_128 (by decide) (fun c130 => ?_) (fun c130 => ?_)
                  · rw [if_pos c130] at hVy129
                    refine lv_aload_n hx hb dX5_fault_141 rfl (lv_at hl 4 rfl) ?_
                    refine va_get (D := D) (ci := 5) (v := .ref (ad 5)) (C := RX5) (T := TX5) (N := 27) hx hb ht inX5 hown hK hP 0 g_Md rfl 7 (by decide) (ht _ mw_580) (fun _ h9 => h9) rfl dX5_fault_142 ?_
                    refine lv_iload hx hb dX5_fault_145 (lv_at hl 2 rfl) ?_
                    refine va_iald (i := (10 * (gF τ9 0 3)) + x9_2) hx hb hK hP 5 0 g_m_seconds rfl (c_in hv1 hv2) dX5_fault_147 ?_
                    exact Ky129 (gA τ9 5 ((10 * (gF τ9 0 3)) + x9_2).toNatClampNeg) hVy129 _ _ hP hD hS
                  · rw [if_neg c130] at hVy129
                    refine lv_aload_n hx hb dX5_fault_131 rfl (lv_at hl 4 rfl) ?_
                    refine va_get (D := D) (ci := 5) (v := .ref (ad 4)) (C := RX5) (T := TX5) (N := 27) hx hb ht inX5 hown hK hP 0 g_Md rfl 6 (by decide) (ht _ mw_579) (fun _ h9 => h9) rfl dX5_fault_132 ?_
                    refine lv_iload hx hb dX5_fault_135 (lv_at hl 2 rfl) ?_
                    refine va_iald (i := (10 * (gF τ9 0 3)) + x9_2) hx hb hK hP 4 0 g_m_firsts rfl (c_in hv1 hv2) dX5_fault_137 ?_
                    refine lv_goto (tgt := 148) hx hb dX5_fault_138 (by decide) ?_
                    exact Ky129 (gA τ9 4 ((10 * (gF τ9 0 3)) + x9_2).toNatClampNeg) hVy129 _ _ hP hD hS
                · intro H locs hP hD hS
                  rw [← hy_y129, vb_eq] at hT
                  refine lv_imul hx hb dX5_fault_148 ?_
                  refine lv_iload hx hb dX5_fault_149 (lv_at hl 3 rfl) ?_
                  refine lv_iadd hx hb dX5_fault_151 ?_
                  refine lv_bipush (v := 48) hx hb dX5_fault_152 (by decide) ?_
                  refine lv_isub hx hb dX5_fault_154 ?_
                  refine lv_istore (lv' := [(8, .int (((10 * y129) + (gA τ9 1 i109)) - 48)), (3, .int (x9_3 + 1)), (7, .int 1), (6, .int ((10 * (gF τ9 0 3)) + x9_2)), (5, .int (gA τ9 1 i109)), (0, .ref (ad 0)), (1, .int x9_1), (2, .int x9_2), (4, .int (nI i109))]) hx hb dX5_fault_155 hl (by decide) rfl (fun ls hl => ?_)
                  refine lv_aload_n hx hb dX5_fault_157 rfl (lv_at hl 5 rfl) ?_
                  refine va_get (D := D) (ci := 5) (v := .ref (ad 3)) (C := RX5) (T := TX5) (N := 27) hx hb ht inX5 hown hK hP 0 g_Md rfl 5 (by decide) (ht _ mw_578) (fun _ h9 => h9) rfl dX5_fault_158 ?_
                  refine lv_iload hx hb dX5_fault_161 (lv_at hl 3 rfl) ?_
                  refine va_iald (i := (10 * (gF τ9 0 3)) + x9_2) hx hb hK hP 3 0 g_m_letters rfl (c_in hv1 hv2) dX5_fault_163 ?_
                  refine lv_bipush (v := 117) hx hb dX5_fault_164 (by decide) ?_
                  refine jn (α := Int32) (E := (if (gA τ9 3 ((10 * (gF τ9 0 3)) + x9_2).toNatClampNeg) = 117 then (if x9_1 ≤ 2 then 0 else 1) else 0)) (Kp := fun y => ∀ (H : Heap) (locs : List Loc), va_P D vwCl (wM ad kk τ9) H → va_D (aL 23 ad s.heap.size) (wM ad kk τ9) → va_S (aL 23 ad s.heap.size) s.heap H locs → W p l e (headSpec wsX5_fault { frames := 1, cells := 0, slots := 0, locals := 20 }).room s m ([.ref (ad 0)] : List Value).toArray below meth c H locs 0 0 Q (F0 m 179 ls (.int y :: []))) (fun Vy131 hVy131 Ky131 => ?_) (fun y131 hy_y131 => ?_)
                  · refine lv_icmp_ne (tgt := 178) hx hb dX5_fault_166 (by decide) (fun c132 => ?_) (fun c132 => ?_)
                    · rw [if_neg c132] at hVy131
                      refine lv_iconst (v := 0) hx hb dX5_fault_178 (by decide) ?_
                      exact Ky131 0 hVy131 _ _ hP hD hS
                    · rw [if_pos c132] at hVy131
                      refine lv_iload_n hx hb dX5_fault_169 rfl (lv_at hl 6 rfl) ?_
                      refine lv_iconst (v := 2) hx hb dX5_fault_170 (by decide) ?_
                      refine lv_icmp_le (tgt := 178) hx hb dX5_fault_171 (by decide) (fun c133 => ?_) (fun c133 => ?_)
                      · rw [if_pos c133] at hVy131
                        refine lv_iconst (v := 0) hx hb dX5_fault_178 (by decide) ?_
                        exact Ky131 0 hVy131 _ _ hP hD hS
                      · rw [if_neg c133] at hVy131
                        refine lv_iconst (v := 1) hx hb dX5_fault_174 (by decide) ?_
                        refine lv_goto (tgt := 179) hx hb dX5_fault_175 (by decide) ?_
                        exact Ky131 1 hVy131 _ _ hP hD hS
                  · intro H locs hP hD hS
                    rw [← hy_y131, vb_eq] at hT
                    have b_y131 : y131 = 0 ∨ y131 = 1 := by rw [hy_y131]; (repeat' split) <;> first | exact Or.inl rfl | exact Or.inr rfl
                    refine lv_istore (lv' := [(9, .int y131), (8, .int (((10 * y129) + (gA τ9 1 i109)) - 48)), (3, .int (x9_3 + 1)), (7, .int 1), (6, .int ((10 * (gF τ9 0 3)) + x9_2)), (5, .int (gA τ9 1 i109)), (0, .ref (ad 0)), (1, .int x9_1), (2, .int x9_2), (4, .int (nI i109))]) hx hb dX5_fault_179 hl (by decide) rfl (fun ls hl => ?_)
                    refine lv_iload_n hx hb dX5_fault_181 rfl (lv_at hl 2 rfl) ?_
                    refine lv_iconst (v := 5) hx hb dX5_fault_182 (by decide) ?_
                    refine jn (α := Int32) (E := (if 5 ≤ (x9_3 + 1) then 0 else (if 2 < x9_1 then (if y131 = 0 then 1 else (if 0 < (((10 * y129) + (gA τ9 1 i109)) - 48) then 1 else (if 4 ≤ (x9_3 + 1) then 0 else 1))) else (if (M_m_greatest (gA τ9 3 ((10 * (gF τ9 0 3)) + x9_2).toNatClampNeg)) < (((10 * y129) + (gA τ9 1 i109)) - 48) then 0 else (if y131 = 0 then 1 else (if 0 < (((10 * y129) + (gA τ9 1 i109)) - 48) then 1 else (if 4 ≤ (x9_3 + 1) then 0 else 1))))))) (Kp := fun y => ∀ (H : Heap) (locs : List Loc), va_P D vwCl (wM ad kk τ9) H → va_D (aL 23 ad s.heap.size) (wM ad kk τ9) → va_S (aL 23 ad s.heap.size) s.heap H locs → W p l e (headSpec wsX5_fault { frames := 1, cells := 0, slots := 0, locals := 20 }).room s m ([.ref (ad 0)] : List Value).toArray below meth c H locs 0 0 Q (F0 m 226 ls (.int y :: []))) (fun Vy134 hVy134 Ky134 => ?_) (fun y134 hy_y134 => ?_)
                    · refine lv_icmp_ge (tgt := 225) hx hb dX5_fault_183 (by decide) (fun c135 => ?_) (fun c135 => ?_)
                      · rw [if_pos c135] at hVy134
                        refine lv_iconst (v := 0) hx hb dX5_fault_225 (by decide) ?_
                        exact Ky134 0 hVy134 _ _ hP hD hS
                      · rw [if_neg c135] at hVy134
                        refine lv_iload_n hx hb dX5_fault_186 rfl (lv_at hl 7 rfl) ?_
                        refine lv_iconst (v := 2) hx hb dX5_fault_187 (by decide) ?_
                        refine lv_icmp_gt (tgt := 206) hx hb dX5_fault_188 (by decide) (fun c136 => ?_) (fun c136 => ?_)
                        · rw [if_pos c136] at hVy134
                          refine lv_iload hx hb dX5_fault_206 (lv_at hl 0 rfl) ?_
                          refine lv_if_eq (tgt := 221) hx hb dX5_fault_208 (by decide) (fun c137 => ?_) (fun c137 => ?_)
                          · rw [if_pos c137] at hVy134
                            refine lv_iconst (v := 1) hx hb dX5_fault_221 (by decide) ?_
                            refine lv_goto (tgt := 226) hx hb dX5_fault_222 (by decide) ?_
                            exact Ky134 1 hVy134 _ _ hP hD hS
                          · rw [if_neg c137] at hVy134
                            refine lv_iload hx hb dX5_fault_211 (lv_at hl 1 rfl) ?_
                            refine lv_if_gt (tgt := 221) hx hb dX5_fault_213 (by decide) (fun c138 => ?_) (fun c138 => ?_)
                            · rw [if_pos c138] at hVy134
                              refine lv_iconst (v := 1) hx hb dX5_fault_221 (by decide) ?_
                              refine lv_goto (tgt := 226) hx hb dX5_fault_222 (by decide) ?_
                              exact Ky134 1 hVy134 _ _ hP hD hS
                            · rw [if_neg c138] at hVy134
                              refine lv_iload_n hx hb dX5_fault_216 rfl (lv_at hl 2 rfl) ?_
                              refine lv_iconst (v := 4) hx hb dX5_fault_217 (by decide) ?_
                              refine lv_icmp_ge (tgt := 225) hx hb dX5_fault_218 (by decide) (fun c139 => ?_) (fun c139 => ?_)
                              · rw [if_pos c139] at hVy134
                                refine lv_iconst (v := 0) hx hb dX5_fault_225 (by decide) ?_
                                exact Ky134 0 hVy134 _ _ hP hD hS
                              · rw [if_neg c139] at hVy134
                                refine lv_iconst (v := 1) hx hb dX5_fault_221 (by decide) ?_
                                refine lv_goto (tgt := 226) hx hb dX5_fault_222 (by decide) ?_
                                exact Ky134 1 hVy134 _ _ hP hD hS
                        · rw [if_neg c136] at hVy134
                          refine lv_iload hx hb dX5_fault_191 (lv_at hl 1 rfl) ?_
                          refine lv_aload_n hx hb dX5_fault_193 rfl (lv_at hl 6 rfl) ?_
                          refine va_get (D := D) (ci := 5) (v := .ref (ad 3)) (C := RX5) (T := TX5) (N := 27) hx hb ht inX5 hown hK hP 0 g_Md rfl 5 (by decide) (ht _ mw_578) (fun _ h9 => h9) rfl dX5_fault_194 ?_
                          refine lv_iload hx hb dX5_fault_197 (lv_at hl 4 rfl) ?_
                          refine va_iald (i := (10 * (gF τ9 0 3)) + x9_2) hx hb hK hP 3 0 g_m_letters rfl (c_in hv1 hv2) dX5_fault_199 ?_
                          refine vp_callSi (W.runS (As := [.int (gA τ9 3 ((10 * (gF τ9 0 3)) + x9_2).toNatClampNeg)]) (rest := [.int (((10 * y129) + (gA τ9 1 i109)) - 48)]) CF (k_m_greatest l (gA τ9 3 ((10 * (gF τ9 0 3)) + x9_2).toNatClampNeg)) ⟨callB_of 1 hts (gT mw_682) rfl rfl rfl (ht _ mw_6) (ht _ mw_680) (by decide +kernel) ⟨Nat.le_of_ble_eq_true rfl, Nat.le_of_ble_eq_true rfl⟩, (ht _ mw_681)⟩ preEq rfl rfl hl.1 rfl (lv_room (Nat.le_of_ble_eq_true rfl)) dX5_fault_200 ⟨Nat.le_of_ble_eq_true rfl, Nat.le_of_ble_eq_true rfl⟩) (fun r140 h_r140 => ?_)
                          obtain rfl := h_r140
                          refine lv_icmp_gt (tgt := 225) hx hb dX5_fault_203 (by decide) (fun c141 => ?_) (fun c141 => ?_)
                          · rw [if_pos c141] at hVy134
                            refine lv_iconst (v := 0) hx hb dX5_fault_225 (by decide) ?_
                            exact Ky134 0 hVy134 _ _ hP hD hS
                          · rw [if_neg c141] at hVy134
                            refine lv_iload hx hb dX5_fault_206 (lv_at hl 0 rfl) ?_
                            refine lv_if_eq (tgt := 221) hx hb dX5_fault_208 (by decide) (fun c142 => ?_) (fun c142 => ?_)
                            · rw [if_pos c142] at hVy134
                              refine lv_iconst (v := 1) hx hb dX5_fault_221 (by decide) ?_
                              refine lv_goto (tgt := 226) hx hb dX5_fault_222 (by decide) ?_
                              exact Ky134 1 hVy134 _ _ hP hD hS
                            · rw [if_neg c142] at hVy134
                              refine lv_iload hx hb dX5_fault_211 (lv_at hl 1 rfl) ?_
                              refine lv_if_gt (tgt := 221) hx hb dX5_fault_213 (by decide) (fun c143 => ?_) (fun c143 => ?_)
                              · rw [if_pos c143] at hVy134
                                refine lv_iconst (v := 1) hx hb dX5_fault_221 (by decide) ?_
                                refine lv_goto (tgt := 226) hx hb dX5_fault_222 (by decide) ?_
                                exact Ky134 1 hVy134 _ _ hP hD hS
                              · rw [if_neg c143] at hVy134
                                refine lv_iload_n hx hb dX5_fault_216 rfl (lv_at hl 2 rfl) ?_
                                refine lv_iconst (v := 4) hx hb dX5_fault_217 (by decide) ?_
                                refine lv_icmp_ge (tgt := 225) hx hb dX5_fault_218 (by decide) (fun c144 => ?_) (fun c144 => ?_)
                                · rw [if_pos c144] at hVy134
                                  refine lv_iconst (v := 0) hx hb dX5_fault_225 (by decide) ?_
                                  exact Ky134 0 hVy134 _ _ hP hD hS
                                · rw [if_neg c144] at hVy134
                                  refine lv_iconst (v := 1) hx hb dX5_fault_221 (by decide) ?_
                                  refine lv_goto (tgt := 226) hx hb dX5_fault_222 (by decide) ?_
                                  exact Ky134 1 hVy134 _ _ hP hD hS
                    · intro H locs hP hD hS
                      rw [← hy_y134, vb_eq] at hT
                      have b_y134 : y134 = 0 ∨ y134 = 1 := by rw [hy_y134]; (repeat' split) <;> first | exact Or.inl rfl | exact Or.inr rfl
                      refine lv_istore (lv' := [(7, .int y134), (9, .int y131), (8, .int (((10 * y129) + (gA τ9 1 i109)) - 48)), (3, .int (x9_3 + 1)), (6, .int ((10 * (gF τ9 0 3)) + x9_2)), (5, .int (gA τ9 1 i109)), (0, .ref (ad 0)), (1, .int x9_1), (2, .int x9_2), (4, .int (nI i109))]) hx hb dX5_fault_226 hl (by decide) rfl (fun ls hl => ?_)
                      refine lv_aload_n hx hb dX5_fault_228 rfl (lv_at hl 6 rfl) ?_
                      refine va_get (D := D) (ci := 5) (v := .ref (ad 4)) (C := RX5) (T := TX5) (N := 27) hx hb ht inX5 hown hK hP 0 g_Md rfl 6 (by decide) (ht _ mw_579) (fun _ h9 => h9) rfl dX5_fault_229 ?_
                      refine lv_iload hx hb dX5_fault_232 (lv_at hl 4 rfl) ?_
                      refine lv_iload_n hx hb dX5_fault_234 rfl (lv_at hl 7 rfl) ?_
                      refine lv_iconst (v := 3) hx hb dX5_fault_235 (by decide) ?_
                      refine jn (α := Int32) (E := (if 3 ≤ x9_1 then (gA τ9 4 ((10 * (gF τ9 0 3)) + x9_2).toNatClampNeg) else (((10 * y129) + (gA τ9 1 i109)) - 48))) (Kp := fun y => ∀ (H : Heap) (locs : List Loc), va_P D vwCl (wM ad kk τ9) H → va_D (aL 23 ad s.heap.size) (wM ad kk τ9) → va_S (aL 23 ad s.heap.size) s.heap H locs → W p l e (headSpec wsX5_fault { frames := 1, cells := 0, slots := 0, locals := 20 }).room s m ([.ref (ad 0)] : List Value).toArray below meth c H locs 0 0 Q (F0 m 251 ls (.int y :: .int ((10 * (gF τ9 0 3)) + x9_2) :: .ref (ad 4) :: []))) (fun Vy145 hVy145 Ky145 => ?_) (fun y145 hy_y145 => ?_)
                      · refine lv_icmp_ge (tgt := 244) hx hb dX5_fault_236 (by decide) (fun c146 => ?_) (fun c146 => ?_)
                        · rw [if_pos c146] at hVy145
                          refine lv_aload_n hx hb dX5_fault_244 rfl (lv_at hl 6 rfl) ?_
                          refine va_get (D := D) (ci := 5) (v := .ref (ad 4)) (C := RX5) (T := TX5) (N := 27) hx hb ht inX5 hown hK hP 0 g_Md rfl 6 (by decide) (ht _ mw_579) (fun _ h9 => h9) rfl dX5_fault_245 ?_
                          refine lv_iload hx hb dX5_fault_248 (lv_at hl 4 rfl) ?_
                          refine va_iald (i := (10 * (gF τ9 0 3)) + x9_2) hx hb hK hP 4 0 g_m_firsts rfl (c_in hv1 hv2) dX5_fault_250 ?_
                          exact Ky145 (gA τ9 4 ((10 * (gF τ9 0 3)) + x9_2).toNatClampNeg) hVy145 _ _ hP hD hS
                        · rw [if_neg c146] at hVy145
                          refine lv_iload hx hb dX5_fault_239 (lv_at hl 2 rfl) ?_
                          refine lv_goto (tgt := 251) hx hb dX5_fault_241 (by decide) ?_
                          exact Ky145 (((10 * y129) + (gA τ9 1 i109)) - 48) hVy145 _ _ hP hD hS
                      · intro H locs hP hD hS
                        rw [← hy_y145, vb_eq] at hT
                        refine va_iast (i := (10 * (gF τ9 0 3)) + x9_2) (x := y145) hx hb hK hP hD hS 4 0 g_m_firsts rfl (c_in hv1 hv2) dX5_fault_251 (fun H locs hP hD hS => ?_)
                        rw [s_m_firsts] at hP hD
                        refine lv_aload_n hx hb dX5_fault_252 rfl (lv_at hl 6 rfl) ?_
                        refine va_get (D := D) (ci := 5) (v := .ref (ad 5)) (C := RX5) (T := TX5) (N := 27) hx hb ht inX5 hown hK hP 0 g_Md rfl 7 (by decide) (ht _ mw_580) (fun _ h9 => h9) rfl dX5_fault_253 ?_
                        refine lv_iload hx hb dX5_fault_256 (lv_at hl 4 rfl) ?_
                        refine lv_iload_n hx hb dX5_fault_258 rfl (lv_at hl 7 rfl) ?_
                        refine lv_iconst (v := 3) hx hb dX5_fault_259 (by decide) ?_
                        refine jn (α := Int32) (E := (if 3 ≤ x9_1 then (((10 * y129) + (gA τ9 1 i109)) - 48) else 0)) (Kp := fun y => ∀ (H : Heap) (locs : List Loc), va_P D vwCl (wM ad kk (sA τ9 4 ((10 * (gF τ9 0 3)) + x9_2).toNatClampNeg y145)) H → va_D (aL 23 ad s.heap.size) (wM ad kk (sA τ9 4 ((10 * (gF τ9 0 3)) + x9_2).toNatClampNeg y145)) → va_S (aL 23 ad s.heap.size) s.heap H locs → W p l e (headSpec wsX5_fault { frames := 1, cells := 0, slots := 0, locals := 20 }).room s m ([.ref (ad 0)] : List Value).toArray below meth c H locs 0 0 Q (F0 m 269 ls (.int y :: .int ((10 * (gF τ9 0 3)) + x9_2) :: .ref (ad 5) :: []))) (fun Vy147 hVy147 Ky147 => ?_) (fun y147 hy_y147 => ?_)
                        · refine lv_icmp_ge (tgt := 267) hx hb dX5_fault_260 (by decide) (fun c148 => ?_) (fun c148 => ?_)
                          · rw [if_pos c148] at hVy147
                            refine lv_iload hx hb dX5_fault_267 (lv_at hl 2 rfl) ?_
                            exact Ky147 (((10 * y129) + (gA τ9 1 i109)) - 48) hVy147 _ _ hP hD hS
                          · rw [if_neg c148] at hVy147
                            refine lv_iconst (v := 0) hx hb dX5_fault_263 (by decide) ?_
                            refine lv_goto (tgt := 269) hx hb dX5_fault_264 (by decide) ?_
                            exact Ky147 0 hVy147 _ _ hP hD hS
                        · intro H locs hP hD hS
                          rw [← hy_y147, vb_eq] at hT
                          refine va_iast (i := (10 * (gF τ9 0 3)) + x9_2) (x := y147) hx hb hK hP hD hS 5 0 g_m_seconds rfl (c_in hv1 hv2) dX5_fault_269 (fun H locs hP hD hS => ?_)
                          rw [s_m_seconds] at hP hD
                          refine lv_iload_n hx hb dX5_fault_270 rfl (lv_at hl 7 rfl) ?_
                          refine lv_iconst (v := 3) hx hb dX5_fault_271 (by decide) ?_
                          refine jn (α := Int32) (E := (if 3 ≤ x9_1 then 4 else 2)) (Kp := fun y => ∀ (H : Heap) (locs : List Loc), va_P D vwCl (wM ad kk (sA (sA τ9 4 ((10 * (gF τ9 0 3)) + x9_2).toNatClampNeg y145) 5 ((10 * (gF τ9 0 3)) + x9_2).toNatClampNeg y147)) H → va_D (aL 23 ad s.heap.size) (wM ad kk (sA (sA τ9 4 ((10 * (gF τ9 0 3)) + x9_2).toNatClampNeg y145) 5 ((10 * (gF τ9 0 3)) + x9_2).toNatClampNeg y147)) → va_S (aL 23 ad s.heap.size) s.heap H locs → W p l e (headSpec wsX5_fault { frames := 1, cells := 0, slots := 0, locals := 20 }).room s m ([.ref (ad 0)] : List Value).toArray below meth c H locs 0 0 Q (F0 m 280 ls (.int y :: []))) (fun Vy149 hVy149 Ky149 => ?_) (fun y149 hy_y149 => ?_)
                          · refine lv_icmp_ge (tgt := 279) hx hb dX5_fault_272 (by decide) (fun c150 => ?_) (fun c150 => ?_)
                            · rw [if_pos c150] at hVy149
                              refine lv_iconst (v := 4) hx hb dX5_fault_279 (by decide) ?_
                              exact Ky149 4 hVy149 _ _ hP hD hS
                            · rw [if_neg c150] at hVy149
                              refine lv_iconst (v := 2) hx hb dX5_fault_275 (by decide) ?_
                              refine lv_goto (tgt := 280) hx hb dX5_fault_276 (by decide) ?_
                              exact Ky149 2 hVy149 _ _ hP hD hS
                          · intro H locs hP hD hS
                            rw [← hy_y149, vb_eq] at hT
                            refine lv_istore_n (lv' := [(1, .int y149), (7, .int y134), (9, .int y131), (8, .int (((10 * y129) + (gA τ9 1 i109)) - 48)), (3, .int (x9_3 + 1)), (6, .int ((10 * (gF τ9 0 3)) + x9_2)), (5, .int (gA τ9 1 i109)), (0, .ref (ad 0)), (2, .int x9_2), (4, .int (nI i109))]) hx hb dX5_fault_280 rfl hl (by decide) rfl (fun ls hl => ?_)
                            refine lv_goto (tgt := 425) hx hb dX5_fault_281 (by decide) ?_
                            refine lv_iload hx hb dX5_fault_425 (lv_at hl 1 rfl) ?_
                            refine lv_if_ne (tgt := 433) hx hb dX5_fault_427 (by decide) (fun c151 => ?_) (fun c151 => ?_)
                            · rw [if_neg c151] at hT
                              have hgo := c151
                              refine lv_iinc (v := nI (i109 + 1)) (lv' := [(4, .int (nI (i109 + 1))), (1, .int y149), (7, .int y134), (9, .int y131), (8, .int (((10 * y129) + (gA τ9 1 i109)) - 48)), (3, .int (x9_3 + 1)), (6, .int ((10 * (gF τ9 0 3)) + x9_2)), (5, .int (gA τ9 1 i109)), (0, .ref (ad 0)), (2, .int x9_2)]) hx hb dX5_fault_433 hl (k := 9) rfl (nI_1 i109) (by decide) rfl (fun ls hl => ?_)
                              refine lv_goto (tgt := 9) hx hb dX5_fault_436 (by decide) ?_
                              exact ih  (i109 + 1) y149 x9_2 (x9_3 + 1) (sA (sA τ9 4 ((10 * (gF τ9 0 3)) + x9_2).toNatClampNeg y145) 5 ((10 * (gF τ9 0 3)) + x9_2).toNatClampNeg y147) _ _ ls h_lt (by omega) (by first | exact hv0 | exact (hv0.k4).k5 | exact ((hv0.k3).k4).k5) hv1 (by first | exact hv2 | exact n_in hgd hgo hv2) hP hD hS (lv_sub hl [8, 1, 9, 5, 0] rfl) hT
                            · rw [if_pos c151] at hT
                              refine lv_iload hx hb dX5_fault_430 (lv_at hl 9 rfl) ?_
                              rw [eQ]
                              exact W.iret (v := nI i109) hx hb hr (fun t ht hW => ⟨⟨nI i109, (sA (sA τ9 4 ((10 * (gF τ9 0 3)) + x9_2).toNatClampNeg y145) 5 ((10 * (gF τ9 0 3)) + x9_2).toNatClampNeg y147), rfl, hT, by rw [ht]; exact hP, va_K.moved hW.alike hK, hD⟩, hS.F ht⟩) hS.2.2 dX5_fault_432
        · rw [if_pos c20] at hT
          refine lv_iload hx hb dX5_fault_45 (lv_at hl 2 rfl) ?_
          refine vp_callSi (W.runS (As := [.int (gA τ9 1 i109)]) (rest := []) CF (k_m_isLetter l (gA τ9 1 i109)) ⟨callB_of 1 hts (gT mw_679) rfl rfl rfl (ht _ mw_6) (ht _ mw_677) (by decide +kernel) ⟨Nat.le_of_ble_eq_true rfl, Nat.le_of_ble_eq_true rfl⟩, (ht _ mw_678)⟩ preEq rfl rfl hl.1 rfl (lv_room (Nat.le_of_ble_eq_true rfl)) dX5_fault_47 ⟨Nat.le_of_ble_eq_true rfl, Nat.le_of_ble_eq_true rfl⟩) (fun r152 h_r152 => ?_)
          obtain rfl := h_r152
          refine lv_istore (lv' := [(7, .int (M_m_isLetter (gA τ9 1 i109))), (6, .int ((10 * (gF τ9 0 3)) + x9_2)), (5, .int (gA τ9 1 i109)), (0, .ref (ad 0)), (1, .int x9_1), (2, .int x9_2), (3, .int x9_3), (4, .int (nI i109))]) hx hb dX5_fault_50 hl (by decide) rfl (fun ls hl => ?_)
          refine lv_aload_n hx hb dX5_fault_52 rfl (lv_at hl 3 rfl) ?_
          refine va_get (D := D) (ci := 5) (v := .ref (ad 3)) (C := RX5) (T := TX5) (N := 27) hx hb ht inX5 hown hK hP 0 g_Md rfl 5 (by decide) (ht _ mw_578) (fun _ h9 => h9) rfl dX5_fault_53 ?_
          refine lv_iload hx hb dX5_fault_56 (lv_at hl 1 rfl) ?_
          refine lv_iload hx hb dX5_fault_58 (lv_at hl 2 rfl) ?_
          refine va_iast (i := (10 * (gF τ9 0 3)) + x9_2) (x := gA τ9 1 i109) hx hb hK hP hD hS 3 0 g_m_letters rfl (c_in hv1 hv2) dX5_fault_60 (fun H locs hP hD hS => ?_)
          rw [s_m_letters] at hP hD
          refine lv_aload_n hx hb dX5_fault_61 rfl (lv_at hl 3 rfl) ?_
          refine va_get (D := D) (ci := 5) (v := .ref (ad 4)) (C := RX5) (T := TX5) (N := 27) hx hb ht inX5 hown hK hP 0 g_Md rfl 6 (by decide) (ht _ mw_579) (fun _ h9 => h9) rfl dX5_fault_62 ?_
          refine lv_iload hx hb dX5_fault_65 (lv_at hl 1 rfl) ?_
          refine lv_iconst (v := 0) hx hb dX5_fault_67 (by decide) ?_
          refine va_iast (i := (10 * (gF τ9 0 3)) + x9_2) (x := 0) hx hb hK hP hD hS 4 0 g_m_firsts rfl (c_in hv1 hv2) dX5_fault_68 (fun H locs hP hD hS => ?_)
          rw [s_m_firsts] at hP hD
          refine lv_aload_n hx hb dX5_fault_69 rfl (lv_at hl 3 rfl) ?_
          refine va_get (D := D) (ci := 5) (v := .ref (ad 5)) (C := RX5) (T := TX5) (N := 27) hx hb ht inX5 hown hK hP 0 g_Md rfl 7 (by decide) (ht _ mw_580) (fun _ h9 => h9) rfl dX5_fault_70 ?_
          refine lv_iload hx hb dX5_fault_73 (lv_at hl 1 rfl) ?_
          refine lv_iconst (v := 0) hx hb dX5_fault_75 (by decide) ?_
          refine va_iast (i := (10 * (gF τ9 0 3)) + x9_2) (x := 0) hx hb hK hP hD hS 5 0 g_m_seconds rfl (c_in hv1 hv2) dX5_fault_76 (fun H locs hP hD hS => ?_)
          rw [s_m_seconds] at hP hD
          refine lv_iconst (v := 0) hx hb dX5_fault_77 (by decide) ?_
          refine lv_istore_n (lv' := [(3, .int 0), (7, .int (M_m_isLetter (gA τ9 1 i109))), (6, .int ((10 * (gF τ9 0 3)) + x9_2)), (5, .int (gA τ9 1 i109)), (0, .ref (ad 0)), (1, .int x9_1), (2, .int x9_2), (4, .int (nI i109))]) hx hb dX5_fault_78 rfl hl (by decide) rfl (fun ls hl => ?_)
          refine lv_iload hx hb dX5_fault_79 (lv_at hl 3 rfl) ?_
          refine lv_bipush (v := 116) hx hb dX5_fault_81 (by decide) ?_
          refine jn (α := Int32) (E := (if (gA τ9 1 i109) = 116 then 5 else (if (gA τ9 1 i109) = 105 then 5 else 1))) (Kp := fun y => ∀ (H : Heap) (locs : List Loc), va_P D vwCl (wM ad kk (sA (sA (sA τ9 3 ((10 * (gF τ9 0 3)) + x9_2).toNatClampNeg (gA τ9 1 i109)) 4 ((10 * (gF τ9 0 3)) + x9_2).toNatClampNeg 0) 5 ((10 * (gF τ9 0 3)) + x9_2).toNatClampNeg 0)) H → va_D (aL 23 ad s.heap.size) (wM ad kk (sA (sA (sA τ9 3 ((10 * (gF τ9 0 3)) + x9_2).toNatClampNeg (gA τ9 1 i109)) 4 ((10 * (gF τ9 0 3)) + x9_2).toNatClampNeg 0) 5 ((10 * (gF τ9 0 3)) + x9_2).toNatClampNeg 0)) → va_S (aL 23 ad s.heap.size) s.heap H locs → W p l e (headSpec wsX5_fault { frames := 1, cells := 0, slots := 0, locals := 20 }).room s m ([.ref (ad 0)] : List Value).toArray below meth c H locs 0 0 Q (F0 m 98 ls (.int y :: []))) (fun Vy153 hVy153 Ky153 => ?_) (fun y153 hy_y153 => ?_)
          · refine lv_icmp_eq (tgt := 93) hx hb dX5_fault_83 (by decide) (fun c154 => ?_) (fun c154 => ?_)
            · rw [if_pos c154] at hVy153
              refine lv_iconst (v := 5) hx hb dX5_fault_93 (by decide) ?_
              refine lv_goto (tgt := 98) hx hb dX5_fault_94 (by decide) ?_
              exact Ky153 5 hVy153 _ _ hP hD hS
            · rw [if_neg c154] at hVy153
              refine lv_iload hx hb dX5_fault_86 (lv_at hl 3 rfl) ?_
              refine lv_bipush (v := 105) hx hb dX5_fault_88 (by decide) ?_
              refine lv_icmp_ne (tgt := 97) hx hb dX5_fault_90 (by decide) (fun c155 => ?_) (fun c155 => ?_)
              · rw [if_neg c155] at hVy153
                refine lv_iconst (v := 1) hx hb dX5_fault_97 (by decide) ?_
                exact Ky153 1 hVy153 _ _ hP hD hS
              · rw [if_pos c155] at hVy153
                refine lv_iconst (v := 5) hx hb dX5_fault_93 (by decide) ?_
                refine lv_goto (tgt := 98) hx hb dX5_fault_94 (by decide) ?_
                exact Ky153 5 hVy153 _ _ hP hD hS
          · intro H locs hP hD hS
            rw [← hy_y153, vb_eq] at hT
            refine lv_istore_n (lv' := [(1, .int y153), (3, .int 0), (7, .int (M_m_isLetter (gA τ9 1 i109))), (6, .int ((10 * (gF τ9 0 3)) + x9_2)), (5, .int (gA τ9 1 i109)), (0, .ref (ad 0)), (2, .int x9_2), (4, .int (nI i109))]) hx hb dX5_fault_98 rfl hl (by decide) rfl (fun ls hl => ?_)
            refine lv_goto (tgt := 425) hx hb dX5_fault_99 (by decide) ?_
            refine lv_iload hx hb dX5_fault_425 (lv_at hl 2 rfl) ?_
            refine lv_if_ne (tgt := 433) hx hb dX5_fault_427 (by decide) (fun c156 => ?_) (fun c156 => ?_)
            · rw [if_neg c156] at hT
              have hgo := c156
              refine lv_iinc (v := nI (i109 + 1)) (lv' := [(4, .int (nI (i109 + 1))), (1, .int y153), (3, .int 0), (7, .int (M_m_isLetter (gA τ9 1 i109))), (6, .int ((10 * (gF τ9 0 3)) + x9_2)), (5, .int (gA τ9 1 i109)), (0, .ref (ad 0)), (2, .int x9_2)]) hx hb dX5_fault_433 hl (k := 7) rfl (nI_1 i109) (by decide) rfl (fun ls hl => ?_)
              refine lv_goto (tgt := 9) hx hb dX5_fault_436 (by decide) ?_
              exact ih  (i109 + 1) y153 x9_2 0 (sA (sA (sA τ9 3 ((10 * (gF τ9 0 3)) + x9_2).toNatClampNeg (gA τ9 1 i109)) 4 ((10 * (gF τ9 0 3)) + x9_2).toNatClampNeg 0) 5 ((10 * (gF τ9 0 3)) + x9_2).toNatClampNeg 0) _ _ ls h_lt (by omega) (by first | exact hv0 | exact (hv0.k4).k5 | exact ((hv0.k3).k4).k5) hv1 (by first | exact hv2 | exact n_in hgd hgo hv2) hP hD hS (lv_sub hl [6, 1, 7, 2, 0] rfl) hT
            · rw [if_pos c156] at hT
              refine lv_iload hx hb dX5_fault_430 (lv_at hl 7 rfl) ?_
              rw [eQ]
              exact W.iret (v := nI i109) hx hb hr (fun t ht hW => ⟨⟨nI i109, (sA (sA (sA τ9 3 ((10 * (gF τ9 0 3)) + x9_2).toNatClampNeg (gA τ9 1 i109)) 4 ((10 * (gF τ9 0 3)) + x9_2).toNatClampNeg 0) 5 ((10 * (gF τ9 0 3)) + x9_2).toNatClampNeg 0), rfl, hT, by rw [ht]; exact hP, va_K.moved hW.alike hK, hD⟩, hS.F ht⟩) hS.2.2 dX5_fault_432
  rw [M_m_fault] at hT
  refine lv_iconst (v := 0) hx hb dX5_fault_0 (by decide) ?_
  refine lv_istore_n (lv' := [(1, .int 0), (0, .ref (ad 0))]) hx hb dX5_fault_1 rfl hl (by decide) rfl (fun ls hl => ?_)
  refine lv_iconst (v := 0) hx hb dX5_fault_2 (by decide) ?_
  refine lv_istore_n (lv' := [(2, .int 0), (1, .int 0), (0, .ref (ad 0))]) hx hb dX5_fault_3 rfl hl (by decide) rfl (fun ls hl => ?_)
  refine lv_iconst (v := 0) hx hb dX5_fault_4 (by decide) ?_
  refine lv_istore_n (lv' := [(3, .int 0), (2, .int 0), (1, .int 0), (0, .ref (ad 0))]) hx hb dX5_fault_5 rfl hl (by decide) rfl (fun ls hl => ?_)
  refine lv_iconst (v := 0) hx hb dX5_fault_6 (by decide) ?_
  refine lv_istore (lv' := [(4, .int 0), (3, .int 0), (2, .int 0), (1, .int 0), (0, .ref (ad 0))]) hx hb dX5_fault_7 hl (by decide) rfl (fun ls hl => ?_)
  exact L_9 51 0 0 0 0 σ _ _ ls (Nat.zero_le _) (by decide) hI hm (vp_in_nI (n := 0) (by decide) (by decide)) hP hD hS (lv_sub hl [4, 3, 2, 1, 0] rfl) hT
set_option maxHeartbeats 4000000 in
set_option maxRecDepth 100000 in
theorem k_m_read (l : Launch) (D : va_G) (ad : Nat → Nat) (kk : Nat → ClassId) (sz : Nat) (σ : St) (hI : IM σ) : Met l yX5_read wsX5_read { frames := 2, cells := 0, slots := 0, locals := 49 } (va_Pc [.ref (ad 0)] (PM D ad kk sz σ)) (va_Qi (fun r u => (r, u) = M_m_read σ) (QM D ad kk sz) (aL 23 ad sz)) 0 0 (aL 23 ad sz) := by
  refine Met.ofW (cc := cX5_read) (maxL := 2) (ret := (some .int)) (by decide) rfl ?_
  intro p e s m args below meth c s₁ B hml hv
  obtain ⟨rfl, hsz, hP, hK, hD0⟩ := hv
  have hx := B.exec
  have hb := B.bytes
  have hr := B.returns
  have hts := atoms_spec (ws := wsX5_read) B.pre
  have hown : s.vm.findClass RX5 = some m.cls := findClass_of_methodNamed B.named
  have hlocks := B.notSynchronized
  subst hsz
  have hD : va_D (aL 23 ad s.heap.size) (wM ad kk σ) := aL_D hD0
  have hS : va_S (aL 23 ad s.heap.size) s.heap s.heap [] := va_S.rf
  have hl := lv_entry ([.ref (ad 0)]) (n := 2) (Nat.le_of_ble_eq_true rfl)
  rw [lg_entry_eq]
  generalize (lg_sl ([.ref (ad 0)]) ++ List.replicate (2 - (lg_sl ([.ref (ad 0)])).length) Slot.unset).toArray = ls at hl ⊢
  have hl : lv_has ls 2 [(0, .ref (ad 0))] := hl
  have CF : CallFix p m c cX5_read 2 s ([.ref (ad 0)] : List Value).toArray wsX5_read RX5 := ⟨hx, hb, hml, hown, hts⟩
  have ht : ∀ w ∈ T0, w.before ([.ref (ad 0)] : List Value).toArray s = true := fun w h => hts w (List.mem_cons_of_mem _ h)
  generalize hT : M_m_read σ = T
  refine namedQ (fun Q eQ => ?_)
  rw [M_m_read] at hT
  refine lv_aload_n hx hb dX5_read_0 rfl (lv_at hl 0 rfl) ?_
  refine lv_aload_n hx hb dX5_read_1 rfl (lv_at hl 0 rfl) ?_
  refine va_get (D := D) (ci := 5) (v := .int (gF σ 0 3)) (C := RX5) (T := TX5) (N := 27) hx hb ht inX5 hown hK hP 0 g_Md rfl 3 (by decide) (ht _ mw_576) (fun _ h9 => h9) rfl dX5_read_2 ?_
  refine lv_bipush (v := 12) hx hb dX5_read_5 (by decide) ?_
  refine jn (α := Int32) (E := (if 12 ≤ (gF σ 0 3) then 0 else 1)) (Kp := fun y => ∀ (H : Heap) (locs : List Loc), va_P D vwCl (wM ad kk σ) H → va_D (aL 23 ad s.heap.size) (wM ad kk σ) → va_S (aL 23 ad s.heap.size) s.heap H locs → W p l e (headSpec wsX5_read { frames := 2, cells := 0, slots := 0, locals := 49 }).room s m ([.ref (ad 0)] : List Value).toArray below meth c H locs 0 0 Q (F0 m 15 ls (.int y :: .ref (ad 0) :: []))) (fun Vy1 hVy1 Ky1 => ?_) (fun y1 hy_y1 => ?_)
  · refine lv_icmp_ge (tgt := 14) hx hb dX5_read_7 (by decide) (fun c2 => ?_) (fun c2 => ?_)
    · rw [if_pos c2] at hVy1
      refine lv_iconst (v := 0) hx hb dX5_read_14 (by decide) ?_
      exact Ky1 0 hVy1 _ _ hP hD hS
    · rw [if_neg c2] at hVy1
      refine lv_iconst (v := 1) hx hb dX5_read_10 (by decide) ?_
      refine lv_goto (tgt := 15) hx hb dX5_read_11 (by decide) ?_
      exact Ky1 1 hVy1 _ _ hP hD hS
  · intro H locs hP hD hS
    rw [← hy_y1, vb_eq] at hT
    have h1 := hy_y1
    have b_y1 : y1 = 0 ∨ y1 = 1 := by rw [hy_y1]; (repeat' split) <;> first | exact Or.inl rfl | exact Or.inr rfl
    refine lv_iconst (v := 1) hx hb dX5_read_15 (by decide) ?_
    refine lv_iconst (v := 1) hx hb dX5_read_16 (by decide) ?_
    refine kM_i (va_runV (As := [.int y1, .int 1, .int 1]) (rest := []) CF (k_m_goes l D ad kk _ σ y1 1 1) ⟨callB_of 3 hts (gT mw_668) rfl rfl rfl (ht _ mw_6) (ht _ mw_665) (by decide +kernel) ⟨Nat.le_of_ble_eq_true rfl, Nat.le_of_ble_eq_true rfl⟩, (ht _ mw_667), (ht _ ms_23)⟩ (preV_M hK hP hD hS (ci := 5) rfl rfl g_Md) rfl rfl hl.1 rfl (lv_room (Nat.le_of_ble_eq_true rfl)) dX5_read_17 ⟨Nat.le_of_ble_eq_true rfl, Nat.le_of_ble_eq_true rfl⟩) hS (fun r3 σ4 H locs hw hP hD hS => ?_)
    rw [← hw, pb_mk] at hT
    have h_r3 := hw
    have hg := h_r3
    have hI1 := IM.goes hI h_r3
    refine lv_if_ne (tgt := 25) hx hb dX5_read_20 (by decide) (fun c5 => ?_) (fun c5 => ?_)
    · rw [if_neg c5] at hT
      have hok := goes_ok hg c5
      refine lv_aload_n hx hb dX5_read_25 rfl (lv_at hl 0 rfl) ?_
      refine kM_i (va_runV (As := []) (rest := []) CF (k_m_fault l D ad kk _ σ4 hI1 (read_in hI hg h1 hok.1)) ⟨callB_of 0 hts (gT mw_676) rfl rfl rfl (ht _ mw_6) (ht _ mw_673) (by decide +kernel) ⟨Nat.le_of_ble_eq_true rfl, Nat.le_of_ble_eq_true rfl⟩, (ht _ mw_675), (ht _ ms_24)⟩ (preV_M hK hP hD hS (ci := 5) rfl rfl g_Md) rfl rfl hl.1 rfl (lv_room (Nat.le_of_ble_eq_true rfl)) dX5_read_26 ⟨Nat.le_of_ble_eq_true rfl, Nat.le_of_ble_eq_true rfl⟩) hS (fun r6 σ7 H locs hw hP hD hS => ?_)
      rw [← hw, pb_mk] at hT
      have h_r6 := hw
      refine lv_istore_n (lv' := [(1, .int r6), (0, .ref (ad 0))]) hx hb dX5_read_29 rfl hl (by decide) rfl (fun ls hl => ?_)
      refine lv_aload_n hx hb dX5_read_30 rfl (lv_at hl 1 rfl) ?_
      refine lv_iload_n hx hb dX5_read_31 rfl (lv_at hl 0 rfl) ?_
      refine lv_iconst (v := (-1)) hx hb dX5_read_32 (by decide) ?_
      refine lv_icmp_ne (tgt := 45) hx hb dX5_read_33 (by decide) (fun c8 => ?_) (fun c8 => ?_)
      · rw [if_neg c8] at hT
        refine lv_aload_n hx hb dX5_read_45 rfl (lv_at hl 1 rfl) ?_
        refine va_get (D := D) (ci := 5) (v := .int (gF σ7 0 3)) (C := RX5) (T := TX5) (N := 27) hx hb ht inX5 hown hK hP 0 g_Md rfl 3 (by decide) (ht _ mw_576) (fun _ h9 => h9) rfl dX5_read_46 ?_
        refine va_put (D := D) (ci := 5) (v := .int (gF σ7 0 3)) (ty := .int) (C := RX5) (T := TX5) (N := 27) hx hb ht inX5 tyX5 tyX5_ok nmX5 hown hK hP hD hS 0 g_Md rfl 3 (by decide) (ht _ mw_576) (fun _ h9 => h9) rfl (by decide +kernel) rfl rfl (Nat.le_of_ble_eq_true rfl) dX5_read_49 (fun H locs hP hD hS => ?_)
        rw [s_Md_3] at hP hD
        refine lv_aload_n hx hb dX5_read_52 rfl (lv_at hl 1 rfl) ?_
        refine lv_iconst (v := 0) hx hb dX5_read_53 (by decide) ?_
        refine va_put (D := D) (ci := 5) (v := .int 0) (ty := .int) (C := RX5) (T := TX5) (N := 27) hx hb ht inX5 tyX5 tyX5_ok nmX5 hown hK hP hD hS 0 g_Md rfl 1 (by decide) (ht _ mw_574) (fun _ h9 => h9) rfl (by decide +kernel) rfl rfl (Nat.le_of_ble_eq_true rfl) dX5_read_54 (fun H locs hP hD hS => ?_)
        rw [s_Md_1] at hP hD
        refine lv_iload_n hx hb dX5_read_57 rfl (lv_at hl 0 rfl) ?_
        refine lv_iconst (v := (-1)) hx hb dX5_read_58 (by decide) ?_
        refine jn (α := Int32) (E := (if r6 = (-1) then ((gF (sF (sF σ7 0 3 (gF σ7 0 3)) 0 1 0) 0 3) - 1) else ((-1) - r6))) (Kp := fun y => ∀ (H : Heap) (locs : List Loc), va_P D vwCl (wM ad kk (sF (sF σ7 0 3 (gF σ7 0 3)) 0 1 0)) H → va_D (aL 23 ad s.heap.size) (wM ad kk (sF (sF σ7 0 3 (gF σ7 0 3)) 0 1 0)) → va_S (aL 23 ad s.heap.size) s.heap H locs → W p l e (headSpec wsX5_read { frames := 2, cells := 0, slots := 0, locals := 49 }).room s m ([.ref (ad 0)] : List Value).toArray below meth c H locs 0 0 Q (F0 m 74 ls (.int y :: []))) (fun Vy9 hVy9 Ky9 => ?_) (fun y9 hy_y9 => ?_)
        · refine lv_icmp_ne (tgt := 71) hx hb dX5_read_59 (by decide) (fun c10 => ?_) (fun c10 => ?_)
          · rw [if_neg c10] at hVy9
            refine lv_iconst (v := (-1)) hx hb dX5_read_71 (by decide) ?_
            refine lv_iload_n hx hb dX5_read_72 rfl (lv_at hl 0 rfl) ?_
            refine lv_isub hx hb dX5_read_73 ?_
            exact Ky9 ((-1) - r6) hVy9 _ _ hP hD hS
          · rw [if_pos c10] at hVy9
            refine lv_aload_n hx hb dX5_read_62 rfl (lv_at hl 1 rfl) ?_
            refine va_get (D := D) (ci := 5) (v := .int (gF (sF (sF σ7 0 3 (gF σ7 0 3)) 0 1 0) 0 3)) (C := RX5) (T := TX5) (N := 27) hx hb ht inX5 hown hK hP 0 g_Md rfl 3 (by decide) (ht _ mw_576) (fun _ h9 => h9) rfl dX5_read_63 ?_
            refine lv_iconst (v := 1) hx hb dX5_read_66 (by decide) ?_
            refine lv_isub hx hb dX5_read_67 ?_
            refine lv_goto (tgt := 74) hx hb dX5_read_68 (by decide) ?_
            exact Ky9 ((gF (sF (sF σ7 0 3 (gF σ7 0 3)) 0 1 0) 0 3) - 1) hVy9 _ _ hP hD hS
        · intro H locs hP hD hS
          rw [← hy_y9, vb_eq] at hT
          rw [eQ]
          exact W.iret (v := y9) hx hb hr (fun t ht hW => ⟨⟨y9, (sF (sF σ7 0 3 (gF σ7 0 3)) 0 1 0), rfl, hT, by rw [ht]; exact hP, va_K.moved hW.alike hK, hD⟩, hS.F ht⟩) hS.2.2 dX5_read_74
      · rw [if_pos c8] at hT
        refine lv_aload_n hx hb dX5_read_36 rfl (lv_at hl 1 rfl) ?_
        refine va_get (D := D) (ci := 5) (v := .int (gF σ7 0 3)) (C := RX5) (T := TX5) (N := 27) hx hb ht inX5 hown hK hP 0 g_Md rfl 3 (by decide) (ht _ mw_576) (fun _ h9 => h9) rfl dX5_read_37 ?_
        refine lv_iconst (v := 1) hx hb dX5_read_40 (by decide) ?_
        refine lv_iadd hx hb dX5_read_41 ?_
        refine lv_goto (tgt := 49) hx hb dX5_read_42 (by decide) ?_
        refine va_put (D := D) (ci := 5) (v := .int ((gF σ7 0 3) + 1)) (ty := .int) (C := RX5) (T := TX5) (N := 27) hx hb ht inX5 tyX5 tyX5_ok nmX5 hown hK hP hD hS 0 g_Md rfl 3 (by decide) (ht _ mw_576) (fun _ h9 => h9) rfl (by decide +kernel) rfl rfl (Nat.le_of_ble_eq_true rfl) dX5_read_49 (fun H locs hP hD hS => ?_)
        rw [s_Md_3] at hP hD
        refine lv_aload_n hx hb dX5_read_52 rfl (lv_at hl 1 rfl) ?_
        refine lv_iconst (v := 0) hx hb dX5_read_53 (by decide) ?_
        refine va_put (D := D) (ci := 5) (v := .int 0) (ty := .int) (C := RX5) (T := TX5) (N := 27) hx hb ht inX5 tyX5 tyX5_ok nmX5 hown hK hP hD hS 0 g_Md rfl 1 (by decide) (ht _ mw_574) (fun _ h9 => h9) rfl (by decide +kernel) rfl rfl (Nat.le_of_ble_eq_true rfl) dX5_read_54 (fun H locs hP hD hS => ?_)
        rw [s_Md_1] at hP hD
        refine lv_iload_n hx hb dX5_read_57 rfl (lv_at hl 0 rfl) ?_
        refine lv_iconst (v := (-1)) hx hb dX5_read_58 (by decide) ?_
        refine jn (α := Int32) (E := (if r6 = (-1) then ((gF (sF (sF σ7 0 3 ((gF σ7 0 3) + 1)) 0 1 0) 0 3) - 1) else ((-1) - r6))) (Kp := fun y => ∀ (H : Heap) (locs : List Loc), va_P D vwCl (wM ad kk (sF (sF σ7 0 3 ((gF σ7 0 3) + 1)) 0 1 0)) H → va_D (aL 23 ad s.heap.size) (wM ad kk (sF (sF σ7 0 3 ((gF σ7 0 3) + 1)) 0 1 0)) → va_S (aL 23 ad s.heap.size) s.heap H locs → W p l e (headSpec wsX5_read { frames := 2, cells := 0, slots := 0, locals := 49 }).room s m ([.ref (ad 0)] : List Value).toArray below meth c H locs 0 0 Q (F0 m 74 ls (.int y :: []))) (fun Vy11 hVy11 Ky11 => ?_) (fun y11 hy_y11 => ?_)
        · refine lv_icmp_ne (tgt := 71) hx hb dX5_read_59 (by decide) (fun c12 => ?_) (fun c12 => ?_)
          · rw [if_neg c12] at hVy11
            refine lv_iconst (v := (-1)) hx hb dX5_read_71 (by decide) ?_
            refine lv_iload_n hx hb dX5_read_72 rfl (lv_at hl 0 rfl) ?_
            refine lv_isub hx hb dX5_read_73 ?_
            exact Ky11 ((-1) - r6) hVy11 _ _ hP hD hS
          · rw [if_pos c12] at hVy11
            refine lv_aload_n hx hb dX5_read_62 rfl (lv_at hl 1 rfl) ?_
            refine va_get (D := D) (ci := 5) (v := .int (gF (sF (sF σ7 0 3 ((gF σ7 0 3) + 1)) 0 1 0) 0 3)) (C := RX5) (T := TX5) (N := 27) hx hb ht inX5 hown hK hP 0 g_Md rfl 3 (by decide) (ht _ mw_576) (fun _ h9 => h9) rfl dX5_read_63 ?_
            refine lv_iconst (v := 1) hx hb dX5_read_66 (by decide) ?_
            refine lv_isub hx hb dX5_read_67 ?_
            refine lv_goto (tgt := 74) hx hb dX5_read_68 (by decide) ?_
            exact Ky11 ((gF (sF (sF σ7 0 3 ((gF σ7 0 3) + 1)) 0 1 0) 0 3) - 1) hVy11 _ _ hP hD hS
        · intro H locs hP hD hS
          rw [← hy_y11, vb_eq] at hT
          rw [eQ]
          exact W.iret (v := y11) hx hb hr (fun t ht hW => ⟨⟨y11, (sF (sF σ7 0 3 ((gF σ7 0 3) + 1)) 0 1 0), rfl, hT, by rw [ht]; exact hP, va_K.moved hW.alike hK, hD⟩, hS.F ht⟩) hS.2.2 dX5_read_74
    · rw [if_pos c5] at hT
      refine lv_iconst (v := 0) hx hb dX5_read_23 (by decide) ?_
      rw [eQ]
      exact W.iret (v := 0) hx hb hr (fun t ht hW => ⟨⟨0, σ4, rfl, hT, by rw [ht]; exact hP, va_K.moved hW.alike hK, hD⟩, hS.F ht⟩) hS.2.2 dX5_read_24

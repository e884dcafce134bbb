set_option maxHeartbeats 4000000 in
set_option maxRecDepth 100000 in
theorem k_m_orders (l : Launch) (D : va_G) (ad : Nat → Nat) (kk : Nat → ClassId) (sz : Nat) (σ : St) (p1 : Int32) (p2 : Int32) (hn1 : vp_in p1 10) (hn2 : vp_in p2 11) (hI : IM σ) (hc : ∀ k, k < p2.toNatClampNeg → vp_in (gA σ 21 k) 12) : Met l yX5_orders wsX5_orders { frames := 2, cells := 0, slots := 0, locals := 51 } (va_Pc [.ref (ad 0), .int p1, .int p2] (PM D ad kk sz σ)) (va_Qi (fun r u => (r, u) = M_m_orders σ p1 p2) (QM D ad kk sz) (aL 23 ad sz)) 0 0 (aL 23 ad sz) := by
  obtain ⟨j1, hj1, rfl⟩ := vp_in_of hn1 (by decide)
  obtain ⟨j2, hj2, rfl⟩ := vp_in_of hn2 (by decide)
  refine Met.ofW (cc := cX5_orders) (maxL := 6) (ret := (some .boolean)) (by decide) rfl ?_
  intro p e s m args below meth c s₁ B hml hv
  obtain ⟨rfl, hsz, hP, hK, hD0⟩ := hv
  have hx := B.exec
  have hb := B.bytes
  have hr := B.returns
  have hts := atoms_spec (ws := wsX5_orders) B.pre
  have hown : s.vm.findClass RX5 = some m.cls := findClass_of_methodNamed B.named
  have hlocks := B.notSynchronized
  subst hsz
  have hD : va_D (aL 23 ad s.heap.size) (wM ad kk σ) := aL_D hD0
  have hS : va_S (aL 23 ad s.heap.size) s.heap s.heap [] := va_S.rf
  have hl := lv_entry ([.ref (ad 0), .int (nI j1), .int (nI j2)]) (n := 6) (Nat.le_of_ble_eq_true rfl)
  rw [lg_entry_eq]
  generalize (lg_sl ([.ref (ad 0), .int (nI j1), .int (nI j2)]) ++ List.replicate (6 - (lg_sl ([.ref (ad 0), .int (nI j1), .int (nI j2)])).length) Slot.unset).toArray = ls at hl ⊢
  have hl : lv_has ls 6 [(0, .ref (ad 0)), (1, .int (nI j1)), (2, .int (nI j2))] := hl
  have CF : CallFix p m c cX5_orders 6 s ([.ref (ad 0), .int (nI j1), .int (nI j2)] : List Value).toArray wsX5_orders RX5 := ⟨hx, hb, hml, hown, hts⟩
  have ht : ∀ w ∈ T0, w.before ([.ref (ad 0), .int (nI j1), .int (nI j2)] : List Value).toArray s = true := fun w h => hts w (List.mem_cons_of_mem _ h)
  generalize hT : M_m_orders σ (nI j1) (nI j2) = T
  refine namedQ (fun Q eQ => ?_)
  have I_33 : ∀ (n i133 : Nat) (z33_3 : Nat) (τ33 : St) (H : Heap) (locs : List Loc) (ls : Array Slot) (V : St), i133 ≤ 10 → 11 ≤ i133 + n → IM τ33 → (∀ k, k < j2 → vp_in (gA τ33 21 k) 12) → z33_3 < 1024 → va_P D vwCl (wM ad kk τ33) H → va_D (aL 23 ad s.heap.size) (wM ad kk τ33) → va_S (aL 23 ad s.heap.size) s.heap H locs → lv_has ls 6 [(0, .ref (ad 0)), (1, .int (nI j1)), (2, .int (nI j2)), (3, .int (nI z33_3)), (4, .int (nI i133))] → M_m_orders_h33 n i133 τ33 j2 z33_3 j1 = V → (∀ (τ33 : St) (H : Heap) (locs : List Loc) (ls : Array Slot), τ33 = V → va_P D vwCl (wM ad kk τ33) H → va_D (aL 23 ad s.heap.size) (wM ad kk τ33) → va_S (aL 23 ad s.heap.size) s.heap H locs → lv_has ls 6 [(0, .ref (ad 0)), (1, .int (nI j1)), (2, .int (nI j2)), (3, .int (nI z33_3))] → W p l e (headSpec wsX5_orders { frames := 2, cells := 0, slots := 0, locals := 51 }).room s m ([.ref (ad 0), .int (nI j1), .int (nI j2)] : List Value).toArray below meth c H locs 0 0 Q (F0 m 121 ls [])) → W p l e (headSpec wsX5_orders { frames := 2, cells := 0, slots := 0, locals := 51 }).room s m ([.ref (ad 0), .int (nI j1), .int (nI j2)] : List Value).toArray below meth c H locs 0 0 Q (F0 m 33 ls []) := by
    intro n
    induction n with
    | zero =>
      intro i133 z33_3 τ33 H locs ls V h_le h_fu hv0 hv1 hv2 hP hD hS hl hT K
      exact absurd h_fu (by omega)
    | succ n ih =>
      intro i133 z33_3 τ33 H locs ls V h_le h_fu hv0 hv1 hv2 hP hD hS hl hT K
      rw [M_m_orders_h33] at hT
      refine lv_iload hx hb dX5_orders_33 (lv_at hl 4 rfl) ?_
      refine lv_iload_n hx hb dX5_orders_35 rfl (lv_at hl 2 rfl) ?_
      refine lv_icmp_ge (tgt := 121) hx hb dX5_orders_36 (by decide) (fun c3 => ?_) (fun c3 => ?_)
      · rw [if_pos c3] at hT
        exact K τ33 H locs ls hT hP hD hS (lv_sub hl [0, 1, 2, 3] rfl)
      · rw [if_neg c3] at hT
        have h_lt := lp_lt (N := 10) (by decide) (by rw [nI_toInt (by omega)]; omega) h_le c3
        have h_ltj := nI_ngt c3 (by omega) (by omega)
        refine lv_iload_n hx hb dX5_orders_39 rfl (lv_at hl 3 rfl) ?_
        refine lv_iload hx hb dX5_orders_40 (lv_at hl 4 rfl) ?_
        refine lv_ishr hx hb dX5_orders_42 ?_
        refine lv_iconst (v := 1) hx hb dX5_orders_43 (by decide) ?_
        refine lv_iand hx hb dX5_orders_44 ?_
        refine jn (α := Int32) (E := (if (((nI z33_3) >>> ((nI i133) &&& 31)) &&& 1) = 0 then (if (gA τ33 22 (z33_3 ||| 2 ^ i133)) = 0 then 0 else (if (M_m_mayCome τ33 (nI j1) (gA τ33 21 i133) (M_m_methodsOf τ33 (nI z33_3) (nI j2))) = 0 then 0 else 1)) else 0)) (Kp := fun y => ∀ (H : Heap) (locs : List Loc), va_P D vwCl (wM ad kk τ33) H → va_D (aL 23 ad s.heap.size) (wM ad kk τ33) → va_S (aL 23 ad s.heap.size) s.heap H locs → W p l e (headSpec wsX5_orders { frames := 2, cells := 0, slots := 0, locals := 51 }).room s m ([.ref (ad 0), .int (nI j1), .int (nI j2)] : List Value).toArray below meth c H locs 0 0 Q (F0 m 88 ls (.int y :: []))) (fun Vy4 hVy4 Ky4 => ?_) (fun y4 hy_y4 => ?_)
        · refine lv_if_ne (tgt := 87) hx hb dX5_orders_45 (by decide) (fun c5 => ?_) (fun c5 => ?_)
          · rw [if_neg c5] at hVy4
            refine lv_iconst (v := 0) hx hb dX5_orders_87 (by decide) ?_
            exact Ky4 0 hVy4 _ _ hP hD hS
          · rw [if_pos c5] at hVy4
            refine lv_aload_n hx hb dX5_orders_48 rfl (lv_at hl 0 rfl) ?_
            refine va_get (D := D) (ci := 5) (v := .ref (ad 22)) (C := RX5) (T := TX5) (N := 27) hx hb ht inX5 hown hK hP 0 g_Md rfl 26 (by decide) (ht _ mw_599) (fun _ h9 => h9) rfl dX5_orders_49 ?_
            refine lv_iload_n hx hb dX5_orders_52 rfl (lv_at hl 3 rfl) ?_
            refine lv_iconst (v := 1) hx hb dX5_orders_53 (by decide) ?_
            refine lv_iload hx hb dX5_orders_54 (lv_at hl 4 rfl) ?_
            refine lv_ishl hx hb dX5_orders_56 ?_
            refine lv_ior hx hb dX5_orders_57 ?_
            refine lv_topE (or_nI (by omega)) ?_
            refine va_zald (i := nI (z33_3 ||| 2 ^ i133)) hx hb hK hP 22 1 g_m_ends rfl (vp_in_nI (or_lt hv2 (by omega)) (by decide)) dX5_orders_58 ?_
            rw [nI_clamp (n := (z33_3 ||| 2 ^ i133)) (Nat.lt_trans (or_lt hv2 (by omega)) (by decide))]
            refine lv_if_eq (tgt := 87) hx hb dX5_orders_59 (by decide) (fun c6 => ?_) (fun c6 => ?_)
            · rw [if_pos c6] at hVy4
              refine lv_iconst (v := 0) hx hb dX5_orders_87 (by decide) ?_
              exact Ky4 0 hVy4 _ _ hP hD hS
            · rw [if_neg c6] at hVy4
              refine lv_aload_n hx hb dX5_orders_62 rfl (lv_at hl 0 rfl) ?_
              refine lv_iload_n hx hb dX5_orders_63 rfl (lv_at hl 1 rfl) ?_
              refine lv_aload_n hx hb dX5_orders_64 rfl (lv_at hl 0 rfl) ?_
              refine va_get (D := D) (ci := 5) (v := .ref (ad 21)) (C := RX5) (T := TX5) (N := 27) hx hb ht inX5 hown hK hP 0 g_Md rfl 25 (by decide) (ht _ mw_598) (fun _ h9 => h9) rfl dX5_orders_65 ?_
              refine lv_iload hx hb dX5_orders_68 (lv_at hl 4 rfl) ?_
              refine va_iald (i := nI i133) hx hb hK hP 21 0 g_m_chosen rfl (vp_in_nI (by omega) (by decide)) dX5_orders_70 ?_
              rw [nI_clamp (n := i133) (by omega)]
              refine lv_aload_n hx hb dX5_orders_71 rfl (lv_at hl 0 rfl) ?_
              refine lv_iload_n hx hb dX5_orders_72 rfl (lv_at hl 3 rfl) ?_
              refine lv_iload_n hx hb dX5_orders_73 rfl (lv_at hl 2 rfl) ?_
              refine kM_r (va_runV (As := [.int (nI z33_3), .int (nI j2)]) (rest := [.int (gA τ33 21 i133), .int (nI j1), .ref (ad 0)]) CF (k_m_methodsOf l D ad kk _ τ33 (nI z33_3) (nI j2) (by rw [nI_toInt (by omega)]; omega)) ⟨callB_of 2 hts (gT mw_790) rfl rfl rfl (ht _ mw_6) (ht _ mw_787) (by decide +kernel) ⟨Nat.le_of_ble_eq_true rfl, Nat.le_of_ble_eq_true rfl⟩, (ht _ mw_789), (ht _ ms_36)⟩ (preV_M hK hP hD hS (ci := 5) rfl rfl g_Md) rfl rfl hl.1 rfl (lv_room (Nat.le_of_ble_eq_true rfl)) dX5_orders_74 ⟨Nat.le_of_ble_eq_true rfl, Nat.le_of_ble_eq_true rfl⟩) hS (fun H locs hP hD hS => ?_)
              refine kM_r (va_runV (As := [.int (nI j1), .int (gA τ33 21 i133), .int (M_m_methodsOf τ33 (nI z33_3) (nI j2))]) (rest := []) CF (k_m_mayCome l D ad kk _ τ33 (nI j1) (gA τ33 21 i133) (M_m_methodsOf τ33 (nI z33_3) (nI j2)) (vp_in_nI (n := j1) (by omega) (by decide)) (hv1 _ h_ltj) hv0) ⟨callB_of 3 hts (gT mw_794) rfl rfl rfl (ht _ mw_6) (ht _ mw_791) (by decide +kernel) ⟨Nat.le_of_ble_eq_true rfl, Nat.le_of_ble_eq_true rfl⟩, (ht _ mw_793), (ht _ ms_37)⟩ (preV_M hK hP hD hS (ci := 5) rfl rfl g_Md) rfl rfl hl.1 rfl (lv_room (Nat.le_of_ble_eq_true rfl)) dX5_orders_77 ⟨Nat.le_of_ble_eq_true rfl, Nat.le_of_ble_eq_true rfl⟩) hS (fun H locs hP hD hS => ?_)
              refine lv_if_eq (tgt := 87) hx hb dX5_orders_80 (by decide) (fun c7 => ?_) (fun c7 => ?_)
              · rw [if_pos c7] at hVy4
                refine lv_iconst (v := 0) hx hb dX5_orders_87 (by decide) ?_
                exact Ky4 0 hVy4 _ _ hP hD hS
              · rw [if_neg c7] at hVy4
                refine lv_iconst (v := 1) hx hb dX5_orders_83 (by decide) ?_
                refine lv_goto (tgt := 88) hx hb dX5_orders_84 (by decide) ?_
                exact Ky4 1 hVy4 _ _ hP hD hS
        · intro H locs hP hD hS
          rw [← hy_y4, vb_eq] at hT
          have b_y4 : y4 = 0 ∨ y4 = 1 := by rw [hy_y4]; (repeat' split) <;> first | exact Or.inl rfl | exact Or.inr rfl
          refine lv_istore (lv' := [(5, .int y4), (0, .ref (ad 0)), (1, .int (nI j1)), (2, .int (nI j2)), (3, .int (nI z33_3)), (4, .int (nI i133))]) hx hb dX5_orders_88 hl (by decide) rfl (fun ls hl => ?_)
          refine lv_aload_n hx hb dX5_orders_90 rfl (lv_at hl 1 rfl) ?_
          refine va_get (D := D) (ci := 5) (v := .ref (ad 22)) (C := RX5) (T := TX5) (N := 27) hx hb ht inX5 hown hK hP 0 g_Md rfl 26 (by decide) (ht _ mw_599) (fun _ h9 => h9) rfl dX5_orders_91 ?_
          refine lv_iload_n hx hb dX5_orders_94 rfl (lv_at hl 4 rfl) ?_
          refine lv_aload_n hx hb dX5_orders_95 rfl (lv_at hl 1 rfl) ?_
          refine va_get (D := D) (ci := 5) (v := .ref (ad 22)) (C := RX5) (T := TX5) (N := 27) hx hb ht inX5 hown hK hP 0 g_Md rfl 26 (by decide) (ht _ mw_599) (fun _ h9 => h9) rfl dX5_orders_96 ?_
          refine lv_iload_n hx hb dX5_orders_99 rfl (lv_at hl 4 rfl) ?_
          refine va_zald (i := nI z33_3) hx hb hK hP 22 1 g_m_ends rfl (vp_in_nI (by omega) (by decide)) dX5_orders_100 ?_
          rw [nI_clamp (n := z33_3) (by omega)]
          refine jn (α := Int32) (E := (if (gA τ33 22 z33_3) = 0 then (if y4 = 0 then 0 else 1) else 1)) (Kp := fun y => ∀ (H : Heap) (locs : List Loc), va_P D vwCl (wM ad kk τ33) H → va_D (aL 23 ad s.heap.size) (wM ad kk τ33) → va_S (aL 23 ad s.heap.size) s.heap H locs → W p l e (headSpec wsX5_orders { frames := 2, cells := 0, slots := 0, locals := 51 }).room s m ([.ref (ad 0), .int (nI j1), .int (nI j2)] : List Value).toArray below meth c H locs 0 0 Q (F0 m 114 ls (.int y :: .int (nI z33_3) :: .ref (ad 22) :: []))) (fun Vy8 hVy8 Ky8 => ?_) (fun y8 hy_y8 => ?_)
          · refine lv_if_ne (tgt := 109) hx hb dX5_orders_101 (by decide) (fun c9 => ?_) (fun c9 => ?_)
            · rw [if_neg c9] at hVy8
              refine lv_iconst (v := 1) hx hb dX5_orders_109 (by decide) ?_
              refine lv_goto (tgt := 114) hx hb dX5_orders_110 (by decide) ?_
              exact Ky8 1 hVy8 _ _ hP hD hS
            · rw [if_pos c9] at hVy8
              refine lv_iload hx hb dX5_orders_104 (lv_at hl 0 rfl) ?_
              refine lv_if_eq (tgt := 113) hx hb dX5_orders_106 (by decide) (fun c10 => ?_) (fun c10 => ?_)
              · rw [if_pos c10] at hVy8
                refine lv_iconst (v := 0) hx hb dX5_orders_113 (by decide) ?_
                exact Ky8 0 hVy8 _ _ hP hD hS
              · rw [if_neg c10] at hVy8
                refine lv_iconst (v := 1) hx hb dX5_orders_109 (by decide) ?_
                refine lv_goto (tgt := 114) hx hb dX5_orders_110 (by decide) ?_
                exact Ky8 1 hVy8 _ _ hP hD hS
          · intro H locs hP hD hS
            rw [← hy_y8, vb_eq] at hT
            have b_y8 : y8 = 0 ∨ y8 = 1 := by rw [hy_y8]; (repeat' split) <;> first | exact Or.inl rfl | exact Or.inr rfl
            refine va_zast (i := nI z33_3) (x := y8) hx hb hK hP hD hS 22 1 g_m_ends rfl (vp_in_nI (by omega) (by decide)) dX5_orders_114 (fun H locs hP hD hS => ?_)
            rw [nI_clamp (n := z33_3) (by omega)] at hP hD
            rw [nz01 b_y8] at hP hD
            rw [s_m_ends] at hP hD
            refine lv_iinc (v := nI (i133 + 1)) (lv' := [(4, .int (nI (i133 + 1))), (5, .int y4), (0, .ref (ad 0)), (1, .int (nI j1)), (2, .int (nI j2)), (3, .int (nI z33_3))]) hx hb dX5_orders_115 hl (k := 5) rfl (nI_1 i133) (by decide) rfl (fun ls hl => ?_)
            refine lv_goto (tgt := 33) hx hb dX5_orders_118 (by decide) ?_
            exact ih  (i133 + 1) z33_3 (sA τ33 22 z33_3 y8) _ _ ls V h_lt (by omega) (IM.k22 hv0 (by assumption)) (fun k hk => by rw [gA_sA, if_neg (fun q => absurd q.1 (by decide))]; exact hv1 k hk) hv2 hP hD hS (lv_sub hl [2, 3, 4, 5, 0] rfl) hT K
  have L_6 : ∀ (i106 : Nat) (τ6 : St) (H : Heap) (locs : List Loc) (ls : Array Slot), i106 ≤ 1024 → (IM τ6) → (∀ k, k < j2 → vp_in (gA τ6 21 k) 12) → va_P D vwCl (wM ad kk τ6) H → va_D (aL 23 ad s.heap.size) (wM ad kk τ6) → va_S (aL 23 ad s.heap.size) s.heap H locs → lv_has ls 6 [(0, .ref (ad 0)), (1, .int (nI j1)), (2, .int (nI j2)), (3, .int (sI i106))] → M_m_orders_h6 i106 τ6 j2 j1 = T → W p l e (headSpec wsX5_orders { frames := 2, cells := 0, slots := 0, locals := 51 }).room s m ([.ref (ad 0), .int (nI j1), .int (nI j2)] : List Value).toArray below meth c H locs 0 0 Q (F0 m 6 ls []) := by
    intro i106
    induction i106 with
    | zero =>
      intro τ6 H locs ls h_le hv0 hv1 hP hD hS hl hT
      rw [M_m_orders_h6] at hT
      refine lv_iload_n hx hb dX5_orders_6 rfl (lv_at hl 3 rfl) ?_
      refine lv_if_lt (tgt := 127) hx hb dX5_orders_7 (by decide) (fun c0 => ?_) (fun c0 => absurd (by decide) c0)
      refine lv_aload_n hx hb dX5_orders_127 rfl (lv_at hl 0 rfl) ?_
      refine va_get (D := D) (ci := 5) (v := .ref (ad 22)) (C := RX5) (T := TX5) (N := 27) hx hb ht inX5 hown hK hP 0 g_Md rfl 26 (by decide) (ht _ mw_599) (fun _ h9 => h9) rfl dX5_orders_128 ?_
      refine lv_iconst (v := 0) hx hb dX5_orders_131 (by decide) ?_
      refine va_zald (i := 0) hx hb hK hP 22 1 g_m_ends rfl (vp_in_nI (n := 0) (by decide) (by decide)) dX5_orders_132 ?_
      rw [eQ]
      exact W.zret (v := gA τ6 22 (0 : Int32).toNatClampNeg) hx hb hr (nb01 (hv0.2.2.2.2.2.2.2 _)) (fun t ht hW => ⟨⟨gA τ6 22 (0 : Int32).toNatClampNeg, τ6, rfl, hT, by rw [ht]; exact hP, va_K.moved hW.alike hK, hD⟩, hS.F ht⟩) hS.2.2 dX5_orders_133
    | succ i106 ih =>
      intro τ6 H locs ls h_le hv0 hv1 hP hD hS hl hT
      rw [sI_succ] at hl
      rw [M_m_orders_h6] at hT
      refine lv_iload_n hx hb dX5_orders_6 rfl (lv_at hl 3 rfl) ?_
      refine lv_if_lt (tgt := 127) hx hb dX5_orders_7 (by decide) (fun c0 => absurd c0 (nI_pos (by omega))) (fun c0 => ?_)
      refine lv_aload_n hx hb dX5_orders_10 rfl (lv_at hl 0 rfl) ?_
      refine va_get (D := D) (ci := 5) (v := .ref (ad 22)) (C := RX5) (T := TX5) (N := 27) hx hb ht inX5 hown hK hP 0 g_Md rfl 26 (by decide) (ht _ mw_599) (fun _ h9 => h9) rfl dX5_orders_11 ?_
      refine lv_iload_n hx hb dX5_orders_14 rfl (lv_at hl 3 rfl) ?_
      refine lv_iload_n hx hb dX5_orders_15 rfl (lv_at hl 3 rfl) ?_
      refine lv_iconst (v := 1) hx hb dX5_orders_16 (by decide) ?_
      refine lv_iload_n hx hb dX5_orders_17 rfl (lv_at hl 2 rfl) ?_
      refine lv_ishl hx hb dX5_orders_18 ?_
      refine lv_topE (pw_1 _ (by omega)) ?_
      refine lv_iconst (v := 1) hx hb dX5_orders_19 (by decide) ?_
      refine lv_isub hx hb dX5_orders_20 ?_
      refine lv_topE (pw_sub _) ?_
      refine jn (α := Int32) (E := (if (nI i106) = (nI (2 ^ j2 - 1)) then 1 else 0)) (Kp := fun y => ∀ (H : Heap) (locs : List Loc), va_P D vwCl (wM ad kk τ6) H → va_D (aL 23 ad s.heap.size) (wM ad kk τ6) → va_S (aL 23 ad s.heap.size) s.heap H locs → W p l e (headSpec wsX5_orders { frames := 2, cells := 0, slots := 0, locals := 51 }).room s m ([.ref (ad 0), .int (nI j1), .int (nI j2)] : List Value).toArray below meth c H locs 0 0 Q (F0 m 29 ls (.int y :: .int (nI i106) :: .ref (ad 22) :: []))) (fun Vy1 hVy1 Ky1 => ?_) (fun y1 hy_y1 => ?_)
      · refine lv_icmp_ne (tgt := 28) hx hb dX5_orders_21 (by decide) (fun c2 => ?_) (fun c2 => ?_)
        · rw [if_neg c2] at hVy1
          refine lv_iconst (v := 0) hx hb dX5_orders_28 (by decide) ?_
          exact Ky1 0 hVy1 _ _ hP hD hS
        · rw [if_pos c2] at hVy1
          refine lv_iconst (v := 1) hx hb dX5_orders_24 (by decide) ?_
          refine lv_goto (tgt := 29) hx hb dX5_orders_25 (by decide) ?_
          exact Ky1 1 hVy1 _ _ hP hD hS
      · intro H locs hP hD hS
        rw [← hy_y1, vb_eq] at hT
        have b_y1 : y1 = 0 ∨ y1 = 1 := by rw [hy_y1]; (repeat' split) <;> first | exact Or.inl rfl | exact Or.inr rfl
        refine va_zast (i := nI i106) (x := y1) hx hb hK hP hD hS 22 1 g_m_ends rfl (vp_in_nI (by omega) (by decide)) dX5_orders_29 (fun H locs hP hD hS => ?_)
        rw [nI_clamp (n := i106) (by omega)] at hP hD
        rw [nz01 b_y1] at hP hD
        rw [s_m_ends] at hP hD
        refine lv_iconst (v := 0) hx hb dX5_orders_30 (by decide) ?_
        refine lv_istore (lv' := [(4, .int 0), (0, .ref (ad 0)), (1, .int (nI j1)), (2, .int (nI j2)), (3, .int (nI i106))]) hx hb dX5_orders_31 hl (by decide) rfl (fun ls hl => ?_)
        refine I_33 11 0 i106 (sA τ6 22 i106 y1) _ _ ls _ (Nat.zero_le _) (by decide) (IM.k22 hv0 (by assumption)) hv1 (by omega) hP hD hS (lv_sub hl [1, 2, 3, 4, 0] rfl) rfl (fun σ3 H locs ls hTi hP hD hS hl => ?_)
        rw [← hTi, vb_eq] at hT
        have hk9 := ord_keep hTi (IM.k22 hv0 (by assumption))
        have hI9 := hk9.1
        have hc9 : ∀ k, k < j2 → vp_in (gA σ3 21 k) 12 := fun k hk => by rw [hk9.2, gA_sA, if_neg (fun q => absurd q.1 (by decide))]; exact hv1 k hk
        refine lv_iinc (v := sI i106) (lv' := [(3, .int (sI i106)), (0, .ref (ad 0)), (1, .int (nI j1)), (2, .int (nI j2))]) hx hb dX5_orders_121 hl (k := 3) rfl (sI_dec i106) (by decide) rfl (fun ls hl => ?_)
        refine lv_goto (tgt := 6) hx hb dX5_orders_124 (by decide) ?_
        have hl := lv_sub (l' := [(0, .ref (ad 0)), (1, .int (nI j1)), (2, .int (nI j2)), (3, .int (sI i106))]) hl [1, 2, 3, 0] rfl
        exact ih σ3 _ _ ls (by omega) hI9 hc9 hP hD hS hl hT
  rw [M_m_orders, nI_clamp (n := j1) (by omega), nI_clamp (n := j2) (by omega), N_m_orders] at hT
  refine lv_iconst (v := 1) hx hb dX5_orders_0 (by decide) ?_
  refine lv_iload_n hx hb dX5_orders_1 rfl (lv_at hl 2 rfl) ?_
  refine lv_ishl hx hb dX5_orders_2 ?_
  refine lv_topE (pw_1 _ (by omega)) ?_
  refine lv_iconst (v := 1) hx hb dX5_orders_3 (by decide) ?_
  refine lv_isub hx hb dX5_orders_4 ?_
  refine lv_topE (pw_sub _) ?_
  refine lv_istore_n (lv' := [(3, .int (nI (2 ^ j2 - 1))), (0, .ref (ad 0)), (1, .int (nI j1)), (2, .int (nI j2))]) hx hb dX5_orders_5 rfl hl (by decide) rfl (fun ls hl => ?_)
  have hl : lv_has ls 6 [(0, .ref (ad 0)), (1, .int (nI j1)), (2, .int (nI j2)), (3, .int (sI (2 ^ j2)))] := by rw [pw_sI]; exact lv_sub hl [1, 2, 3, 0] rfl
  exact L_6 (2 ^ j2) σ _ _ ls (pw_le (by omega)) hI (by rw [nI_clamp (by omega)] at hc; exact hc) hP hD hS hl hT

theorem gk_0 {pl ad : Nat → Nat} : gk pl ad 0 = fun _ => none := by
  funext j; unfold gk; rw [if_neg (by omega)]
theorem cS_P {F : List Value} {kI kM kP kP' kG : ClassId} {gm gp gp' gg : Nat → Option Nat} {ad : Nat → Nat} {i : Nat} (h : i ≠ 40) : cS F kI kM kP kG gm gp gg ad i = cS F kI kM kP' kG gm gp' gg ad i := by
  unfold cS; rw [if_neg h, if_neg h]
theorem cS_G {F : List Value} {kI kM kP kG kG' : ClassId} {gm gp gg gg' : Nat → Option Nat} {ad : Nat → Nat} {i : Nat} (h : i ≠ 81) : cS F kI kM kP kG gm gp gg ad i = cS F kI kM kP kG' gm gp gg' ad i := by
  unfold cS; rw [if_neg h, if_neg h]
theorem cS_F {F F' : List Value} {kI kM kP kG : ClassId} {gm gp gg : Nat → Option Nat} {ad : Nat → Nat} {n h0 : Nat} (hn : 0 < n) (ha : ad 0 = h0) : (wL n ad (cS F kI kM kP kG gm gp gg ad)).set 0 (h0, .inr (4, F')) = wL n ad (cS F' kI kM kP kG gm gp gg ad) := by
  rw [← ha]
  refine wL_set hn rfl (fun j hj hne => ?_)
  unfold cS; rw [if_neg hne, if_neg hne]
theorem wL_D {A : Nat → Prop} {n : Nat} {ad : Nat → Nat} {ct ct' : Nat → va_E} (h : va_D A (wL n ad ct)) : va_D A (wL n ad ct') :=
  ⟨fun i j p q hp hq e => by
    obtain ⟨h1, rfl⟩ := wL_of hp
    obtain ⟨h2, rfl⟩ := wL_of hq
    exact h.1 i j _ _ (wL_get h1) (wL_get h2) e, fun k q hq => by
    obtain ⟨h1, rfl⟩ := wL_of hq
    exact h.2 k (ad k, ct k) (wL_get h1)⟩
theorem vp_ref_congr {cA : ClassId} {n : Nat} {f g : Nat → Option Nat} (h : ∀ j, j < n → f j = g j) : vp_cell cA (n, rfA f) = vp_cell cA (n, rfA g) := by
  show arrV cA n (fun j => va_rf (f j)) = arrV cA n (fun j => va_rf (g j))
  unfold arrV
  congr 1
  congr 1
  funext j
  show va_rf (f j.val) = va_rf (g j.val)
  rw [h j.val j.isLt]
theorem ctB_kk {ad : Nat → Nat} {kk kk' : Nat → ClassId} {σ : St} {i : Nat} (h0 : kk 0 = kk' 0) (h1 : kdB i ≠ 3) (h2 : kdB i ≠ 6) (h3 : kdB i ≠ 10) : ctB ad kk σ i = ctB ad kk' σ i := by
  unfold ctB
  generalize kdB i = q at h1 h2 h3
  split <;> first | rfl | (rw [h0]) | (exact absurd rfl h1) | (exact absurd rfl h2) | (exact absurd rfl h3)
theorem kd_not0 : ∀ i, i < 96 → (i = 0 ∨ i = 3 ∨ i = 40 ∨ i = 81) ∨ (kdB i ≠ 3 ∧ kdB i ≠ 6 ∧ kdB i ≠ 10) := by decide +kernel
theorem kd_not (i : Nat) (hi : i < 96) (h0 : i ≠ 0) (h3 : i ≠ 3) (h4 : i ≠ 40) (h8 : i ≠ 81) : kdB i ≠ 3 ∧ kdB i ≠ 6 ∧ kdB i ≠ 10 := by
  rcases kd_not0 i hi with (h | h | h | h) | h
  · exact absurd h h0
  · exact absurd h h3
  · exact absurd h h4
  · exact absurd h h8
  · exact h
/-- the world when all is made is the component's, in its first state -/
theorem ct_all {D : va_G} {H : Heap} {kI kM kP kG : ClassId} {gm gp gg : Nat → Option Nat} {ad : Nat → Nat} (hP : va_P D vwCl (wL 96 ad (cS [.ref (ad 1), .ref (ad 3), .ref (ad 40), .ref (ad 81), .ref (ad 94), .ref (ad 95), .int 0, .int 0, .int 0] kI kM kP kG gm gp gg ad)) H) (hm : ∀ j, j < 12 → gm j = some (ad (pMe j))) (hp : ∀ j, j < 10 → gp j = some (ad (pPi j))) (hg : ∀ j, j < 12 → gg j = some (ad (pGo j))) : va_P D vwCl (wB ad (fun j => if j = 0 then kI else if j = 1 then kM else if j = 2 then kP else kG) σ0) H := by
  intro k q hq
  obtain ⟨hk, rfl⟩ := wL_of hq
  have old := hP k _ (wL_get hk)
  by_cases e0 : k = 0
  · subst e0; exact old
  by_cases e3 : k = 3
  · subst e3
    have o2 : H[ad 3]? = some (vp_cell kM (12, rfA gm)) := old
    rw [vp_ref_congr hm] at o2
    exact o2
  by_cases e4 : k = 40
  · subst e4
    have o2 : H[ad 40]? = some (vp_cell kP (10, rfA gp)) := old
    rw [vp_ref_congr hp] at o2
    exact o2
  by_cases e8 : k = 81
  · subst e8
    have o2 : H[ad 81]? = some (vp_cell kG (12, rfA gg)) := old
    rw [vp_ref_congr hg] at o2
    exact o2
  unfold cS at old
  rw [if_neg e0, if_neg e3, if_neg e4, if_neg e8] at old
  obtain ⟨h1, h2, h3⟩ := kd_not k hk e0 e3 e4 e8
  rw [ctB_kk (kk' := fun _ => kI) rfl h1 h2 h3]
  exact old

abbrev w0B (h0 : Nat) : va_W := [(h0, .inr (4, [.null, .null, .null, .null, .null, .null, .int 0, .int 0, .int 0]))]
set_option maxHeartbeats 4000000 in
set_option maxRecDepth 100000 in
/-- MaterialBars(): 95 cells come; the component in its first state -/
theorem k_MB_init (l : Launch) (D : va_G) (h0 sz : Nat) : Met l yX4_init wsX4_init ctRm (va_Pc [.ref h0] (fun U => U.heap.size = sz ∧ va_P D vwCl (w0B h0) U.heap ∧ va_K D vwCl [] U ∧ va_D (fun _ => True) (w0B h0) ∧ En U)) (va_Qv (fun u : (Nat → Nat) × (Nat → ClassId) => u.1 0 = h0) (fun u t => va_P D vwCl (wB u.1 u.2 σ0) t.heap ∧ va_K D vwCl (tyB u.2) t ∧ va_D (va_A (w0B h0) sz) (wB u.1 u.2 σ0)) (va_A (w0B h0) sz)) 95 2043 (va_A (w0B h0) sz) := by
  refine Met.ofW (cc := cX4_init) (maxL := 2) (ret := none) (by decide) rfl ?_
  intro p e s m args below meth c s₁ B hml hv
  obtain ⟨rfl, hsz, hP, hK, hD0, hE⟩ := hv
  have hx := B.exec
  have hb := B.bytes
  have hr := B.returns
  have hts := atoms_spec (ws := wsX4_init) B.pre
  have hown : s.vm.findClass RX4 = some m.cls := findClass_of_methodNamed B.named
  have hlocks := B.notSynchronized
  have hin : meth.name = "<init>" := (name_of_methodNamed B.named B.method).1
  subst hsz
  have hD := hD0.self (sz := s.heap.size)
  generalize hAe : va_A (w0B h0) s.heap.size = A at hD ⊢
  have hA : ∀ q : Nat, s.heap.size ≤ q → A q := fun q h => by rw [← hAe]; exact Or.inr h
  have hS : va_S A s.heap s.heap [] := va_S.rf
  have CC : CtC p s m meth c h0 := ⟨hx, hb, hr, hml, hown, hts, hin, hlocks, hE⟩
  have ht : ∀ w ∈ T0, w.before ([.ref h0] : List Value).toArray s = true := fun w h => hts w (List.mem_cons_of_mem _ h)
  have CF : CallFix p m c cX4_init 2 s ([.ref h0] : List Value).toArray wsX4_init RX4 := ⟨hx, hb, hml, hown, hts⟩
  have hl := lv_entry ([.ref h0]) (n := 2) (Nat.le_of_ble_eq_true rfl)
  rw [lg_entry_eq]
  generalize (lg_sl ([.ref h0]) ++ List.replicate (2 - (lg_sl ([.ref h0])).length) Slot.unset).toArray = ls at hl ⊢
  have hl : lv_has ls 2 [(0, .ref h0)] := hl
  refine lv_aload_n hx hb dX4_init_0 rfl (lv_at hl 0 rfl) ?_
  refine W.objInit hx hb hown (ht _ mw_21) (ht _ mw_22) (ht _ mw_23) rfl (by rw [hml]; exact hl.1) rfl dX4_init_1 (Nat.le_of_ble_eq_true rfl) (Nat.le_of_ble_eq_true rfl) ?_
  refine W.eq (g2 := F0 m 4 ls []) rfl ?_
  refine lv_aload_n hx hb dX4_init_4 rfl (lv_at hl 0 rfl) ?_
  refine va_new (ci := 2) (fs := [.null, .int 0, .int 0]) (C := RX2) (T := TX2) (N := 3) hx hb ht inX2 tyX2 tyX2_ok hown (ht _ mw_24) (ht _ mw_25) (ht _ mw_2) hK hP hD hS hA rfl (fun j hj => by match j, hj with | 0, _ => rfl | 1, _ => rfl | 2, _ => rfl | j + 3, h => exact absurd h (by omega)) (Nat.le_of_ble_eq_true rfl) (Nat.le_of_ble_eq_true rfl) dX4_init_5 (fun q1 H hP hD hS => ?_)
  refine lv_dup hx hb dX4_init_8 rfl ?_
  have hFc := freeR hD hS hA
  refine va_callv (va_runIN (As := []) (rest := [.ref q1, .ref h0]) CF (k_Pad_init l D q1 H.size) ⟨va_cnB (host := "MaterialBars") 0 hts (gT mw_28) rfl rfl rfl (hE.1 ("MaterialBars", 9, yX2_init, "MaterialBars") (by decide +kernel)) (ht _ mw_2) (by decide +kernel) ⟨Nat.le_of_ble_eq_true rfl, Nat.le_of_ble_eq_true rfl⟩, rfl, (ht _ mw_27)⟩ ⟨fun a U g mk q => by obtain ⟨z0, z1, zP, zK, zD⟩ := q; exact ⟨z0, z1, zP, va_K.moved (u := U) (U := U.calling g mk a) (Vm.Alike.refl U.vm) zK, zD⟩, fun U hU hW => ⟨rfl, by rw [hU], by rw [hU]; exact subR hP, va_K.moved hW.alike (hK.sub (tys' := []) [] rfl), (subRD hD).weaken (fun _ _ _ _ => trivial)⟩⟩ rfl rfl hl.1 rfl (lv_room (Nat.le_of_ble_eq_true rfl)) dX4_init_9 ⟨Nat.le_of_ble_eq_true rfl, Nat.le_of_ble_eq_true rfl⟩) hS (fun q _ h => hFc q h) hFc (fun u t H1 locs ht1 hvm hw hB hz1 hk1 hS => ?_)
  obtain ⟨hP1, hK1, hD1⟩ := hB
  rw [ht1] at hP1
  have hK := va_K.moved hvm.symm hK1
  obtain ⟨hP, hD⟩ := join_R hP hD (fun q h => h) hFc hk1 hP1 hD1
  clear hFc
  generalize hkI : u.2 0 = kI at hP hD hK
  generalize hq2 : u.1 0 = q2 at hP hD
  refine va_putF (D := D) (ci := 4) (v := .ref q1) (ty := .object "MaterialBars$Pad") (C := RX4) (T := TX4) (N := 9) hx hb ht inX4 tyX4 tyX4_ok nmX4 hown hK hP hD hS 0 rfl rfl 0 (by decide) (ht _ mw_159) (fun _ h9 => h9) rfl hin rfl (by decide +kernel) rfl rfl (Nat.le_of_ble_eq_true rfl) dX4_init_12 (fun H locs hP hD hS => ?_)
  refine lv_aload_n hx hb dX4_init_15 rfl (lv_at hl 0 rfl) ?_
  refine lv_bipush (v := 12) hx hb dX4_init_16 (by decide) ?_
  refine va_newq (C := "MaterialBars$Method") (N' := 12) hx hb hown (ht _ mw_44) hE.2.1 hK hP hD hS hA (by decide) (by decide) (by decide) (Nat.le_of_ble_eq_true rfl) (Nat.le_of_ble_eq_true rfl) dX4_init_18 (fun q3 kM H hK hP hD hS => ?_)
  refine va_putF (D := D) (ci := 4) (v := .ref q3) (ty := .array (.object "MaterialBars$Method")) (C := RX4) (T := TX4) (N := 9) hx hb ht inX4 tyX4 tyX4_ok nmX4 hown hK hP hD hS 0 rfl rfl 1 (by decide) (ht _ mw_160) (fun _ h9 => h9) rfl hin rfl (by decide +kernel) rfl rfl (Nat.le_of_ble_eq_true rfl) dX4_init_21 (fun H locs hP hD hS => ?_)
  refine lv_iconst (v := 0) hx hb dX4_init_24 (by decide) ?_
  refine lv_istore_n (lv' := [(1, .int 0), (0, .ref h0)]) hx hb dX4_init_25 rfl hl (by decide) rfl (fun ls hl => ?_)
  obtain ⟨ad4, had⟩ : ∃ f : Nat → Nat, f = fun i => match i with | 0 => h0 | 1 => q1 | 2 => q2 | _ => q3 := ⟨_, rfl⟩
  have hw4 : [(h0, .inr (4, [.ref q1, .ref q3, .null, .null, .null, .null, .int 0, .int 0, .int 0])), (q1, .inr (2, [.ref q2, .int 0, .int 0])), (q2, .inl (kI, 50, .inl (fun _ => 0))), (q3, .inl (kM, 12, rfA (fun _ => none)))] = wL (4 + 3 * 0) ad4 (cS [.ref q1, .ref q3, .null, .null, .null, .null, .int 0, .int 0, .int 0] kI kM kM kM (gk pMe ad4 0) (fun _ => none) (fun _ => none) ad4) := by rw [gk_0, had]; rfl
  have hP : va_P D vwCl (wL (4 + 3 * 0) ad4 (cS [.ref q1, .ref q3, .null, .null, .null, .null, .int 0, .int 0, .int 0] kI kM kM kM (gk pMe ad4 0) (fun _ => none) (fun _ => none) ad4)) H := by rw [← hw4]; exact hP
  have hD : va_D A (wL (4 + 3 * 0) ad4 (cS [.ref q1, .ref q3, .null, .null, .null, .null, .int 0, .int 0, .int 0] kI kM kM kM (gk pMe ad4 0) (fun _ => none) (fun _ => none) ad4)) := by rw [← hw4]; exact hD
  refine W.widen (k := 3 + 3 * 0) (n := 65 + 33 * 0) (by decide) (by decide) ?_
  refine cl_Me (gm := fun _ => none) (ad0 := ad4) CC hA hK rfl rfl rfl ?_ 13 0 ad4 H locs ls (by decide) (by decide) (congrFun had 0) (congrFun had 3) (fun _ _ => rfl) hP hD hS (lv_sub hl [1, 0] rfl)
  intro ad5 H locs ls ha0 hag hP hD hS hl
  have b1 : ad5 1 = q1 := by rw [hag 1 (by decide)]; exact congrFun had 1
  have b3 : ad5 3 = q3 := by rw [hag 3 (by decide)]; exact congrFun had 3
  generalize hgm : gk pMe ad5 12 = gm at hP hD
  refine lv_aload_n hx hb dX4_init_51 rfl (lv_at hl 0 rfl) ?_
  refine lv_bipush (v := 10) hx hb dX4_init_52 (by decide) ?_
  refine va_newq (C := "MaterialBars$Piece") (N' := 10) hx hb hown (ht _ mw_93) hE.2.2.1 hK hP hD hS hA (by decide) (by decide) (by decide) (Nat.le_of_ble_eq_true rfl) (Nat.le_of_ble_eq_true rfl) dX4_init_54 (fun q40 kP H hK hP hD hS => ?_)
  have hw41 : wL 40 ad5 (cS [.ref q1, .ref q3, .null, .null, .null, .null, .int 0, .int 0, .int 0] kI kM kM kM gm (fun _ => none) (fun _ => none) ad5) ++ [(q40, .inl (kP, 10, rfA (fun _ => none)))] = wL (40 + 1) (ax ad5 40 q40 0 0 0) (cS [.ref q1, .ref q3, .null, .null, .null, .null, .int 0, .int 0, .int 0] kI kM kP kM gm (fun _ => none) (fun _ => none) (ax ad5 40 q40 0 0 0)) :=
    wL_ext (fun i hi => ⟨ax_lt hi, by rw [cS_P (kP' := kM) (gp' := fun _ => none) (by omega)]; exact cS_keep (ok_Me 12 (by decide)) (by decide) (fun j hj => ax_lt hj) i hi⟩) rfl (fun j hj => by match j, hj with | 0, _ => rw [show ax ad5 40 q40 0 0 0 (40 + 0) = q40 from ax_0]; rfl | j + 1, h => exact absurd h (by omega))
  rw [hw41] at hP hD
  generalize had6 : ax ad5 40 q40 0 0 0 = ad6 at hP hD
  have c6 : ∀ i, i < 40 → ad6 i = ad5 i := fun i hi => by rw [← had6]; exact ax_lt hi
  have b40 : ad6 40 = q40 := by rw [← had6]; exact ax_0
  have ha6 : ad6 0 = h0 := by rw [c6 0 (by decide), ha0]
  refine va_putF (D := D) (ci := 4) (v := .ref q40) (ty := .array (.object "MaterialBars$Piece")) (C := RX4) (T := TX4) (N := 9) hx hb ht inX4 tyX4 tyX4_ok nmX4 hown hK hP hD hS 0 (show _ = some (h0, Sum.inr (4, [.ref q1, .ref q3, .null, .null, .null, .null, .int 0, .int 0, .int 0])) by rw [wL_get (by decide), ha6]; rfl) rfl 2 (by decide) (ht _ mw_161) (fun _ h9 => h9) rfl hin rfl (by decide +kernel) rfl rfl (Nat.le_of_ble_eq_true rfl) dX4_init_57 (fun H locs hP hD hS => ?_)
  have hf6 := cS_F (F := [.ref q1, .ref q3, .null, .null, .null, .null, .int 0, .int 0, .int 0]) (F' := [.ref q1, .ref q3, .ref q40, .null, .null, .null, .int 0, .int 0, .int 0]) (kI := kI) (kM := kM) (kP := kP) (kG := kM) (gm := gm) (gp := fun _ => none) (gg := fun _ => none) (n := 40 + 1) (by decide) ha6
  have hP : va_P D vwCl (wL (41 + 4 * 0) ad6 (cS [.ref q1, .ref q3, .ref q40, .null, .null, .null, .int 0, .int 0, .int 0] kI kM kP kM gm (gk pPi ad6 0) (fun _ => none) ad6)) H := by rw [gk_0]; rw [← hf6]; exact hP
  have hD : va_D A (wL (41 + 4 * 0) ad6 (cS [.ref q1, .ref q3, .ref q40, .null, .null, .null, .int 0, .int 0, .int 0] kI kM kP kM gm (gk pPi ad6 0) (fun _ => none) ad6)) := by rw [gk_0]; rw [← hf6]; exact hD
  refine lv_iconst (v := 0) hx hb dX4_init_60 (by decide) ?_
  refine lv_istore_n (lv' := [(1, .int 0), (0, .ref h0)]) hx hb dX4_init_61 rfl hl (by decide) rfl (fun ls hl => ?_)
  refine W.widen (k := 40 + 4 * 0) (n := 471 + 148 * 0) (by decide) (by decide) ?_
  refine cl_Pi (gp := fun _ => none) (ad0 := ad6) CC hA hK rfl rfl rfl ?_ 11 0 ad6 H locs ls (by decide) (by decide) ha6 b40 (fun _ _ => rfl) hP hD hS (lv_sub hl [1, 0] rfl)
  intro ad7 H locs ls ha7 hag7 hP hD hS hl
  generalize hgp : gk pPi ad7 10 = gp at hP hD
  refine lv_aload_n hx hb dX4_init_87 rfl (lv_at hl 0 rfl) ?_
  refine lv_bipush (v := 12) hx hb dX4_init_88 (by decide) ?_
  refine va_newq (C := "MaterialBars$Good") (N' := 12) hx hb hown (ht _ mw_132) hE.2.2.2 hK hP hD hS hA (by decide) (by decide) (by decide) (Nat.le_of_ble_eq_true rfl) (Nat.le_of_ble_eq_true rfl) dX4_init_90 (fun q81 kG H hK hP hD hS => ?_)
  have hw82 : wL 81 ad7 (cS [.ref q1, .ref q3, .ref q40, .null, .null, .null, .int 0, .int 0, .int 0] kI kM kP kM gm gp (fun _ => none) ad7) ++ [(q81, .inl (kG, 12, rfA (fun _ => none)))] = wL (81 + 1) (ax ad7 81 q81 0 0 0) (cS [.ref q1, .ref q3, .ref q40, .null, .null, .null, .int 0, .int 0, .int 0] kI kM kP kG gm gp (fun _ => none) (ax ad7 81 q81 0 0 0)) :=
    wL_ext (fun i hi => ⟨ax_lt hi, by rw [cS_G (kG' := kM) (gg' := fun _ => none) (by omega)]; exact cS_keep (ok_Pi 10 (by decide)) (by decide) (fun j hj => ax_lt hj) i hi⟩) rfl (fun j hj => by match j, hj with | 0, _ => rw [show ax ad7 81 q81 0 0 0 (81 + 0) = q81 from ax_0]; rfl | j + 1, h => exact absurd h (by omega))
  rw [hw82] at hP hD
  generalize had8 : ax ad7 81 q81 0 0 0 = ad8 at hP hD
  have c8 : ∀ i, i < 81 → ad8 i = ad7 i := fun i hi => by rw [← had8]; exact ax_lt hi
  have b81 : ad8 81 = q81 := by rw [← had8]; exact ax_0
  have ha8 : ad8 0 = h0 := by rw [c8 0 (by decide), ha7]
  refine va_putF (D := D) (ci := 4) (v := .ref q81) (ty := .array (.object "MaterialBars$Good")) (C := RX4) (T := TX4) (N := 9) hx hb ht inX4 tyX4 tyX4_ok nmX4 hown hK hP hD hS 0 (show _ = some (h0, Sum.inr (4, [.ref q1, .ref q3, .ref q40, .null, .null, .null, .int 0, .int 0, .int 0])) by rw [wL_get (by decide), ha8]; rfl) rfl 3 (by decide) (ht _ mw_162) (fun _ h9 => h9) rfl hin rfl (by decide +kernel) rfl rfl (Nat.le_of_ble_eq_true rfl) dX4_init_93 (fun H locs hP hD hS => ?_)
  have hf8 := cS_F (F := [.ref q1, .ref q3, .ref q40, .null, .null, .null, .int 0, .int 0, .int 0]) (F' := [.ref q1, .ref q3, .ref q40, .ref q81, .null, .null, .int 0, .int 0, .int 0]) (kI := kI) (kM := kM) (kP := kP) (kG := kG) (gm := gm) (gp := gp) (gg := fun _ => none) (n := 81 + 1) (by decide) ha8
  have hP : va_P D vwCl (wL (82 + 0) ad8 (cS [.ref q1, .ref q3, .ref q40, .ref q81, .null, .null, .int 0, .int 0, .int 0] kI kM kP kG gm gp (gk pGo ad8 0) ad8)) H := by rw [gk_0]; rw [← hf8]; exact hP
  have hD : va_D A (wL (82 + 0) ad8 (cS [.ref q1, .ref q3, .ref q40, .ref q81, .null, .null, .int 0, .int 0, .int 0] kI kM kP kG gm gp (gk pGo ad8 0) ad8)) := by rw [gk_0]; rw [← hf8]; exact hD
  refine lv_iconst (v := 0) hx hb dX4_init_96 (by decide) ?_
  refine lv_istore_n (lv' := [(1, .int 0), (0, .ref h0)]) hx hb dX4_init_97 rfl hl (by decide) rfl (fun ls hl => ?_)
  refine W.widen (k := 81 + 1 * 0) (n := 1963 + 5 * 0) (by decide) (by decide) ?_
  refine cl_Go (gg := fun _ => none) (ad0 := ad8) CC hA hK rfl rfl rfl ?_ 13 0 ad8 H locs ls (by decide) (by decide) ha8 b81 (fun _ _ => rfl) hP hD hS (lv_sub hl [1, 0] rfl)
  intro ad9 H locs ls ha9 hag9 hP hD hS hl
  generalize hgg : gk pGo ad9 12 = gg at hP hD
  refine lv_aload_n hx hb dX4_init_123 rfl (lv_at hl 0 rfl) ?_
  refine lv_bipush (v := 10) hx hb dX4_init_124 (by decide) ?_
  refine va_newa (atype := .int) (ty := .int) (N' := 10) (a0 := (10, .inl (fun _ => 0))) hx hb (ht _ mw_43) rfl hK hP hD hS hA (fun _ => rfl) (by decide) (by decide) (by decide) (Nat.le_of_ble_eq_true rfl) (Nat.le_of_ble_eq_true rfl) dX4_init_126 (fun q94 kz94 H hK hP hD hS => ?_)
  have ez94 : kz94 = kI := kI_eq hK hK (i := 4) (j := 0) rfl rfl
  have hw94 : wL 94 ad9 (cS [.ref q1, .ref q3, .ref q40, .ref q81, .null, .null, .int 0, .int 0, .int 0] kI kM kP kG gm gp gg ad9) ++ [(q94, .inl (kz94, 10, .inl (fun _ => 0)))] = wL (94 + 1) (ax ad9 94 q94 0 0 0) (cS [.ref q1, .ref q3, .ref q40, .ref q81, .null, .null, .int 0, .int 0, .int 0] kI kM kP kG gm gp gg (ax ad9 94 q94 0 0 0)) :=
    wL_ext (fun i hi => ⟨ax_lt hi, cS_keep (ok_Go 12 (by decide)) (by decide) (fun j hj => ax_lt hj) i hi⟩) rfl (fun j hj => by match j, hj with | 0, _ => rw [show ax ad9 94 q94 0 0 0 (94 + 0) = q94 from ax_0, ez94]; rfl | j + 1, h => exact absurd h (by omega))
  rw [hw94] at hP hD
  generalize had94 : ax ad9 94 q94 0 0 0 = ad94 at hP hD
  have c94 : ∀ i, i < 94 → ad94 i = ad9 i := fun i hi => by rw [← had94]; exact ax_lt hi
  have b94 : ad94 94 = q94 := by rw [← had94]; exact ax_0
  have ha94 : ad94 0 = h0 := by rw [c94 0 (by decide), ha9]
  refine va_putF (D := D) (ci := 4) (v := .ref q94) (ty := .array .int) (C := RX4) (T := TX4) (N := 9) hx hb ht inX4 tyX4 tyX4_ok nmX4 hown hK hP hD hS 0 (show _ = some (h0, Sum.inr (4, [.ref q1, .ref q3, .ref q40, .ref q81, .null, .null, .int 0, .int 0, .int 0])) by rw [wL_get (by decide), ha94]; rfl) rfl 4 (by decide) (ht _ mw_163) (fun _ h9 => h9) rfl hin rfl (by decide +kernel) rfl rfl (Nat.le_of_ble_eq_true rfl) dX4_init_128 (fun H locs hP hD hS => ?_)
  have hf94 := cS_F (F := [.ref q1, .ref q3, .ref q40, .ref q81, .null, .null, .int 0, .int 0, .int 0]) (F' := [.ref q1, .ref q3, .ref q40, .ref q81, .ref q94, .null, .int 0, .int 0, .int 0]) (kI := kI) (kM := kM) (kP := kP) (kG := kG) (gm := gm) (gp := gp) (gg := gg) (n := 94 + 1) (by decide) ha94
  have hP : va_P D vwCl (wL 95 ad94 (cS [.ref q1, .ref q3, .ref q40, .ref q81, .ref q94, .null, .int 0, .int 0, .int 0] kI kM kP kG gm gp gg ad94)) H := by rw [← hf94]; exact hP
  have hD : va_D A (wL 95 ad94 (cS [.ref q1, .ref q3, .ref q40, .ref q81, .ref q94, .null, .int 0, .int 0, .int 0] kI kM kP kG gm gp gg ad94)) := by rw [← hf94]; exact hD
  refine lv_aload_n hx hb dX4_init_131 rfl (lv_at hl 0 rfl) ?_
  refine lv_bipush (v := 10) hx hb dX4_init_132 (by decide) ?_
  refine va_newa (atype := .int) (ty := .int) (N' := 10) (a0 := (10, .inl (fun _ => 0))) hx hb (ht _ mw_43) rfl hK hP hD hS hA (fun _ => rfl) (by decide) (by decide) (by decide) (Nat.le_of_ble_eq_true rfl) (Nat.le_of_ble_eq_true rfl) dX4_init_134 (fun q95 kz95 H hK hP hD hS => ?_)
  have ez95 : kz95 = kI := kI_eq hK hK (i := 5) (j := 0) rfl rfl
  have hw95 : wL 95 ad94 (cS [.ref q1, .ref q3, .ref q40, .ref q81, .ref q94, .null, .int 0, .int 0, .int 0] kI kM kP kG gm gp gg ad94) ++ [(q95, .inl (kz95, 10, .inl (fun _ => 0)))] = wL (95 + 1) (ax ad94 95 q95 0 0 0) (cS [.ref q1, .ref q3, .ref q40, .ref q81, .ref q94, .null, .int 0, .int 0, .int 0] kI kM kP kG gm gp gg (ax ad94 95 q95 0 0 0)) :=
    wL_ext (fun i hi => ⟨ax_lt hi, cS_keep (by decide +kernel) (by decide) (fun j hj => ax_lt hj) i hi⟩) rfl (fun j hj => by match j, hj with | 0, _ => rw [show ax ad94 95 q95 0 0 0 (95 + 0) = q95 from ax_0, ez95]; rfl | j + 1, h => exact absurd h (by omega))
  rw [hw95] at hP hD
  generalize had95 : ax ad94 95 q95 0 0 0 = ad95 at hP hD
  have c95 : ∀ i, i < 95 → ad95 i = ad94 i := fun i hi => by rw [← had95]; exact ax_lt hi
  have b95 : ad95 95 = q95 := by rw [← had95]; exact ax_0
  have ha95 : ad95 0 = h0 := by rw [c95 0 (by decide), ha94]
  refine va_putF (D := D) (ci := 4) (v := .ref q95) (ty := .array .int) (C := RX4) (T := TX4) (N := 9) hx hb ht inX4 tyX4 tyX4_ok nmX4 hown hK hP hD hS 0 (show _ = some (h0, Sum.inr (4, [.ref q1, .ref q3, .ref q40, .ref q81, .ref q94, .null, .int 0, .int 0, .int 0])) by rw [wL_get (by decide), ha95]; rfl) rfl 5 (by decide) (ht _ mw_164) (fun _ h9 => h9) rfl hin rfl (by decide +kernel) rfl rfl (Nat.le_of_ble_eq_true rfl) dX4_init_136 (fun H locs hP hD hS => ?_)
  have hf95 := cS_F (F := [.ref q1, .ref q3, .ref q40, .ref q81, .ref q94, .null, .int 0, .int 0, .int 0]) (F' := [.ref q1, .ref q3, .ref q40, .ref q81, .ref q94, .ref q95, .int 0, .int 0, .int 0]) (kI := kI) (kM := kM) (kP := kP) (kG := kG) (gm := gm) (gp := gp) (gg := gg) (n := 95 + 1) (by decide) ha95
  have hP : va_P D vwCl (wL 96 ad95 (cS [.ref q1, .ref q3, .ref q40, .ref q81, .ref q94, .ref q95, .int 0, .int 0, .int 0] kI kM kP kG gm gp gg ad95)) H := by rw [← hf95]; exact hP
  have hD : va_D A (wL 96 ad95 (cS [.ref q1, .ref q3, .ref q40, .ref q81, .ref q94, .ref q95, .int 0, .int 0, .int 0] kI kM kP kG gm gp gg ad95)) := by rw [← hf95]; exact hD
  have d9 : ∀ i, i < 94 → ad95 i = ad9 i := fun i hi => by rw [c95 i (by omega), c94 i hi]
  have d7 : ∀ i, i < 81 → ad95 i = ad7 i := fun i hi => by rw [d9 i (by omega), hag9 i (by omega), c8 i hi]
  have d5 : ∀ i, i < 40 → ad95 i = ad5 i := fun i hi => by rw [d7 i (by omega), hag7 i (by omega), c6 i hi]
  have e1 : ad95 1 = q1 := by rw [d5 1 (by decide), b1]
  have e3 : ad95 3 = q3 := by rw [d5 3 (by decide), b3]
  have e40 : ad95 40 = q40 := by rw [d7 40 (by decide), hag7 40 (by decide), b40]
  have e81 : ad95 81 = q81 := by rw [d9 81 (by decide), hag9 81 (by decide), b81]
  have e94 : ad95 94 = q94 := by rw [c95 94 (by decide), b94]
  rw [← e1, ← e3, ← e40, ← e81, ← e94, ← b95] at hP
  have hP := ct_all hP (fun j hj => by rw [← hgm]; unfold gk; rw [if_pos hj, d5 _ (by unfold pMe; omega)]) (fun j hj => by rw [← hgp]; unfold gk; rw [if_pos hj, d7 _ (by unfold pPi; omega)]) (fun j hj => by rw [← hgg]; unfold gk; rw [if_pos hj, d9 _ (by unfold pGo; omega)])
  have hD : va_D A (wB ad95 (fun j => if j = 0 then kI else if j = 1 then kM else if j = 2 then kP else kG) σ0) := wL_D hD
  have hK := hK.sub (tys' := tyB (fun j => if j = 0 then kI else if j = 1 then kM else if j = 2 then kP else kG)) [0, 1, 2, 3] rfl
  refine W.widen (k := 95) (n := 2043) (by decide) (by decide) ?_
  exact W.vret hx hb hr (fun t ht hW => ⟨⟨(ad95, fun j => if j = 0 then kI else if j = 1 then kM else if j = 2 then kP else kG), rfl, ha95, by rw [ht]; exact hP, va_K.moved hW.alike hK, hD⟩, hS.F ht⟩) hS.2.2 dX4_init_139

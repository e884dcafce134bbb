theorem sw_out17 {x : Int32} (h0 : ¬ x = 0) (h1 : ¬ x = 1) (h2 : ¬ x = 2) (h3 : ¬ x = 3) (h4 : ¬ x = 4) (h5 : ¬ x = 5) (h6 : ¬ x = 6) (h7 : ¬ x = 7) (h8 : ¬ x = 8) (h9 : ¬ x = 9) (h10 : ¬ x = 10) (h11 : ¬ x = 11) (h12 : ¬ x = 12) (h13 : ¬ x = 13) (h14 : ¬ x = 14) (h15 : ¬ x = 15) (h16 : ¬ x = 16) : x.toInt < 0 ∨ 16 < x.toInt := by
  have e (k : Int32) (h : ¬ x = k) : x.toInt ≠ k.toInt := fun q => h (Int32.toInt_inj.mp q)
  have a0 := e 0 h0
  rw [show (0 : Int32).toInt = 0 by decide] at a0
  have a1 := e 1 h1
  rw [show (1 : Int32).toInt = 1 by decide] at a1
  have a2 := e 2 h2
  rw [show (2 : Int32).toInt = 2 by decide] at a2
  have a3 := e 3 h3
  rw [show (3 : Int32).toInt = 3 by decide] at a3
  have a4 := e 4 h4
  rw [show (4 : Int32).toInt = 4 by decide] at a4
  have a5 := e 5 h5
  rw [show (5 : Int32).toInt = 5 by decide] at a5
  have a6 := e 6 h6
  rw [show (6 : Int32).toInt = 6 by decide] at a6
  have a7 := e 7 h7
  rw [show (7 : Int32).toInt = 7 by decide] at a7
  have a8 := e 8 h8
  rw [show (8 : Int32).toInt = 8 by decide] at a8
  have a9 := e 9 h9
  rw [show (9 : Int32).toInt = 9 by decide] at a9
  have a10 := e 10 h10
  rw [show (10 : Int32).toInt = 10 by decide] at a10
  have a11 := e 11 h11
  rw [show (11 : Int32).toInt = 11 by decide] at a11
  have a12 := e 12 h12
  rw [show (12 : Int32).toInt = 12 by decide] at a12
  have a13 := e 13 h13
  rw [show (13 : Int32).toInt = 13 by decide] at a13
  have a14 := e 14 h14
  rw [show (14 : Int32).toInt = 14 by decide] at a14
  have a15 := e 15 h15
  rw [show (15 : Int32).toInt = 15 by decide] at a15
  have a16 := e 16 h16
  rw [show (16 : Int32).toInt = 16 by decide] at a16
  omega
theorem nI_6 (i : Nat) : nI i + Int32.ofInt 6 = nI (i + 6) := nI_add i 6
theorem len6 {L i : Nat} (hL : L ≤ 3072) (hi : i ≤ 4000) (c : ¬ Int32.ofNat L - 6 < nI i) : i + 6 ≤ L := by
  have h := nlt_toInt c
  rw [show Int32.ofNat L = nI L from rfl, nI_toInt (by omega), Int32.toInt_sub, nI_toInt (by omega), show (6 : Int32).toInt = 6 by decide] at h
  have e : ((L : Int) - 6).bmod (2 ^ 32) = (L : Int) - 6 := by apply Int.bmod_eq_of_le <;> omega
  rw [e] at h
  omega
set_option maxHeartbeats 4000000 in
set_option maxRecDepth 100000 in
theorem law_loop {R : St → St → Prop} (hSIM : SIM R) {p : Program} {e : Env} {s : State} {m : MethodId} {below : List Frame} {meth : Method} {c : Code} (l : Launch) (hl9 : l.stackTraces = false) {b L : Nat} {xs : Nat → Int32} (hL : L ≤ 3072) (C0 : lw_At p s m meth c b L xs) {D : va_G} {kL : ClassId} {kk kj : Nat → ClassId} {qo : Nat} {ad bd : Nat → Nat} (hK : va_K D vwCl (tyT kj kL kk) s) (hE : EvW (LA s) s s.heap) : ∀ (n t : Nat) (σ μ : St) (f : Nat → Int64) (H : Heap) (locs : List Loc) (ls : Array Slot), t ≤ 512 → 513 ≤ t + n → R σ μ → va_P D vwCl (wT bd kj μ qo kL f ad kk σ) H → va_D (LA s) (wT bd kj μ qo kL f ad kk σ) → va_S (LA s) s.heap H locs → lv_has ls 8 [(0, .ref b), (1, .ref (ad 0)), (2, .ref (bd 0)), (3, .ref qo), (4, .int (nI (6 * t)))] → W p l e room_1 s m #[Value.ref b] below meth c H locs (120 + 6 * t) (5254 + 36 * t) (lw_Z below #[Value.ref b] s) (F0 m 23 ls ([])) := by
  obtain ⟨hx, hb, hr, hml, hown, hts, hX, hbl, hlocks, hgv⟩ := id C0
  have hbA : ¬ LA s b := Nat.not_le.mpr hbl
  intro n
  induction n with
  | zero => intro t σ μ f H locs ls h1 h2; omega
  | succ n ih =>
    intro t σ μ f H locs ls ht1 ht2 hR hP hD hS hl
    refine lv_iload hx hb dL_law_23 (lv_at hl 4 rfl) ?_
    refine lv_aload_n hx hb dL_law_25 rfl (lv_at hl 0 rfl) ?_
    refine va_slen hx hb hX hbl hbA hS dL_law_26 ?_
    refine lv_bipush (v := 6) hx hb dL_law_27 (by decide) ?_
    refine lv_isub hx hb dL_law_29 ?_
    refine lv_icmp_gt (tgt := 1350) hx hb dL_law_30 (by decide) (fun c1 => ?_) (fun c1 => ?_)
    · refine lv_iconst (v := 1) hx hb dL_law_1350 (by decide) ?_
      refine va_forget (fun q hq => hS.2.2 q hq) ?_
      refine W.widen (k := 601024) (n := 7293034) (by omega) (by omega) ?_
      exact lw_ret hx hb hr hlocks dL_law_1351
    · have hi := len6 hL (by omega) c1
      refine lv_aload_n hx hb dL_law_33 rfl (lv_at hl 0 rfl) ?_
      refine lv_iload hx hb dL_law_34 (lv_at hl 4 rfl) ?_
      refine va_sld hx hb hX hbl hbA hS (vp_in_nI (n := 6 * t) (by omega) (by omega)) dL_law_36 ?_
      rw [nI_clamp (n := 6 * t) (by omega)]
      refine lv_bipush (v := 31) hx hb dL_law_37 (by decide) ?_
      refine lv_iand hx hb dL_law_39 ?_
      have K : ∀ (σ1 μ1 : St) (f1 : Nat → Int64) (H : Heap) (locs : List Loc) (ls : Array Slot), R σ1 μ1 → va_P D vwCl (wT bd kj μ1 qo kL f1 ad kk σ1) H → va_D (LA s) (wT bd kj μ1 qo kL f1 ad kk σ1) → va_S (LA s) s.heap H locs → lv_has ls 8 [(0, .ref b), (1, .ref (ad 0)), (2, .ref (bd 0)), (3, .ref qo), (4, .int (nI (6 * t)))] → W p l e room_1 s m #[Value.ref b] below meth c H locs (120 + 6 * t + 6) (5254 + 36 * t + 36) (lw_Z below #[Value.ref b] s) (F0 m 1344 ls ([])) := by
        intro σ1 μ1 f1 H locs ls hR hP hD hS hl
        refine lv_iinc (v := nI (6 * t + 6)) (lv' := [(4, .int (nI (6 * t + 6))), (0, .ref b), (1, .ref (ad 0)), (2, .ref (bd 0)), (3, .ref qo)]) hx hb dL_law_1344 hl (k := 4) rfl (nI_6 _) (by decide) rfl (fun ls hl => ?_)
        refine lv_goto (tgt := 23) hx hb dL_law_1347 (by decide) ?_
        exact ih (t + 1) σ1 μ1 f1 H locs ls (by omega) (by omega) hR hP hD hS (lv_sub hl [1, 2, 3, 4, 0] rfl)
      obtain ⟨hIR, s_unit, s_read, s_uses, s_object, s_part, s_right, s_trial, s_reason, s_done, s_row, s_stock, s_about, s_apart, s_put, s_plan, s_step, s_count⟩ := hSIM
      generalize hz : xs (6 * t) &&& 31 = z
      by_cases c_0 : z = 0
      · refine lv_tableIn (tgt := 124) hx hb dL_law_40 (by rw [c_0]; decide) (by rw [c_0]; decide) (by rw [c_0]; rfl) (by decide) ?_
        exact lc_unit hIR l hl9 hL C0 hK hE hR (s_unit σ μ _ hR) hi (by omega) (by omega) hP hD hS hl K
      by_cases c_1 : z = 1
      · refine lv_tableIn (tgt := 180) hx hb dL_law_40 (by rw [c_1]; decide) (by rw [c_1]; decide) (by rw [c_1]; rfl) (by decide) ?_
        exact lc_read hIR l hl9 hL C0 hK hE hR (s_read σ μ hR) hi (by omega) (by omega) hP hD hS hl K
      by_cases c_2 : z = 2
      · refine lv_tableIn (tgt := 224) hx hb dL_law_40 (by rw [c_2]; decide) (by rw [c_2]; decide) (by rw [c_2]; rfl) (by decide) ?_
        exact lc_uses hIR l hl9 hL C0 hK hE hR (s_uses σ μ _ _ hR) hi (by omega) (by omega) hP hD hS hl K
      by_cases c_3 : z = 3
      · refine lv_tableIn (tgt := 292) hx hb dL_law_40 (by rw [c_3]; decide) (by rw [c_3]; decide) (by rw [c_3]; rfl) (by decide) ?_
        exact lc_object hIR l hl9 hL C0 hK hE hR (s_object σ μ hR) hi (by omega) (by omega) hP hD hS hl K
      by_cases c_4 : z = 4
      · refine lv_tableIn (tgt := 336) hx hb dL_law_40 (by rw [c_4]; decide) (by rw [c_4]; decide) (by rw [c_4]; rfl) (by decide) ?_
        exact lc_part hIR l hl9 hL C0 hK hE hR (s_part σ μ _ _ hR) hi (by omega) (by omega) hP hD hS hl K
      by_cases c_5 : z = 5
      · refine lv_tableIn (tgt := 404) hx hb dL_law_40 (by rw [c_5]; decide) (by rw [c_5]; decide) (by rw [c_5]; rfl) (by decide) ?_
        exact lc_right hIR l hl9 hL C0 hK hE hR (s_right σ μ _ _ _ hR) hi (by omega) (by omega) hP hD hS hl K
      by_cases c_6 : z = 6
      · refine lv_tableIn (tgt := 507) hx hb dL_law_40 (by rw [c_6]; decide) (by rw [c_6]; decide) (by rw [c_6]; rfl) (by decide) ?_
        exact lc_trial hIR l hl9 hL C0 hK hE hR (s_trial σ μ _ _ _ hR) hi (by omega) (by omega) hP hD hS hl K
      by_cases c_7 : z = 7
      · refine lv_tableIn (tgt := 610) hx hb dL_law_40 (by rw [c_7]; decide) (by rw [c_7]; decide) (by rw [c_7]; rfl) (by decide) ?_
        exact lc_reason hIR l hl9 hL C0 hK hE hR (s_reason σ μ _ _ _ _ hR) hi (by omega) (by omega) hP hD hS hl K
      by_cases c_8 : z = 8
      · refine lv_tableIn (tgt := 702) hx hb dL_law_40 (by rw [c_8]; decide) (by rw [c_8]; decide) (by rw [c_8]; rfl) (by decide) ?_
        exact lc_done hIR l hl9 hL C0 hK hE hR (s_done σ μ _ _ _ _ _ hR) hi (by omega) (by omega) hP hD hS hl K
      by_cases c_9 : z = 9
      · refine lv_tableIn (tgt := 806) hx hb dL_law_40 (by rw [c_9]; decide) (by rw [c_9]; decide) (by rw [c_9]; rfl) (by decide) ?_
        exact lc_row hIR l hl9 hL C0 hK hE hR (s_row σ μ _ _ _ hR) hi (by omega) (by omega) hP hD hS hl K
      by_cases c_10 : z = 10
      · refine lv_tableIn (tgt := 886) hx hb dL_law_40 (by rw [c_10]; decide) (by rw [c_10]; decide) (by rw [c_10]; rfl) (by decide) ?_
        exact lc_stock hIR l hl9 hL C0 hK hE hR (s_stock σ μ _ _ hR) hi (by omega) (by omega) hP hD hS hl K
      by_cases c_11 : z = 11
      · refine lv_tableIn (tgt := 954) hx hb dL_law_40 (by rw [c_11]; decide) (by rw [c_11]; decide) (by rw [c_11]; rfl) (by decide) ?_
        exact lc_about hIR l hl9 hL C0 hK hE hR (s_about σ μ _ _ hR) hi (by omega) (by omega) hP hD hS hl K
      by_cases c_12 : z = 12
      · refine lv_tableIn (tgt := 1021) hx hb dL_law_40 (by rw [c_12]; decide) (by rw [c_12]; decide) (by rw [c_12]; rfl) (by decide) ?_
        exact lc_apart hIR l hl9 hL C0 hK hE hR (s_apart σ μ _ _ hR) hi (by omega) (by omega) hP hD hS hl K
      by_cases c_13 : z = 13
      · refine lv_tableIn (tgt := 1096) hx hb dL_law_40 (by rw [c_13]; decide) (by rw [c_13]; decide) (by rw [c_13]; rfl) (by decide) ?_
        exact lc_put hIR l hl9 hL C0 hK hE hR (s_put σ μ _ _ hR) hi (by omega) (by omega) hP hD hS hl K
      by_cases c_14 : z = 14
      · refine lv_tableIn (tgt := 1164) hx hb dL_law_40 (by rw [c_14]; decide) (by rw [c_14]; decide) (by rw [c_14]; rfl) (by decide) ?_
        exact lc_plan hIR l hl9 hL C0 hK hE hR (s_plan σ μ _ _ hR) hi (by omega) (by omega) hP hD hS hl K
      by_cases c_15 : z = 15
      · refine lv_tableIn (tgt := 1232) hx hb dL_law_40 (by rw [c_15]; decide) (by rw [c_15]; decide) (by rw [c_15]; rfl) (by decide) ?_
        exact lc_step hIR l hl9 hL C0 hK hE hR (s_step σ μ _ hR) hi (by omega) (by omega) hP hD hS hl K
      by_cases c_16 : z = 16
      · refine lv_tableIn (tgt := 1288) hx hb dL_law_40 (by rw [c_16]; decide) (by rw [c_16]; decide) (by rw [c_16]; rfl) (by decide) ?_
        exact lc_count hIR l hl9 hL C0 hK hE hR (s_count σ μ _ hR) hi (by omega) (by omega) hP hD hS hl K
      refine lv_tableOut (tgt := 1344) hx hb dL_law_40 (sw_out17 c_0 c_1 c_2 c_3 c_4 c_5 c_6 c_7 c_8 c_9 c_10 c_11 c_12 c_13 c_14 c_15 c_16) (by decide) ?_
      refine W.widen (k := 120 + 6 * t + 6) (n := 5254 + 36 * t + 36) (by omega) (by omega) ?_
      exact K σ μ f H locs ls hR hP hD hS hl
set_option maxHeartbeats 4000000 in
set_option maxRecDepth 100000 in
theorem whole_gen {R : St → St → Prop} (hSIM : SIM R) (hR0 : R σ0 (μk 12)) {p : Program} {e : Env} {s : State} {m : MethodId} {below : List Frame} {meth : Method} {c : Code} (l : Launch) (hl9 : l.stackTraces = false) {b L : Nat} {xs : Nat → Int32} (hL : L ≤ 3072) (C0 : lw_At p s m meth c b L xs) : W p l e room_1 s m #[Value.ref b] below meth c s.heap [] 0 0 (lw_Z below #[Value.ref b] s) (entryFrame m ([Value.ref b] : List Value).toArray 8) := by
  obtain ⟨hE, hEn⟩ := law_E C0
  obtain ⟨hx, hb, hr, hml, hown, hts, hX, hbl, hlocks, hgv⟩ := id C0
  have ht : ∀ w ∈ T0, w.before #[Value.ref b] s = true := fun w h => hts w (T0_lw h)
  have CF : CallFix p m c code 8 s #[Value.ref b] T0 RL := ⟨hx, hb, hml, hown, ht⟩
  have hA : ∀ q : Nat, s.heap.size ≤ q → LA s q := fun _ h => h
  obtain ⟨c0, iS0, hKn0⟩ := u_known (C := RX0) (T := TX0) (N := 5) (n := 5) ht inX0 (ht _ mw_134)
  obtain ⟨c1, iS1, hKn1⟩ := u_known (C := RX1) (T := TX1) (N := 9) (n := 9) ht inX1 (ht _ mw_46)
  obtain ⟨c2, iS2, hKn2⟩ := u_known (C := RX2) (T := TX2) (N := 3) (n := 3) ht inX2 (ht _ mw_25)
  obtain ⟨c3, iS3, hKn3⟩ := u_known (C := RX3) (T := TX3) (N := 8) (n := 8) ht inX3 (ht _ mw_95)
  obtain ⟨c4, iS4, hKn4⟩ := u_known (C := RX4) (T := TX4) (N := 9) (n := 9) ht inX4 (ht _ mw_17)
  obtain ⟨c5, iS5, hKn5⟩ := u_known (C := RX5) (T := TX5) (N := 27) (n := 27) ht inX5 (ht _ mw_568)
  obtain ⟨D, hKc⟩ : ∃ (D : va_G), ∀ (k : Nat) (q : vw_C), vwCl[k]? = some q → u_Kn s q.1 q.2.1 q.2.2 (D.1 k) (D.2 k) := by
    refine ⟨(fun k => if k = 0 then c0 else if k = 1 then c1 else if k = 2 then c2 else if k = 3 then c3 else if k = 4 then c4 else c5, fun k => if k = 0 then iS0 else if k = 1 then iS1 else if k = 2 then iS2 else if k = 3 then iS3 else if k = 4 then iS4 else iS5), ?_⟩
    intro k q hq
    match k, hq with
    | 0, hq => cases hq; exact hKn0
    | 1, hq => cases hq; exact hKn1
    | 2, hq => cases hq; exact hKn2
    | 3, hq => cases hq; exact hKn3
    | 4, hq => cases hq; exact hKn4
    | 5, hq => cases hq; exact hKn5
    | k + 6, hq => simp [vwCl] at hq
  have hS : va_S (LA s) s.heap s.heap [] := va_S.rf
  have hK : va_K D vwCl [] s := ⟨hKc, fun k q h => by simp at h⟩
  have hP : va_P D vwCl [] s.heap := fun k q h => by simp at h
  have hD : va_D (LA s) [] := ⟨fun i j p q h => by simp at h, fun k q h => by simp at h⟩
  have hl := lv_entry ([.ref b]) (n := 8) (Nat.le_of_ble_eq_true rfl)
  rw [lg_entry_eq]
  generalize (lg_sl ([.ref b]) ++ List.replicate (8 - (lg_sl ([.ref b])).length) Slot.unset).toArray = ls at hl ⊢
  have hl : lv_has ls 8 [(0, .ref b)] := hl
  refine va_new (ci := 4) (fs := [.null, .null, .null, .null, .null, .null, .int 0, .int 0, .int 0]) (C := RX4) (T := TX4) (N := 9) hx hb ht inX4 tyX4 tyX4_ok hown (ht _ mw_16) (ht _ mw_17) (ht _ mw_1) hK hP hD hS hA rfl (fun j hj => by match j, hj with | 0, _ => rfl | 1, _ => rfl | 2, _ => rfl | 3, _ => rfl | 4, _ => rfl | 5, _ => rfl | 6, _ => rfl | 7, _ => rfl | 8, _ => rfl | j + 9, h => exact absurd h (by omega)) (Nat.le_of_ble_eq_true rfl) (Nat.le_of_ble_eq_true rfl) dL_law_0 (fun q1 H hP hD hS => ?_)
  refine lv_dup hx hb dL_law_3 rfl ?_
  have hFc := freeR hD hS hA
  refine va_callv (va_runI (As := []) (rest := [.ref q1]) CF (k_MB_init l D q1 H.size) ⟨callB_of 0 ht (gT0 mw_20) rfl rfl rfl (ht _ mw_1) (ht _ mw_18) (by decide +kernel) ⟨Nat.le_of_ble_eq_true rfl, Nat.le_of_ble_eq_true rfl⟩, rfl, (ht _ mw_19)⟩ ⟨fun a U g mk q => by obtain ⟨z0, z1, zP, zK, zD, zE⟩ := q; exact ⟨z0, z1, zP, va_K.moved (u := U) (U := U.calling g mk a) (Vm.Alike.refl U.vm) zK, zD, En.same (u := U) (U := U.calling g mk a) rfl zE⟩, fun U hU hW => ⟨rfl, by rw [hU], by rw [hU]; exact subR hP, va_K.moved hW.alike (hK.sub (tys' := []) [] rfl), (subRD hD).weaken (fun _ _ _ _ => trivial), En.warm hW hEn⟩⟩ rfl rfl hl.1 rfl (lv_room (Nat.le_of_ble_eq_true rfl)) dL_law_4 ⟨Nat.le_of_ble_eq_true rfl, Nat.le_of_ble_eq_true rfl⟩) hS (fun q _ h => hFc q h) hFc (fun u t H1 locs ht1 hvm hw hB hz1 hk1 hS => ?_)
  obtain ⟨hP1, hK4, hD1⟩ := hB
  rw [ht1] at hP1
  have hK4 := va_K.moved hvm.symm hK4
  obtain ⟨hP, hD⟩ := join_R hP hD (fun q h => h) hFc hk1 hP1 hD1
  clear hFc hk1 hz1 hP1 hD1 ht1 hvm
  generalize H1 = H at hP hS ⊢
  obtain ⟨ad, kk⟩ := u
  have hw4 : ad 0 = q1 := hw
  refine lv_astore_n (lv' := [(1, .ref q1), (0, .ref b)]) hx hb dL_law_7 rfl hl (by decide) rfl (fun ls hl => ?_)
  have hP : va_P D vwCl (wB ad kk σ0) H := hP
  have hD : va_D (LA s) (wB ad kk σ0) := hD
  refine va_new (ci := 5) (fs := [.int 0, .int 0, .null, .int 0, .null, .null, .null, .null, .null, .null, .int 0, .null, .null, .null, .null, .null, .null, .null, .null, .null, .null, .null, .null, .int 0, .null, .null, .null]) (C := RX5) (T := TX5) (N := 27) hx hb ht inX5 tyX5 tyX5_ok hown (ht _ mw_567) (ht _ mw_568) (ht _ mw_6) hK hP hD hS hA rfl (fun j hj => by match j, hj with | 0, _ => rfl | 1, _ => rfl | 2, _ => rfl | 3, _ => rfl | 4, _ => rfl | 5, _ => rfl | 6, _ => rfl | 7, _ => rfl | 8, _ => rfl | 9, _ => rfl | 10, _ => rfl | 11, _ => rfl | 12, _ => rfl | 13, _ => rfl | 14, _ => rfl | 15, _ => rfl | 16, _ => rfl | 17, _ => rfl | 18, _ => rfl | 19, _ => rfl | 20, _ => rfl | 21, _ => rfl | 22, _ => rfl | 23, _ => rfl | 24, _ => rfl | 25, _ => rfl | 26, _ => rfl | j + 27, h => exact absurd h (by omega)) (Nat.le_of_ble_eq_true rfl) (Nat.le_of_ble_eq_true rfl) dL_law_8 (fun q2 H hP hD hS => ?_)
  refine lv_dup hx hb dL_law_11 rfl ?_
  have hFc := freeR hD hS hA
  refine va_callv (va_runI (As := []) (rest := [.ref q2]) CF (k_m_init l D q2 H.size) ⟨callB_of 0 ht (gT0 mw_571) rfl rfl rfl (ht _ mw_6) (ht _ mw_569) (by decide +kernel) ⟨Nat.le_of_ble_eq_true rfl, Nat.le_of_ble_eq_true rfl⟩, rfl, (ht _ mw_570)⟩ ⟨fun a U g mk q => by obtain ⟨z0, z1, zP, zK, zD⟩ := q; exact ⟨z0, z1, zP, va_K.moved (u := U) (U := U.calling g mk a) (Vm.Alike.refl U.vm) zK, zD⟩, fun U hU hW => ⟨rfl, by rw [hU], by rw [hU]; exact subR hP, va_K.moved hW.alike (hK.sub (tys' := []) [] rfl), (subRD hD).weaken (fun _ _ _ _ => trivial)⟩⟩ rfl rfl hl.1 rfl (lv_room (Nat.le_of_ble_eq_true rfl)) dL_law_12 ⟨Nat.le_of_ble_eq_true rfl, Nat.le_of_ble_eq_true rfl⟩) hS (fun q _ h => hFc q h) hFc (fun v t H1 locs ht1 hvm hw hB hz1 hk1 hS => ?_)
  obtain ⟨hP1, hK5, hD1⟩ := hB
  rw [ht1] at hP1
  have hK5 := va_K.moved hvm.symm hK5
  obtain ⟨hP, hD⟩ := join_R hP hD (fun q h => h) hFc hk1 hP1 hD1
  clear hFc hk1 hz1 hP1 hD1 ht1 hvm
  generalize H1 = H at hP hS ⊢
  obtain ⟨bd, kj⟩ := v
  have hw5 : bd 0 = q2 := hw
  refine lv_astore_n (lv' := [(2, .ref q2), (1, .ref q1), (0, .ref b)]) hx hb dL_law_15 rfl hl (by decide) rfl (fun ls hl => ?_)
  have hP : va_P D vwCl (wB ad kk σ0 ++ wM bd kj (μk 12)) H := hP
  have hD : va_D (LA s) (wB ad kk σ0 ++ wM bd kj (μk 12)) := hD
  refine lv_iconst (v := 1) hx hb dL_law_16 (by decide) ?_
  refine va_newa (atype := .long) (ty := .long) (N' := 1) (a0 := (1, .inr (.inl (fun _ => 0)))) hx hb (ht _ mw_656) rfl hK hP hD hS hA (fun _ => rfl) (by decide) (by decide) (by decide) (Nat.le_of_ble_eq_true rfl) (Nat.le_of_ble_eq_true rfl) dL_law_17 (fun qo kL H hK hP hD hS => ?_)
  refine lv_astore_n (lv' := [(3, .ref qo), (2, .ref q2), (1, .ref q1), (0, .ref b)]) hx hb dL_law_19 rfl hl (by decide) rfl (fun ls hl => ?_)
  refine lv_iconst (v := 0) hx hb dL_law_20 (by decide) ?_
  refine lv_istore (lv' := [(4, .int 0), (3, .ref qo), (2, .ref q2), (1, .ref q1), (0, .ref b)]) hx hb dL_law_21 hl (by decide) rfl (fun ls hl => ?_)
  rw [List.append_assoc] at hP hD
  have hP := va_P_comm hP
  have hD := va_D_comm hD
  rw [List.append_assoc] at hP hD
  have hP : va_P D vwCl (wT bd kj (μk 12) qo kL (fun _ => 0) ad kk σ0) H := hP
  have hD : va_D (LA s) (wT bd kj (μk 12) qo kL (fun _ => 0) ad kk σ0) := hD
  have hKT : va_K D vwCl (tyT kj kL kk) s := hK5.app ((hK.sub (tys' := [(kL, .long)]) [0] rfl).app hK4)
  have hl : lv_has ls 8 [(4, .int 0), (3, .ref qo), (2, .ref (bd 0)), (1, .ref (ad 0)), (0, .ref b)] := by rw [hw4, hw5]; exact hl
  exact law_loop hSIM l hl9 hL C0 hKT hE 513 0 σ0 (μk 12) (fun _ => 0) H _ ls (by decide) (by decide) hR0 hP hD hS (lv_sub hl [4, 3, 2, 1, 0] rfl)

theorem E_unit {σ : St} {p1 : Int32} {E : String} (h : Except.error E = M_unit σ p1) : E = "java/lang/IllegalStateException" ∨ E = "java/lang/IllegalArgumentException" := by
  unfold M_unit at h
  try simp only [pb, vb] at h
  (repeat' (first | (rcases xb_err h with h | ⟨_, _, h⟩) | (split at h)))
  all_goals first | (cases h; done) | (cases h; first | exact rfl | exact Or.inl rfl | exact Or.inr rfl | exact Or.inr (Or.inl rfl) | exact Or.inr (Or.inr rfl)) | (have e := chk_err h; subst e; first | exact rfl | exact Or.inl rfl | exact Or.inr rfl | exact Or.inr (Or.inl rfl) | exact Or.inr (Or.inr rfl)) | (have e := hour_err h; subst e; first | exact rfl | exact Or.inl rfl | exact Or.inr rfl | exact Or.inr (Or.inl rfl) | exact Or.inr (Or.inr rfl))
set_option maxHeartbeats 4000000 in
set_option maxRecDepth 100000 in
theorem k_w_unit (l : Launch) (hl9 : l.stackTraces = false) (D : va_G) (qo : Nat) (kL : ClassId) (ad : Nat → Nat) (kk : Nat → ClassId) (sz : Nat) (f : Nat → Int64) (σ : St) (p1 : Int32) (hI : IB σ) : vx_Met l yL_unit wsL_unit { frames := 7, cells := 1, slots := 6, locals := 111 } (va_Pc [.ref (ad 0), .int p1, .ref qo] (PW D qo kL ad kk sz f σ)) (va_Qi (wrP (tI (M_unit σ p1)) ["java/lang/IllegalStateException", "java/lang/IllegalArgumentException"] σ f) (QW D qo kL ad kk sz) (aW qo ad sz)) (fun _ _ _ => False) 1 6 (aW qo ad sz) := by
  refine vx_ofWH (cc := cL_unit) (maxL := 4) (ret := (some .int)) (by decide) rfl ?_
  intro p e s m args below meth c s₁ B hml hv
  obtain ⟨rfl, hsz, hP, hK, hD0, hE⟩ := hv
  have hx := B.exec
  have hb := B.bytes
  have hr := B.returns
  have hts := atoms_spec (ws := wsL_unit) B.pre
  have hown : s.vm.findClass RL = some m.cls := findClass_of_methodNamed B.named
  have hlocks := B.notSynchronized
  have htab := vx_table (x := yL_unit) B (hts _ List.mem_cons_self)
  subst hsz
  have hD : va_D (aW qo ad s.heap.size) (wW qo kL f ad kk σ) := wW_D hD0
  have hS : va_S (aW qo ad s.heap.size) s.heap s.heap [] := va_S.rf
  have hl := lv_entry ([.ref (ad 0), .int p1, .ref qo]) (n := 4) (Nat.le_of_ble_eq_true rfl)
  rw [lg_entry_eq]
  generalize (lg_sl ([.ref (ad 0), .int p1, .ref qo]) ++ List.replicate (4 - (lg_sl ([.ref (ad 0), .int p1, .ref qo])).length) Slot.unset).toArray = ls at hl ⊢
  have hl : lv_has ls 4 [(0, .ref (ad 0)), (1, .int p1), (2, .ref qo)] := hl
  have CF : CallFix p m c cL_unit 4 s ([.ref (ad 0), .int p1, .ref qo] : List Value).toArray wsL_unit RL := ⟨hx, hb, hml, hown, hts⟩
  have ht : ∀ w ∈ T0, w.before ([.ref (ad 0), .int p1, .ref qo] : List Value).toArray s = true := fun w h => hts w (List.mem_cons_of_mem _ h)
  refine lv_aload_n hx hb dL_unit_0 rfl (lv_at hl 2 rfl) ?_
  refine lv_iconst (v := 0) hx hb dL_unit_1 (by decide) ?_
  refine lv_aload_n hx hb dL_unit_2 rfl (lv_at hl 0 rfl) ?_
  refine lv_iload_n hx hb dL_unit_3 rfl (lv_at hl 1 rfl) ?_
  refine kW_i (vx_runV (As := [.int p1]) (rest := [.int 0, .ref qo]) CF (k_unit l hl9 D ad kk _ σ p1 hI) ⟨callB_of 1 hts (gT mw_195) rfl rfl rfl (ht _ mw_1) (ht _ mw_192) (by decide +kernel) ⟨Nat.le_of_ble_eq_true rfl, Nat.le_of_ble_eq_true rfl⟩, (ht _ mw_193), (ht _ mw_194)⟩ (preV_W hK hP hD hE hS) rfl rfl hl.1 rfl (lv_room (Nat.le_of_ble_eq_true rfl)) dL_unit_4 ⟨Nat.le_of_ble_eq_true rfl, Nat.le_of_ble_eq_true rfl⟩) hP hD hS (fun E ce q9 H locs hTe hP hD hS hc1 hv1 hcl => ?_) (fun r u H locs hw hP hD hS => ?_)
  · rcases E_unit hTe with rfl | rfl
    · refine vx_catch (name := "java/lang/IllegalStateException") hown [] ⟨0, 9, 12, 13⟩ [⟨0, 9, 15, 15⟩] htab (fun z h => absurd h List.not_mem_nil) (by decide) (by decide) (ht _ mw_190) (va_Nw.use rfl (hE.1.2.2.2.2.2 "java/lang/IllegalStateException" (by decide +kernel))) hc1 hv1 hcl ?_
      refine lv_astore_n (lv' := [(3, .ref q9), (0, .ref (ad 0)), (1, .int p1), (2, .ref qo)]) hx hb dL_unit_12 rfl hl (by decide) rfl (fun ls hl => ?_)
      refine lv_iconst (v := 1) hx hb dL_unit_13 (by decide) ?_
      refine W.widen (k := 1) (n := 6) (by decide) (by decide) ?_
      exact vx_ret (W.iret (v := 1) hx hb hr (fun t ht hW => ⟨⟨1, (σ, f), rfl, (wr_eI hTe (by decide +kernel)), by rw [ht]; exact hP, va_K.moved hW.alike hK, hD⟩, hS.F ht⟩) hS.2.2 dL_unit_14)
    · refine vx_catch (name := "java/lang/IllegalArgumentException") hown [⟨0, 9, 12, 13⟩] ⟨0, 9, 15, 15⟩ [] htab (fun z h => Or.inr (by
          rcases List.mem_cons.mp h with rfl | h
          · exact ⟨by decide, "java/lang/IllegalStateException", (ht _ mw_190), hE.2 ("java/lang/IllegalArgumentException", "java/lang/IllegalStateException") (by decide +kernel)⟩
          exact absurd h List.not_mem_nil)) (by decide) (by decide) (ht _ mw_191) (va_Nw.use rfl (hE.1.2.2.2.2.2 "java/lang/IllegalArgumentException" (by decide +kernel))) hc1 hv1 hcl ?_
      refine lv_astore_n (lv' := [(3, .ref q9), (0, .ref (ad 0)), (1, .int p1), (2, .ref qo)]) hx hb dL_unit_15 rfl hl (by decide) rfl (fun ls hl => ?_)
      refine lv_iconst (v := 2) hx hb dL_unit_16 (by decide) ?_
      refine W.widen (k := 1) (n := 6) (by decide) (by decide) ?_
      exact vx_ret (W.iret (v := 2) hx hb hr (fun t ht hW => ⟨⟨2, (σ, f), rfl, (wr_eI hTe (by decide +kernel)), by rw [ht]; exact hP, va_K.moved hW.alike hK, hD⟩, hS.F ht⟩) hS.2.2 dL_unit_17)
  · have hz : vp_in (0 : Int32) 1 := vp_in_nI (n := 0) (by decide) (by decide)
    refine lv_i2l hx hb dL_unit_7 rfl ?_
    refine va_last (i := 0) (x := r.toInt64) hx hb hK hP hD hS 0 0 rfl rfl hz dL_unit_8 (fun H locs hP hD hS => ?_)
    refine lv_goto (tgt := 18) hx hb dL_unit_9 (by decide) ?_
    refine lv_iconst (v := 0) hx hb dL_unit_18 (by decide) ?_
    refine W.widen (k := 1) (n := 6) (by decide) (by decide) ?_
    exact vx_ret (W.iret (v := 0) hx hb hr (fun t ht hW => ⟨⟨0, (u, vp_updL f (0 : Int32).toNatClampNeg r.toInt64), rfl, (by rw [← hw]; exact ⟨rfl, rfl, rfl⟩), by rw [ht]; exact hP, va_K.moved hW.alike hK, hD⟩, hS.F ht⟩) hS.2.2 dL_unit_19)
theorem E_read {σ : St} {E : String} (h : Except.error E = M_read σ) : E = "java/lang/IllegalStateException" := by
  unfold M_read at h
  try simp only [pb, vb] at h
  (repeat' (first | (rcases xb_err h with h | ⟨_, _, h⟩) | (split at h)))
  all_goals first | (cases h; done) | (cases h; first | exact rfl | exact Or.inl rfl | exact Or.inr rfl | exact Or.inr (Or.inl rfl) | exact Or.inr (Or.inr rfl)) | (have e := chk_err h; subst e; first | exact rfl | exact Or.inl rfl | exact Or.inr rfl | exact Or.inr (Or.inl rfl) | exact Or.inr (Or.inr rfl)) | (have e := hour_err h; subst e; first | exact rfl | exact Or.inl rfl | exact Or.inr rfl | exact Or.inr (Or.inl rfl) | exact Or.inr (Or.inr rfl))
set_option maxHeartbeats 4000000 in
set_option maxRecDepth 100000 in
theorem k_w_read (l : Launch) (hl9 : l.stackTraces = false) (D : va_G) (qo : Nat) (kL : ClassId) (ad : Nat → Nat) (kk : Nat → ClassId) (sz : Nat) (f : Nat → Int64) (σ : St) (hI : IB σ) : vx_Met l yL_read wsL_read { frames := 7, cells := 1, slots := 6, locals := 133 } (va_Pc [.ref (ad 0), .ref qo] (PW D qo kL ad kk sz f σ)) (va_Qi (wrP (tI (M_read σ)) ["java/lang/IllegalStateException"] σ f) (QW D qo kL ad kk sz) (aW qo ad sz)) (fun _ _ _ => False) 1 6 (aW qo ad sz) := by
  refine vx_ofWH (cc := cL_read) (maxL := 3) (ret := (some .int)) (by decide) rfl ?_
  intro p e s m args below meth c s₁ B hml hv
  obtain ⟨rfl, hsz, hP, hK, hD0, hE⟩ := hv
  have hx := B.exec
  have hb := B.bytes
  have hr := B.returns
  have hts := atoms_spec (ws := wsL_read) B.pre
  have hown : s.vm.findClass RL = some m.cls := findClass_of_methodNamed B.named
  have hlocks := B.notSynchronized
  have htab := vx_table (x := yL_read) B (hts _ List.mem_cons_self)
  subst hsz
  have hD : va_D (aW qo ad s.heap.size) (wW qo kL f ad kk σ) := wW_D hD0
  have hS : va_S (aW qo ad s.heap.size) s.heap s.heap [] := va_S.rf
  have hl := lv_entry ([.ref (ad 0), .ref qo]) (n := 3) (Nat.le_of_ble_eq_true rfl)
  rw [lg_entry_eq]
  generalize (lg_sl ([.ref (ad 0), .ref qo]) ++ List.replicate (3 - (lg_sl ([.ref (ad 0), .ref qo])).length) Slot.unset).toArray = ls at hl ⊢
  have hl : lv_has ls 3 [(0, .ref (ad 0)), (1, .ref qo)] := hl
  have CF : CallFix p m c cL_read 3 s ([.ref (ad 0), .ref qo] : List Value).toArray wsL_read RL := ⟨hx, hb, hml, hown, hts⟩
  have ht : ∀ w ∈ T0, w.before ([.ref (ad 0), .ref qo] : List Value).toArray s = true := fun w h => hts w (List.mem_cons_of_mem _ h)
  refine lv_aload_n hx hb dL_read_0 rfl (lv_at hl 1 rfl) ?_
  refine lv_iconst (v := 0) hx hb dL_read_1 (by decide) ?_
  refine lv_aload_n hx hb dL_read_2 rfl (lv_at hl 0 rfl) ?_
  refine kW_i (vx_runV (As := []) (rest := [.int 0, .ref qo]) CF (k_read l hl9 D ad kk _ σ hI) ⟨callB_of 0 hts (gT mw_286) rfl rfl rfl (ht _ mw_1) (ht _ mw_283) (by decide +kernel) ⟨Nat.le_of_ble_eq_true rfl, Nat.le_of_ble_eq_true rfl⟩, (ht _ mw_284), (ht _ mw_285)⟩ (preV_W hK hP hD hE hS) rfl rfl hl.1 rfl (lv_room (Nat.le_of_ble_eq_true rfl)) dL_read_3 ⟨Nat.le_of_ble_eq_true rfl, Nat.le_of_ble_eq_true rfl⟩) hP hD hS (fun E ce q9 H locs hTe hP hD hS hc1 hv1 hcl => ?_) (fun r u H locs hw hP hD hS => ?_)
  · rcases E_read hTe with rfl
    · refine vx_catch (name := "java/lang/IllegalStateException") hown [] ⟨0, 8, 11, 13⟩ [] htab (fun z h => absurd h List.not_mem_nil) (by decide) (by decide) (ht _ mw_190) (va_Nw.use rfl (hE.1.2.2.2.2.2 "java/lang/IllegalStateException" (by decide +kernel))) hc1 hv1 hcl ?_
      refine lv_astore_n (lv' := [(2, .ref q9), (0, .ref (ad 0)), (1, .ref qo)]) hx hb dL_read_11 rfl hl (by decide) rfl (fun ls hl => ?_)
      refine lv_iconst (v := 1) hx hb dL_read_12 (by decide) ?_
      refine W.widen (k := 1) (n := 6) (by decide) (by decide) ?_
      exact vx_ret (W.iret (v := 1) hx hb hr (fun t ht hW => ⟨⟨1, (σ, f), rfl, (wr_eI hTe (by decide +kernel)), by rw [ht]; exact hP, va_K.moved hW.alike hK, hD⟩, hS.F ht⟩) hS.2.2 dL_read_13)
  · have hz : vp_in (0 : Int32) 1 := vp_in_nI (n := 0) (by decide) (by decide)
    refine lv_i2l hx hb dL_read_6 rfl ?_
    refine va_last (i := 0) (x := r.toInt64) hx hb hK hP hD hS 0 0 rfl rfl hz dL_read_7 (fun H locs hP hD hS => ?_)
    refine lv_goto (tgt := 14) hx hb dL_read_8 (by decide) ?_
    refine lv_iconst (v := 0) hx hb dL_read_14 (by decide) ?_
    refine W.widen (k := 1) (n := 6) (by decide) (by decide) ?_
    exact vx_ret (W.iret (v := 0) hx hb hr (fun t ht hW => ⟨⟨0, (u, vp_updL f (0 : Int32).toNatClampNeg r.toInt64), rfl, (by rw [← hw]; exact ⟨rfl, rfl, rfl⟩), by rw [ht]; exact hP, va_K.moved hW.alike hK, hD⟩, hS.F ht⟩) hS.2.2 dL_read_15)
theorem E_uses {σ : St} {p1 : Int32} {p2 : Int32} {E : String} (h : Except.error E = M_uses σ p1 p2) : E = "java/lang/IndexOutOfBoundsException" := by
  unfold M_uses at h
  try simp only [pb, vb] at h
  (repeat' (first | (rcases xb_err h with h | ⟨_, _, h⟩) | (split at h)))
  all_goals first | (cases h; done) | (cases h; first | exact rfl | exact Or.inl rfl | exact Or.inr rfl | exact Or.inr (Or.inl rfl) | exact Or.inr (Or.inr rfl)) | (have e := chk_err h; subst e; first | exact rfl | exact Or.inl rfl | exact Or.inr rfl | exact Or.inr (Or.inl rfl) | exact Or.inr (Or.inr rfl)) | (have e := hour_err h; subst e; first | exact rfl | exact Or.inl rfl | exact Or.inr rfl | exact Or.inr (Or.inl rfl) | exact Or.inr (Or.inr rfl))
set_option maxHeartbeats 4000000 in
set_option maxRecDepth 100000 in
theorem k_w_uses (l : Launch) (hl9 : l.stackTraces = false) (D : va_G) (qo : Nat) (kL : ClassId) (ad : Nat → Nat) (kk : Nat → ClassId) (sz : Nat) (f : Nat → Int64) (σ : St) (p1 : Int32) (p2 : Int32) (hI : IB σ) : vx_Met l yL_uses wsL_uses { frames := 9, cells := 2, slots := 12, locals := 155 } (va_Pc [.ref (ad 0), .int p1, .int p2, .ref qo] (PW D qo kL ad kk sz f σ)) (va_Qi (wrP (tR σ (M_uses σ p1 p2)) ["java/lang/IndexOutOfBoundsException"] σ f) (QW D qo kL ad kk sz) (aW qo ad sz)) (fun _ _ _ => False) 2 12 (aW qo ad sz) := by
  refine vx_ofWH (cc := cL_uses) (maxL := 5) (ret := (some .int)) (by decide) rfl ?_
  intro p e s m args below meth c s₁ B hml hv
  obtain ⟨rfl, hsz, hP, hK, hD0, hE⟩ := hv
  have hx := B.exec
  have hb := B.bytes
  have hr := B.returns
  have hts := atoms_spec (ws := wsL_uses) B.pre
  have hown : s.vm.findClass RL = some m.cls := findClass_of_methodNamed B.named
  have hlocks := B.notSynchronized
  have htab := vx_table (x := yL_uses) B (hts _ List.mem_cons_self)
  subst hsz
  have hD : va_D (aW qo ad s.heap.size) (wW qo kL f ad kk σ) := wW_D hD0
  have hS : va_S (aW qo ad s.heap.size) s.heap s.heap [] := va_S.rf
  have hl := lv_entry ([.ref (ad 0), .int p1, .int p2, .ref qo]) (n := 5) (Nat.le_of_ble_eq_true rfl)
  rw [lg_entry_eq]
  generalize (lg_sl ([.ref (ad 0), .int p1, .int p2, .ref qo]) ++ List.replicate (5 - (lg_sl ([.ref (ad 0), .int p1, .int p2, .ref qo])).length) Slot.unset).toArray = ls at hl ⊢
  have hl : lv_has ls 5 [(0, .ref (ad 0)), (1, .int p1), (2, .int p2), (3, .ref qo)] := hl
  have CF : CallFix p m c cL_uses 5 s ([.ref (ad 0), .int p1, .int p2, .ref qo] : List Value).toArray wsL_uses RL := ⟨hx, hb, hml, hown, hts⟩
  have ht : ∀ w ∈ T0, w.before ([.ref (ad 0), .int p1, .int p2, .ref qo] : List Value).toArray s = true := fun w h => hts w (List.mem_cons_of_mem _ h)
  refine lv_aload_n hx hb dL_uses_0 rfl (lv_at hl 3 rfl) ?_
  refine lv_iconst (v := 0) hx hb dL_uses_1 (by decide) ?_
  refine lv_aload_n hx hb dL_uses_2 rfl (lv_at hl 0 rfl) ?_
  refine lv_iload_n hx hb dL_uses_3 rfl (lv_at hl 1 rfl) ?_
  refine lv_iload_n hx hb dL_uses_4 rfl (lv_at hl 2 rfl) ?_
  refine kW_i (vx_runV (As := [.int p1, .int p2]) (rest := [.int 0, .ref qo]) CF (k_uses l hl9 D ad kk _ σ p1 p2 hI) ⟨callB_of 2 hts (gT mw_344) rfl rfl rfl (ht _ mw_1) (ht _ mw_341) (by decide +kernel) ⟨Nat.le_of_ble_eq_true rfl, Nat.le_of_ble_eq_true rfl⟩, (ht _ mw_342), (ht _ mw_343)⟩ (preV_W hK hP hD hE hS) rfl rfl hl.1 rfl (lv_room (Nat.le_of_ble_eq_true rfl)) dL_uses_5 ⟨Nat.le_of_ble_eq_true rfl, Nat.le_of_ble_eq_true rfl⟩) hP hD hS (fun E ce q9 H locs hTe hP hD hS hc1 hv1 hcl => ?_) (fun r u H locs hw hP hD hS => ?_)
  · rcases E_uses hTe with rfl
    · refine vx_catch (name := "java/lang/IndexOutOfBoundsException") hown [] ⟨0, 10, 13, 25⟩ [] htab (fun z h => absurd h List.not_mem_nil) (by decide) (by decide) (ht _ mw_340) (va_Nw.use rfl (hE.1.2.2.2.2.2 "java/lang/IndexOutOfBoundsException" (by decide +kernel))) hc1 hv1 hcl ?_
      refine lv_astore (lv' := [(4, .ref q9), (0, .ref (ad 0)), (1, .int p1), (2, .int p2), (3, .ref qo)]) hx hb dL_uses_13 hl (by decide) rfl (fun ls hl => ?_)
      refine lv_iconst (v := 1) hx hb dL_uses_15 (by decide) ?_
      refine W.widen (k := 2) (n := 12) (by decide) (by decide) ?_
      exact vx_ret (W.iret (v := 1) hx hb hr (fun t ht hW => ⟨⟨1, (σ, f), rfl, (wr_eR hTe (by decide +kernel)), by rw [ht]; exact hP, va_K.moved hW.alike hK, hD⟩, hS.F ht⟩) hS.2.2 dL_uses_16)
  · have hz : vp_in (0 : Int32) 1 := vp_in_nI (n := 0) (by decide) (by decide)
    obtain ⟨hw, e9⟩ := hw
    rw [e9] at hP hD
    refine lv_i2l hx hb dL_uses_8 rfl ?_
    refine va_last (i := 0) (x := r.toInt64) hx hb hK hP hD hS 0 0 rfl rfl hz dL_uses_9 (fun H locs hP hD hS => ?_)
    refine lv_goto (tgt := 17) hx hb dL_uses_10 (by decide) ?_
    refine lv_iconst (v := 0) hx hb dL_uses_17 (by decide) ?_
    refine W.widen (k := 2) (n := 12) (by decide) (by decide) ?_
    exact vx_ret (W.iret (v := 0) hx hb hr (fun t ht hW => ⟨⟨0, (σ, vp_updL f (0 : Int32).toNatClampNeg r.toInt64), rfl, (by rw [← hw]; exact ⟨rfl, rfl, rfl⟩), by rw [ht]; exact hP, va_K.moved hW.alike hK, hD⟩, hS.F ht⟩) hS.2.2 dL_uses_18)
theorem E_object {σ : St} {E : String} (h : Except.error E = M_object σ) : E = "java/lang/IllegalStateException" := by
  unfold M_object at h
  try simp only [pb, vb] at h
  (repeat' (first | (rcases xb_err h with h | ⟨_, _, h⟩) | (split at h)))
  all_goals first | (cases h; done) | (cases h; first | exact rfl | exact Or.inl rfl | exact Or.inr rfl | exact Or.inr (Or.inl rfl) | exact Or.inr (Or.inr rfl)) | (have e := chk_err h; subst e; first | exact rfl | exact Or.inl rfl | exact Or.inr rfl | exact Or.inr (Or.inl rfl) | exact Or.inr (Or.inr rfl)) | (have e := hour_err h; subst e; first | exact rfl | exact Or.inl rfl | exact Or.inr rfl | exact Or.inr (Or.inl rfl) | exact Or.inr (Or.inr rfl))
set_option maxHeartbeats 4000000 in
set_option maxRecDepth 100000 in
theorem k_w_object (l : Launch) (hl9 : l.stackTraces = false) (D : va_G) (qo : Nat) (kL : ClassId) (ad : Nat → Nat) (kk : Nat → ClassId) (sz : Nat) (f : Nat → Int64) (σ : St) : vx_Met l yL_object wsL_object { frames := 7, cells := 1, slots := 6, locals := 110 } (va_Pc [.ref (ad 0), .ref qo] (PW D qo kL ad kk sz f σ)) (va_Qi (wrP (tI (M_object σ)) ["java/lang/IllegalStateException"] σ f) (QW D qo kL ad kk sz) (aW qo ad sz)) (fun _ _ _ => False) 1 6 (aW qo ad sz) := by
  refine vx_ofWH (cc := cL_object) (maxL := 3) (ret := (some .int)) (by decide) rfl ?_
  intro p e s m args below meth c s₁ B hml hv
  obtain ⟨rfl, hsz, hP, hK, hD0, hE⟩ := hv
  have hx := B.exec
  have hb := B.bytes
  have hr := B.returns
  have hts := atoms_spec (ws := wsL_object) B.pre
  have hown : s.vm.findClass RL = some m.cls := findClass_of_methodNamed B.named
  have hlocks := B.notSynchronized
  have htab := vx_table (x := yL_object) B (hts _ List.mem_cons_self)
  subst hsz
  have hD : va_D (aW qo ad s.heap.size) (wW qo kL f ad kk σ) := wW_D hD0
  have hS : va_S (aW qo ad s.heap.size) s.heap s.heap [] := va_S.rf
  have hl := lv_entry ([.ref (ad 0), .ref qo]) (n := 3) (Nat.le_of_ble_eq_true rfl)
  rw [lg_entry_eq]
  generalize (lg_sl ([.ref (ad 0), .ref qo]) ++ List.replicate (3 - (lg_sl ([.ref (ad 0), .ref qo])).length) Slot.unset).toArray = ls at hl ⊢
  have hl : lv_has ls 3 [(0, .ref (ad 0)), (1, .ref qo)] := hl
  have CF : CallFix p m c cL_object 3 s ([.ref (ad 0), .ref qo] : List Value).toArray wsL_object RL := ⟨hx, hb, hml, hown, hts⟩
  have ht : ∀ w ∈ T0, w.before ([.ref (ad 0), .ref qo] : List Value).toArray s = true := fun w h => hts w (List.mem_cons_of_mem _ h)
  refine lv_aload_n hx hb dL_object_0 rfl (lv_at hl 1 rfl) ?_
  refine lv_iconst (v := 0) hx hb dL_object_1 (by decide) ?_
  refine lv_aload_n hx hb dL_object_2 rfl (lv_at hl 0 rfl) ?_
  refine kW_i (vx_runV (As := []) (rest := [.int 0, .ref qo]) CF (k_object l hl9 D ad kk _ σ) ⟨callB_of 0 hts (gT mw_374) rfl rfl rfl (ht _ mw_1) (ht _ mw_371) (by decide +kernel) ⟨Nat.le_of_ble_eq_true rfl, Nat.le_of_ble_eq_true rfl⟩, (ht _ mw_372), (ht _ mw_373)⟩ (preV_W hK hP hD hE hS) rfl rfl hl.1 rfl (lv_room (Nat.le_of_ble_eq_true rfl)) dL_object_3 ⟨Nat.le_of_ble_eq_true rfl, Nat.le_of_ble_eq_true rfl⟩) hP hD hS (fun E ce q9 H locs hTe hP hD hS hc1 hv1 hcl => ?_) (fun r u H locs hw hP hD hS => ?_)
  · rcases E_object hTe with rfl
    · refine vx_catch (name := "java/lang/IllegalStateException") hown [] ⟨0, 8, 11, 13⟩ [] htab (fun z h => absurd h List.not_mem_nil) (by decide) (by decide) (ht _ mw_190) (va_Nw.use rfl (hE.1.2.2.2.2.2 "java/lang/IllegalStateException" (by decide +kernel))) hc1 hv1 hcl ?_
      refine lv_astore_n (lv' := [(2, .ref q9), (0, .ref (ad 0)), (1, .ref qo)]) hx hb dL_object_11 rfl hl (by decide) rfl (fun ls hl => ?_)
      refine lv_iconst (v := 1) hx hb dL_object_12 (by decide) ?_
      refine W.widen (k := 1) (n := 6) (by decide) (by decide) ?_
      exact vx_ret (W.iret (v := 1) hx hb hr (fun t ht hW => ⟨⟨1, (σ, f), rfl, (wr_eI hTe (by decide +kernel)), by rw [ht]; exact hP, va_K.moved hW.alike hK, hD⟩, hS.F ht⟩) hS.2.2 dL_object_13)
  · have hz : vp_in (0 : Int32) 1 := vp_in_nI (n := 0) (by decide) (by decide)
    refine lv_i2l hx hb dL_object_6 rfl ?_
    refine va_last (i := 0) (x := r.toInt64) hx hb hK hP hD hS 0 0 rfl rfl hz dL_object_7 (fun H locs hP hD hS => ?_)
    refine lv_goto (tgt := 14) hx hb dL_object_8 (by decide) ?_
    refine lv_iconst (v := 0) hx hb dL_object_14 (by decide) ?_
    refine W.widen (k := 1) (n := 6) (by decide) (by decide) ?_
    exact vx_ret (W.iret (v := 0) hx hb hr (fun t ht hW => ⟨⟨0, (u, vp_updL f (0 : Int32).toNatClampNeg r.toInt64), rfl, (by rw [← hw]; exact ⟨rfl, rfl, rfl⟩), by rw [ht]; exact hP, va_K.moved hW.alike hK, hD⟩, hS.F ht⟩) hS.2.2 dL_object_15)
theorem E_part {σ : St} {p1 : Int32} {p2 : Int32} {E : String} (h : Except.error E = M_part σ p1 p2) : E = "java/lang/IndexOutOfBoundsException" ∨ E = "java/lang/IllegalStateException" := by
  unfold M_part at h
  try simp only [pb, vb] at h
  (repeat' (first | (rcases xb_err h with h | ⟨_, _, h⟩) | (split at h)))
  all_goals first | (cases h; done) | (cases h; first | exact rfl | exact Or.inl rfl | exact Or.inr rfl | exact Or.inr (Or.inl rfl) | exact Or.inr (Or.inr rfl)) | (have e := chk_err h; subst e; first | exact rfl | exact Or.inl rfl | exact Or.inr rfl | exact Or.inr (Or.inl rfl) | exact Or.inr (Or.inr rfl)) | (have e := hour_err h; subst e; first | exact rfl | exact Or.inl rfl | exact Or.inr rfl | exact Or.inr (Or.inl rfl) | exact Or.inr (Or.inr rfl))
set_option maxHeartbeats 4000000 in
set_option maxRecDepth 100000 in
theorem k_w_part (l : Launch) (hl9 : l.stackTraces = false) (D : va_G) (qo : Nat) (kL : ClassId) (ad : Nat → Nat) (kk : Nat → ClassId) (sz : Nat) (f : Nat → Int64) (σ : St) (p1 : Int32) (p2 : Int32) (hI : IB σ) : vx_Met l yL_part wsL_part { frames := 9, cells := 3, slots := 18, locals := 155 } (va_Pc [.ref (ad 0), .int p1, .int p2, .ref qo] (PW D qo kL ad kk sz f σ)) (va_Qi (wrP (tI (M_part σ p1 p2)) ["java/lang/IndexOutOfBoundsException", "java/lang/IllegalStateException"] σ f) (QW D qo kL ad kk sz) (aW qo ad sz)) (fun _ _ _ => False) 3 18 (aW qo ad sz) := by
  refine vx_ofWH (cc := cL_part) (maxL := 5) (ret := (some .int)) (by decide) rfl ?_
  intro p e s m args below meth c s₁ B hml hv
  obtain ⟨rfl, hsz, hP, hK, hD0, hE⟩ := hv
  have hx := B.exec
  have hb := B.bytes
  have hr := B.returns
  have hts := atoms_spec (ws := wsL_part) B.pre
  have hown : s.vm.findClass RL = some m.cls := findClass_of_methodNamed B.named
  have hlocks := B.notSynchronized
  have htab := vx_table (x := yL_part) B (hts _ List.mem_cons_self)
  subst hsz
  have hD : va_D (aW qo ad s.heap.size) (wW qo kL f ad kk σ) := wW_D hD0
  have hS : va_S (aW qo ad s.heap.size) s.heap s.heap [] := va_S.rf
  have hl := lv_entry ([.ref (ad 0), .int p1, .int p2, .ref qo]) (n := 5) (Nat.le_of_ble_eq_true rfl)
  rw [lg_entry_eq]
  generalize (lg_sl ([.ref (ad 0), .int p1, .int p2, .ref qo]) ++ List.replicate (5 - (lg_sl ([.ref (ad 0), .int p1, .int p2, .ref qo])).length) Slot.unset).toArray = ls at hl ⊢
  have hl : lv_has ls 5 [(0, .ref (ad 0)), (1, .int p1), (2, .int p2), (3, .ref qo)] := hl
  have CF : CallFix p m c cL_part 5 s ([.ref (ad 0), .int p1, .int p2, .ref qo] : List Value).toArray wsL_part RL := ⟨hx, hb, hml, hown, hts⟩
  have ht : ∀ w ∈ T0, w.before ([.ref (ad 0), .int p1, .int p2, .ref qo] : List Value).toArray s = true := fun w h => hts w (List.mem_cons_of_mem _ h)
  refine lv_aload_n hx hb dL_part_0 rfl (lv_at hl 3 rfl) ?_
  refine lv_iconst (v := 0) hx hb dL_part_1 (by decide) ?_
  refine lv_aload_n hx hb dL_part_2 rfl (lv_at hl 0 rfl) ?_
  refine lv_iload_n hx hb dL_part_3 rfl (lv_at hl 1 rfl) ?_
  refine lv_iload_n hx hb dL_part_4 rfl (lv_at hl 2 rfl) ?_
  refine kW_i (vx_runV (As := [.int p1, .int p2]) (rest := [.int 0, .ref qo]) CF (k_part l hl9 D ad kk _ σ p1 p2 hI) ⟨callB_of 2 hts (gT mw_382) rfl rfl rfl (ht _ mw_1) (ht _ mw_379) (by decide +kernel) ⟨Nat.le_of_ble_eq_true rfl, Nat.le_of_ble_eq_true rfl⟩, (ht _ mw_380), (ht _ mw_381)⟩ (preV_W hK hP hD hE hS) rfl rfl hl.1 rfl (lv_room (Nat.le_of_ble_eq_true rfl)) dL_part_5 ⟨Nat.le_of_ble_eq_true rfl, Nat.le_of_ble_eq_true rfl⟩) hP hD hS (fun E ce q9 H locs hTe hP hD hS hc1 hv1 hcl => ?_) (fun r u H locs hw hP hD hS => ?_)
  · rcases E_part hTe with rfl | rfl
    · refine vx_catch (name := "java/lang/IndexOutOfBoundsException") hown [] ⟨0, 10, 13, 25⟩ [⟨0, 10, 17, 13⟩] htab (fun z h => absurd h List.not_mem_nil) (by decide) (by decide) (ht _ mw_340) (va_Nw.use rfl (hE.1.2.2.2.2.2 "java/lang/IndexOutOfBoundsException" (by decide +kernel))) hc1 hv1 hcl ?_
      refine lv_astore (lv' := [(4, .ref q9), (0, .ref (ad 0)), (1, .int p1), (2, .int p2), (3, .ref qo)]) hx hb dL_part_13 hl (by decide) rfl (fun ls hl => ?_)
      refine lv_iconst (v := 1) hx hb dL_part_15 (by decide) ?_
      refine W.widen (k := 3) (n := 18) (by decide) (by decide) ?_
      exact vx_ret (W.iret (v := 1) hx hb hr (fun t ht hW => ⟨⟨1, (σ, f), rfl, (wr_eI hTe (by decide +kernel)), by rw [ht]; exact hP, va_K.moved hW.alike hK, hD⟩, hS.F ht⟩) hS.2.2 dL_part_16)
    · refine vx_catch (name := "java/lang/IllegalStateException") hown [⟨0, 10, 13, 25⟩] ⟨0, 10, 17, 13⟩ [] htab (fun z h => Or.inr (by
          rcases List.mem_cons.mp h with rfl | h
          · exact ⟨by decide, "java/lang/IndexOutOfBoundsException", (ht _ mw_340), hE.2 ("java/lang/IllegalStateException", "java/lang/IndexOutOfBoundsException") (by decide +kernel)⟩
          exact absurd h List.not_mem_nil)) (by decide) (by decide) (ht _ mw_190) (va_Nw.use rfl (hE.1.2.2.2.2.2 "java/lang/IllegalStateException" (by decide +kernel))) hc1 hv1 hcl ?_
      refine lv_astore (lv' := [(4, .ref q9), (0, .ref (ad 0)), (1, .int p1), (2, .int p2), (3, .ref qo)]) hx hb dL_part_17 hl (by decide) rfl (fun ls hl => ?_)
      refine lv_iconst (v := 2) hx hb dL_part_19 (by decide) ?_
      refine W.widen (k := 3) (n := 18) (by decide) (by decide) ?_
      exact vx_ret (W.iret (v := 2) hx hb hr (fun t ht hW => ⟨⟨2, (σ, f), rfl, (wr_eI hTe (by decide +kernel)), by rw [ht]; exact hP, va_K.moved hW.alike hK, hD⟩, hS.F ht⟩) hS.2.2 dL_part_20)
  · have hz : vp_in (0 : Int32) 1 := vp_in_nI (n := 0) (by decide) (by decide)
    refine lv_i2l hx hb dL_part_8 rfl ?_
    refine va_last (i := 0) (x := r.toInt64) hx hb hK hP hD hS 0 0 rfl rfl hz dL_part_9 (fun H locs hP hD hS => ?_)
    refine lv_goto (tgt := 21) hx hb dL_part_10 (by decide) ?_
    refine lv_iconst (v := 0) hx hb dL_part_21 (by decide) ?_
    refine W.widen (k := 3) (n := 18) (by decide) (by decide) ?_
    exact vx_ret (W.iret (v := 0) hx hb hr (fun t ht hW => ⟨⟨0, (u, vp_updL f (0 : Int32).toNatClampNeg r.toInt64), rfl, (by rw [← hw]; exact ⟨rfl, rfl, rfl⟩), by rw [ht]; exact hP, va_K.moved hW.alike hK, hD⟩, hS.F ht⟩) hS.2.2 dL_part_22)
theorem E_right {σ : St} {p1 : Int32} {p2 : Int32} {p3 : Int32} {E : String} (h : Except.error E = M_right σ p1 p2 p3) : E = "java/lang/IndexOutOfBoundsException" := by
  unfold M_right at h
  try simp only [pb, vb] at h
  (repeat' (first | (rcases xb_err h with h | ⟨_, _, h⟩) | (split at h)))
  all_goals first | (cases h; done) | (cases h; first | exact rfl | exact Or.inl rfl | exact Or.inr rfl | exact Or.inr (Or.inl rfl) | exact Or.inr (Or.inr rfl)) | (have e := chk_err h; subst e; first | exact rfl | exact Or.inl rfl | exact Or.inr rfl | exact Or.inr (Or.inl rfl) | exact Or.inr (Or.inr rfl)) | (have e := hour_err h; subst e; first | exact rfl | exact Or.inl rfl | exact Or.inr rfl | exact Or.inr (Or.inl rfl) | exact Or.inr (Or.inr rfl))
set_option maxHeartbeats 4000000 in
set_option maxRecDepth 100000 in
theorem k_w_right (l : Launch) (hl9 : l.stackTraces = false) (D : va_G) (qo : Nat) (kL : ClassId) (ad : Nat → Nat) (kk : Nat → ClassId) (sz : Nat) (f : Nat → Int64) (σ : St) (p1 : Int32) (p2 : Int32) (p3 : Int32) (hI : IB σ) : vx_Met l yL_right wsL_right { frames := 9, cells := 2, slots := 12, locals := 157 } (va_Pc [.ref (ad 0), .int p1, .int p2, .int p3, .ref qo] (PW D qo kL ad kk sz f σ)) (va_Qi (wrP (tZ (M_right σ p1 p2 p3)) ["java/lang/IndexOutOfBoundsException"] σ f) (QW D qo kL ad kk sz) (aW qo ad sz)) (fun _ _ _ => False) 2 12 (aW qo ad sz) := by
  refine vx_ofWH (cc := cL_right) (maxL := 6) (ret := (some .int)) (by decide) rfl ?_
  intro p e s m args below meth c s₁ B hml hv
  obtain ⟨rfl, hsz, hP, hK, hD0, hE⟩ := hv
  have hx := B.exec
  have hb := B.bytes
  have hr := B.returns
  have hts := atoms_spec (ws := wsL_right) B.pre
  have hown : s.vm.findClass RL = some m.cls := findClass_of_methodNamed B.named
  have hlocks := B.notSynchronized
  have htab := vx_table (x := yL_right) B (hts _ List.mem_cons_self)
  subst hsz
  have hD : va_D (aW qo ad s.heap.size) (wW qo kL f ad kk σ) := wW_D hD0
  have hS : va_S (aW qo ad s.heap.size) s.heap s.heap [] := va_S.rf
  have hl := lv_entry ([.ref (ad 0), .int p1, .int p2, .int p3, .ref qo]) (n := 6) (Nat.le_of_ble_eq_true rfl)
  rw [lg_entry_eq]
  generalize (lg_sl ([.ref (ad 0), .int p1, .int p2, .int p3, .ref qo]) ++ List.replicate (6 - (lg_sl ([.ref (ad 0), .int p1, .int p2, .int p3, .ref qo])).length) Slot.unset).toArray = ls at hl ⊢
  have hl : lv_has ls 6 [(0, .ref (ad 0)), (1, .int p1), (2, .int p2), (3, .int p3), (4, .ref qo)] := hl
  have CF : CallFix p m c cL_right 6 s ([.ref (ad 0), .int p1, .int p2, .int p3, .ref qo] : List Value).toArray wsL_right RL := ⟨hx, hb, hml, hown, hts⟩
  have ht : ∀ w ∈ T0, w.before ([.ref (ad 0), .int p1, .int p2, .int p3, .ref qo] : List Value).toArray s = true := fun w h => hts w (List.mem_cons_of_mem _ h)
  refine lv_aload hx hb dL_right_0 (lv_at hl 4 rfl) ?_
  refine lv_iconst (v := 0) hx hb dL_right_2 (by decide) ?_
  refine lv_aload_n hx hb dL_right_3 rfl (lv_at hl 0 rfl) ?_
  refine lv_iload_n hx hb dL_right_4 rfl (lv_at hl 1 rfl) ?_
  refine lv_iload_n hx hb dL_right_5 rfl (lv_at hl 2 rfl) ?_
  refine lv_iload_n hx hb dL_right_6 rfl (lv_at hl 3 rfl) ?_
  refine kW_i (vx_runV (As := [.int p1, .int p2, .int p3]) (rest := [.int 0, .ref qo]) CF (k_right l hl9 D ad kk _ σ p1 p2 p3 hI) ⟨callB_of 3 hts (gT mw_399) rfl rfl rfl (ht _ mw_1) (ht _ mw_396) (by decide +kernel) ⟨Nat.le_of_ble_eq_true rfl, Nat.le_of_ble_eq_true rfl⟩, (ht _ mw_397), (ht _ mw_398)⟩ (preV_W hK hP hD hE hS) rfl rfl hl.1 rfl (lv_room (Nat.le_of_ble_eq_true rfl)) dL_right_7 ⟨Nat.le_of_ble_eq_true rfl, Nat.le_of_ble_eq_true rfl⟩) hP hD hS (fun E ce q9 H locs hTe hP hD hS hc1 hv1 hcl => ?_) (fun r u H locs hw hP hD hS => ?_)
  · rcases E_right hTe with rfl
    · refine vx_catch (name := "java/lang/IndexOutOfBoundsException") hown [] ⟨0, 19, 22, 25⟩ [] htab (fun z h => absurd h List.not_mem_nil) (by decide) (by decide) (ht _ mw_340) (va_Nw.use rfl (hE.1.2.2.2.2.2 "java/lang/IndexOutOfBoundsException" (by decide +kernel))) hc1 hv1 hcl ?_
      refine lv_astore (lv' := [(5, .ref q9), (0, .ref (ad 0)), (1, .int p1), (2, .int p2), (3, .int p3), (4, .ref qo)]) hx hb dL_right_22 hl (by decide) rfl (fun ls hl => ?_)
      refine lv_iconst (v := 1) hx hb dL_right_24 (by decide) ?_
      refine W.widen (k := 2) (n := 12) (by decide) (by decide) ?_
      exact vx_ret (W.iret (v := 1) hx hb hr (fun t ht hW => ⟨⟨1, (σ, f), rfl, (wr_eZ hTe (by decide +kernel)), by rw [ht]; exact hP, va_K.moved hW.alike hK, hD⟩, hS.F ht⟩) hS.2.2 dL_right_25)
  · have hz : vp_in (0 : Int32) 1 := vp_in_nI (n := 0) (by decide) (by decide)
    refine lv_if_eq (tgt := 17) hx hb dL_right_10 (by decide) (fun c0 => ?_) (fun c0 => ?_)
    · refine lv_lconst (v := 0) hx hb dL_right_17 (by decide) ?_
      refine va_last (i := 0) (x := 0) hx hb hK hP hD hS 0 0 rfl rfl hz dL_right_18 (fun H locs hP hD hS => ?_)
      refine lv_goto (tgt := 26) hx hb dL_right_19 (by decide) ?_
      refine lv_iconst (v := 0) hx hb dL_right_26 (by decide) ?_
      refine W.widen (k := 2) (n := 12) (by decide) (by decide) ?_
      exact vx_ret (W.iret (v := 0) hx hb hr (fun t ht hW => ⟨⟨0, (u, vp_updL f (0 : Int32).toNatClampNeg 0), rfl, (by rw [← hw]; exact ⟨rfl, rfl, (if_pos c0).symm⟩), by rw [ht]; exact hP, va_K.moved hW.alike hK, hD⟩, hS.F ht⟩) hS.2.2 dL_right_27)
    · refine lv_lconst (v := 1) hx hb dL_right_13 (by decide) ?_
      refine lv_goto (tgt := 18) hx hb dL_right_14 (by decide) ?_
      refine va_last (i := 0) (x := 1) hx hb hK hP hD hS 0 0 rfl rfl hz dL_right_18 (fun H locs hP hD hS => ?_)
      refine lv_goto (tgt := 26) hx hb dL_right_19 (by decide) ?_
      refine lv_iconst (v := 0) hx hb dL_right_26 (by decide) ?_
      refine W.widen (k := 2) (n := 12) (by decide) (by decide) ?_
      exact vx_ret (W.iret (v := 0) hx hb hr (fun t ht hW => ⟨⟨0, (u, vp_updL f (0 : Int32).toNatClampNeg 1), rfl, (by rw [← hw]; exact ⟨rfl, rfl, (if_neg c0).symm⟩), by rw [ht]; exact hP, va_K.moved hW.alike hK, hD⟩, hS.F ht⟩) hS.2.2 dL_right_27)
theorem E_trial {σ : St} {p1 : Int32} {p2 : Int32} {p3 : Int32} {E : String} (h : Except.error E = M_trial σ p1 p2 p3) : E = "java/lang/IndexOutOfBoundsException" := by
  unfold M_trial at h
  try simp only [pb, vb] at h
  (repeat' (first | (rcases xb_err h with h | ⟨_, _, h⟩) | (split at h)))
  all_goals first | (cases h; done) | (cases h; first | exact rfl | exact Or.inl rfl | exact Or.inr rfl | exact Or.inr (Or.inl rfl) | exact Or.inr (Or.inr rfl)) | (have e := chk_err h; subst e; first | exact rfl | exact Or.inl rfl | exact Or.inr rfl | exact Or.inr (Or.inl rfl) | exact Or.inr (Or.inr rfl)) | (have e := hour_err h; subst e; first | exact rfl | exact Or.inl rfl | exact Or.inr rfl | exact Or.inr (Or.inl rfl) | exact Or.inr (Or.inr rfl))
set_option maxHeartbeats 4000000 in
set_option maxRecDepth 100000 in
theorem k_w_trial (l : Launch) (hl9 : l.stackTraces = false) (D : va_G) (qo : Nat) (kL : ClassId) (ad : Nat → Nat) (kk : Nat → ClassId) (sz : Nat) (f : Nat → Int64) (σ : St) (p1 : Int32) (p2 : Int32) (p3 : Int32) (hI : IB σ) : vx_Met l yL_trial wsL_trial { frames := 9, cells := 2, slots := 12, locals := 157 } (va_Pc [.ref (ad 0), .int p1, .int p2, .int p3, .ref qo] (PW D qo kL ad kk sz f σ)) (va_Qi (wrP (tZ (M_trial σ p1 p2 p3)) ["java/lang/IndexOutOfBoundsException"] σ f) (QW D qo kL ad kk sz) (aW qo ad sz)) (fun _ _ _ => False) 2 12 (aW qo ad sz) := by
  refine vx_ofWH (cc := cL_trial) (maxL := 6) (ret := (some .int)) (by decide) rfl ?_
  intro p e s m args below meth c s₁ B hml hv
  obtain ⟨rfl, hsz, hP, hK, hD0, hE⟩ := hv
  have hx := B.exec
  have hb := B.bytes
  have hr := B.returns
  have hts := atoms_spec (ws := wsL_trial) B.pre
  have hown : s.vm.findClass RL = some m.cls := findClass_of_methodNamed B.named
  have hlocks := B.notSynchronized
  have htab := vx_table (x := yL_trial) B (hts _ List.mem_cons_self)
  subst hsz
  have hD : va_D (aW qo ad s.heap.size) (wW qo kL f ad kk σ) := wW_D hD0
  have hS : va_S (aW qo ad s.heap.size) s.heap s.heap [] := va_S.rf
  have hl := lv_entry ([.ref (ad 0), .int p1, .int p2, .int p3, .ref qo]) (n := 6) (Nat.le_of_ble_eq_true rfl)
  rw [lg_entry_eq]
  generalize (lg_sl ([.ref (ad 0), .int p1, .int p2, .int p3, .ref qo]) ++ List.replicate (6 - (lg_sl ([.ref (ad 0), .int p1, .int p2, .int p3, .ref qo])).length) Slot.unset).toArray = ls at hl ⊢
  have hl : lv_has ls 6 [(0, .ref (ad 0)), (1, .int p1), (2, .int p2), (3, .int p3), (4, .ref qo)] := hl
  have CF : CallFix p m c cL_trial 6 s ([.ref (ad 0), .int p1, .int p2, .int p3, .ref qo] : List Value).toArray wsL_trial RL := ⟨hx, hb, hml, hown, hts⟩
  have ht : ∀ w ∈ T0, w.before ([.ref (ad 0), .int p1, .int p2, .int p3, .ref qo] : List Value).toArray s = true := fun w h => hts w (List.mem_cons_of_mem _ h)
  refine lv_aload hx hb dL_trial_0 (lv_at hl 4 rfl) ?_
  refine lv_iconst (v := 0) hx hb dL_trial_2 (by decide) ?_
  refine lv_aload_n hx hb dL_trial_3 rfl (lv_at hl 0 rfl) ?_
  refine lv_iload_n hx hb dL_trial_4 rfl (lv_at hl 1 rfl) ?_
  refine lv_iload_n hx hb dL_trial_5 rfl (lv_at hl 2 rfl) ?_
  refine lv_iload_n hx hb dL_trial_6 rfl (lv_at hl 3 rfl) ?_
  refine kW_i (vx_runV (As := [.int p1, .int p2, .int p3]) (rest := [.int 0, .ref qo]) CF (k_trial l hl9 D ad kk _ σ p1 p2 p3 hI) ⟨callB_of 3 hts (gT mw_410) rfl rfl rfl (ht _ mw_1) (ht _ mw_407) (by decide +kernel) ⟨Nat.le_of_ble_eq_true rfl, Nat.le_of_ble_eq_true rfl⟩, (ht _ mw_408), (ht _ mw_409)⟩ (preV_W hK hP hD hE hS) rfl rfl hl.1 rfl (lv_room (Nat.le_of_ble_eq_true rfl)) dL_trial_7 ⟨Nat.le_of_ble_eq_true rfl, Nat.le_of_ble_eq_true rfl⟩) hP hD hS (fun E ce q9 H locs hTe hP hD hS hc1 hv1 hcl => ?_) (fun r u H locs hw hP hD hS => ?_)
  · rcases E_trial hTe with rfl
    · refine vx_catch (name := "java/lang/IndexOutOfBoundsException") hown [] ⟨0, 19, 22, 25⟩ [] htab (fun z h => absurd h List.not_mem_nil) (by decide) (by decide) (ht _ mw_340) (va_Nw.use rfl (hE.1.2.2.2.2.2 "java/lang/IndexOutOfBoundsException" (by decide +kernel))) hc1 hv1 hcl ?_
      refine lv_astore (lv' := [(5, .ref q9), (0, .ref (ad 0)), (1, .int p1), (2, .int p2), (3, .int p3), (4, .ref qo)]) hx hb dL_trial_22 hl (by decide) rfl (fun ls hl => ?_)
      refine lv_iconst (v := 1) hx hb dL_trial_24 (by decide) ?_
      refine W.widen (k := 2) (n := 12) (by decide) (by decide) ?_
      exact vx_ret (W.iret (v := 1) hx hb hr (fun t ht hW => ⟨⟨1, (σ, f), rfl, (wr_eZ hTe (by decide +kernel)), by rw [ht]; exact hP, va_K.moved hW.alike hK, hD⟩, hS.F ht⟩) hS.2.2 dL_trial_25)
  · have hz : vp_in (0 : Int32) 1 := vp_in_nI (n := 0) (by decide) (by decide)
    refine lv_if_eq (tgt := 17) hx hb dL_trial_10 (by decide) (fun c0 => ?_) (fun c0 => ?_)
    · refine lv_lconst (v := 0) hx hb dL_trial_17 (by decide) ?_
      refine va_last (i := 0) (x := 0) hx hb hK hP hD hS 0 0 rfl rfl hz dL_trial_18 (fun H locs hP hD hS => ?_)
      refine lv_goto (tgt := 26) hx hb dL_trial_19 (by decide) ?_
      refine lv_iconst (v := 0) hx hb dL_trial_26 (by decide) ?_
      refine W.widen (k := 2) (n := 12) (by decide) (by decide) ?_
      exact vx_ret (W.iret (v := 0) hx hb hr (fun t ht hW => ⟨⟨0, (u, vp_updL f (0 : Int32).toNatClampNeg 0), rfl, (by rw [← hw]; exact ⟨rfl, rfl, (if_pos c0).symm⟩), by rw [ht]; exact hP, va_K.moved hW.alike hK, hD⟩, hS.F ht⟩) hS.2.2 dL_trial_27)
    · refine lv_lconst (v := 1) hx hb dL_trial_13 (by decide) ?_
      refine lv_goto (tgt := 18) hx hb dL_trial_14 (by decide) ?_
      refine va_last (i := 0) (x := 1) hx hb hK hP hD hS 0 0 rfl rfl hz dL_trial_18 (fun H locs hP hD hS => ?_)
      refine lv_goto (tgt := 26) hx hb dL_trial_19 (by decide) ?_
      refine lv_iconst (v := 0) hx hb dL_trial_26 (by decide) ?_
      refine W.widen (k := 2) (n := 12) (by decide) (by decide) ?_
      exact vx_ret (W.iret (v := 0) hx hb hr (fun t ht hW => ⟨⟨0, (u, vp_updL f (0 : Int32).toNatClampNeg 1), rfl, (by rw [← hw]; exact ⟨rfl, rfl, (if_neg c0).symm⟩), by rw [ht]; exact hP, va_K.moved hW.alike hK, hD⟩, hS.F ht⟩) hS.2.2 dL_trial_27)
theorem E_reason {σ : St} {p1 : Int32} {p2 : Int32} {p3 : Int32} {p4 : Int32} {E : String} (h : Except.error E = M_reason σ p1 p2 p3 p4) : E = "java/lang/IndexOutOfBoundsException" ∨ E = "java/lang/IllegalArgumentException" := by
  unfold M_reason at h
  try simp only [pb, vb] at h
  (repeat' (first | (rcases xb_err h with h | ⟨_, _, h⟩) | (split at h)))
  all_goals first | (cases h; done) | (cases h; first | exact rfl | exact Or.inl rfl | exact Or.inr rfl | exact Or.inr (Or.inl rfl) | exact Or.inr (Or.inr rfl)) | (have e := chk_err h; subst e; first | exact rfl | exact Or.inl rfl | exact Or.inr rfl | exact Or.inr (Or.inl rfl) | exact Or.inr (Or.inr rfl)) | (have e := hour_err h; subst e; first | exact rfl | exact Or.inl rfl | exact Or.inr rfl | exact Or.inr (Or.inl rfl) | exact Or.inr (Or.inr rfl))
set_option maxHeartbeats 4000000 in
set_option maxRecDepth 100000 in
theorem k_w_reason (l : Launch) (hl9 : l.stackTraces = false) (D : va_G) (qo : Nat) (kL : ClassId) (ad : Nat → Nat) (kk : Nat → ClassId) (sz : Nat) (f : Nat → Int64) (σ : St) (p1 : Int32) (p2 : Int32) (p3 : Int32) (p4 : Int32) (hI : IB σ) : vx_Met l yL_reason wsL_reason { frames := 9, cells := 4, slots := 24, locals := 158 } (va_Pc [.ref (ad 0), .int p1, .int p2, .int p3, .int p4, .ref qo] (PW D qo kL ad kk sz f σ)) (va_Qi (wrP (tR σ (M_reason σ p1 p2 p3 p4)) ["java/lang/IndexOutOfBoundsException", "java/lang/IllegalArgumentException"] σ f) (QW D qo kL ad kk sz) (aW qo ad sz)) (fun _ _ _ => False) 4 24 (aW qo ad sz) := by
  refine vx_ofWH (cc := cL_reason) (maxL := 7) (ret := (some .int)) (by decide) rfl ?_
  intro p e s m args below meth c s₁ B hml hv
  obtain ⟨rfl, hsz, hP, hK, hD0, hE⟩ := hv
  have hx := B.exec
  have hb := B.bytes
  have hr := B.returns
  have hts := atoms_spec (ws := wsL_reason) B.pre
  have hown : s.vm.findClass RL = some m.cls := findClass_of_methodNamed B.named
  have hlocks := B.notSynchronized
  have htab := vx_table (x := yL_reason) B (hts _ List.mem_cons_self)
  subst hsz
  have hD : va_D (aW qo ad s.heap.size) (wW qo kL f ad kk σ) := wW_D hD0
  have hS : va_S (aW qo ad s.heap.size) s.heap s.heap [] := va_S.rf
  have hl := lv_entry ([.ref (ad 0), .int p1, .int p2, .int p3, .int p4, .ref qo]) (n := 7) (Nat.le_of_ble_eq_true rfl)
  rw [lg_entry_eq]
  generalize (lg_sl ([.ref (ad 0), .int p1, .int p2, .int p3, .int p4, .ref qo]) ++ List.replicate (7 - (lg_sl ([.ref (ad 0), .int p1, .int p2, .int p3, .int p4, .ref qo])).length) Slot.unset).toArray = ls at hl ⊢
  have hl : lv_has ls 7 [(0, .ref (ad 0)), (1, .int p1), (2, .int p2), (3, .int p3), (4, .int p4), (5, .ref qo)] := hl
  have CF : CallFix p m c cL_reason 7 s ([.ref (ad 0), .int p1, .int p2, .int p3, .int p4, .ref qo] : List Value).toArray wsL_reason RL := ⟨hx, hb, hml, hown, hts⟩
  have ht : ∀ w ∈ T0, w.before ([.ref (ad 0), .int p1, .int p2, .int p3, .int p4, .ref qo] : List Value).toArray s = true := fun w h => hts w (List.mem_cons_of_mem _ h)
  refine lv_aload hx hb dL_reason_0 (lv_at hl 5 rfl) ?_
  refine lv_iconst (v := 0) hx hb dL_reason_2 (by decide) ?_
  refine lv_aload_n hx hb dL_reason_3 rfl (lv_at hl 0 rfl) ?_
  refine lv_iload_n hx hb dL_reason_4 rfl (lv_at hl 1 rfl) ?_
  refine lv_iload_n hx hb dL_reason_5 rfl (lv_at hl 2 rfl) ?_
  refine lv_iload_n hx hb dL_reason_6 rfl (lv_at hl 3 rfl) ?_
  refine lv_iload hx hb dL_reason_7 (lv_at hl 4 rfl) ?_
  refine kW_i (vx_runV (As := [.int p1, .int p2, .int p3, .int p4]) (rest := [.int 0, .ref qo]) CF (k_reason l hl9 D ad kk _ σ p1 p2 p3 p4 hI) ⟨callB_of 4 hts (gT mw_417) rfl rfl rfl (ht _ mw_1) (ht _ mw_414) (by decide +kernel) ⟨Nat.le_of_ble_eq_true rfl, Nat.le_of_ble_eq_true rfl⟩, (ht _ mw_415), (ht _ mw_416)⟩ (preV_W hK hP hD hE hS) rfl rfl hl.1 rfl (lv_room (Nat.le_of_ble_eq_true rfl)) dL_reason_9 ⟨Nat.le_of_ble_eq_true rfl, Nat.le_of_ble_eq_true rfl⟩) hP hD hS (fun E ce q9 H locs hTe hP hD hS hc1 hv1 hcl => ?_) (fun r u H locs hw hP hD hS => ?_)
  · rcases E_reason hTe with rfl | rfl
    · refine vx_catch (name := "java/lang/IndexOutOfBoundsException") hown [] ⟨0, 14, 17, 25⟩ [⟨0, 14, 21, 15⟩] htab (fun z h => absurd h List.not_mem_nil) (by decide) (by decide) (ht _ mw_340) (va_Nw.use rfl (hE.1.2.2.2.2.2 "java/lang/IndexOutOfBoundsException" (by decide +kernel))) hc1 hv1 hcl ?_
      refine lv_astore (lv' := [(6, .ref q9), (0, .ref (ad 0)), (1, .int p1), (2, .int p2), (3, .int p3), (4, .int p4), (5, .ref qo)]) hx hb dL_reason_17 hl (by decide) rfl (fun ls hl => ?_)
      refine lv_iconst (v := 1) hx hb dL_reason_19 (by decide) ?_
      refine W.widen (k := 4) (n := 24) (by decide) (by decide) ?_
      exact vx_ret (W.iret (v := 1) hx hb hr (fun t ht hW => ⟨⟨1, (σ, f), rfl, (wr_eR hTe (by decide +kernel)), by rw [ht]; exact hP, va_K.moved hW.alike hK, hD⟩, hS.F ht⟩) hS.2.2 dL_reason_20)
    · refine vx_catch (name := "java/lang/IllegalArgumentException") hown [⟨0, 14, 17, 25⟩] ⟨0, 14, 21, 15⟩ [] htab (fun z h => Or.inr (by
          rcases List.mem_cons.mp h with rfl | h
          · exact ⟨by decide, "java/lang/IndexOutOfBoundsException", (ht _ mw_340), hE.2 ("java/lang/IllegalArgumentException", "java/lang/IndexOutOfBoundsException") (by decide +kernel)⟩
          exact absurd h List.not_mem_nil)) (by decide) (by decide) (ht _ mw_191) (va_Nw.use rfl (hE.1.2.2.2.2.2 "java/lang/IllegalArgumentException" (by decide +kernel))) hc1 hv1 hcl ?_
      refine lv_astore (lv' := [(6, .ref q9), (0, .ref (ad 0)), (1, .int p1), (2, .int p2), (3, .int p3), (4, .int p4), (5, .ref qo)]) hx hb dL_reason_21 hl (by decide) rfl (fun ls hl => ?_)
      refine lv_iconst (v := 2) hx hb dL_reason_23 (by decide) ?_
      refine W.widen (k := 4) (n := 24) (by decide) (by decide) ?_
      exact vx_ret (W.iret (v := 2) hx hb hr (fun t ht hW => ⟨⟨2, (σ, f), rfl, (wr_eR hTe (by decide +kernel)), by rw [ht]; exact hP, va_K.moved hW.alike hK, hD⟩, hS.F ht⟩) hS.2.2 dL_reason_24)
  · have hz : vp_in (0 : Int32) 1 := vp_in_nI (n := 0) (by decide) (by decide)
    obtain ⟨hw, e9⟩ := hw
    rw [e9] at hP hD
    refine lv_i2l hx hb dL_reason_12 rfl ?_
    refine va_last (i := 0) (x := r.toInt64) hx hb hK hP hD hS 0 0 rfl rfl hz dL_reason_13 (fun H locs hP hD hS => ?_)
    refine lv_goto (tgt := 25) hx hb dL_reason_14 (by decide) ?_
    refine lv_iconst (v := 0) hx hb dL_reason_25 (by decide) ?_
    refine W.widen (k := 4) (n := 24) (by decide) (by decide) ?_
    exact vx_ret (W.iret (v := 0) hx hb hr (fun t ht hW => ⟨⟨0, (σ, vp_updL f (0 : Int32).toNatClampNeg r.toInt64), rfl, (by rw [← hw]; exact ⟨rfl, rfl, rfl⟩), by rw [ht]; exact hP, va_K.moved hW.alike hK, hD⟩, hS.F ht⟩) hS.2.2 dL_reason_26)
theorem E_done {σ : St} {p1 : Int32} {p2 : Int32} {p3 : Int32} {p4 : Int32} {p5 : Int32} {E : String} (h : Except.error E = M_done σ p1 p2 p3 p4 p5) : E = "java/lang/IndexOutOfBoundsException" ∨ E = "java/lang/IllegalStateException" ∨ E = "java/lang/IllegalArgumentException" := by
  unfold M_done at h
  rcases xb_err h with h | ⟨r1, -, h⟩
  · exact Or.inl (pAt_err h)
  rcases xb_err h with h | ⟨r2, -, h⟩
  · exact Or.inl (mAt_err h)
  rcases xb_err h with h | ⟨_, -, h⟩
  · exact Or.inl (chk_err h)
  rcases xb_err h with h | ⟨_, -, h⟩
  · exact Or.inl (chk_err h)
  by_cases c : gF σ (pPi r1) 4 < 30
  · rw [if_pos c] at h
    rcases xb_err h with h | ⟨_, -, h⟩
    · exact Or.inr (Or.inr (hour_err h))
    · exfalso
      generalize M_reasonAgainst σ r1 r2 p3 p5 = x at h
      generalize M_takeWhatGoes σ r2 = s1 at h
      rw [vb_eq] at h
      simp only [vb_eq] at h
      (repeat' split at h) <;> cases h
  · rw [if_neg c] at h; cases h; exact Or.inr (Or.inl rfl)
set_option maxHeartbeats 4000000 in
set_option maxRecDepth 100000 in
theorem k_w_done (l : Launch) (hl9 : l.stackTraces = false) (D : va_G) (qo : Nat) (kL : ClassId) (ad : Nat → Nat) (kk : Nat → ClassId) (sz : Nat) (f : Nat → Int64) (σ : St) (p1 : Int32) (p2 : Int32) (p3 : Int32) (p4 : Int32) (p5 : Int32) (hI : IB σ) : vx_Met l yL_done wsL_done { frames := 9, cells := 6, slots := 36, locals := 160 } (va_Pc [.ref (ad 0), .int p1, .int p2, .int p3, .int p4, .int p5, .ref qo] (PW D qo kL ad kk sz f σ)) (va_Qi (wrP (tI (M_done σ p1 p2 p3 p4 p5)) ["java/lang/IndexOutOfBoundsException", "java/lang/IllegalStateException", "java/lang/IllegalArgumentException"] σ f) (QW D qo kL ad kk sz) (aW qo ad sz)) (fun _ _ _ => False) 6 36 (aW qo ad sz) := by
  refine vx_ofWH (cc := cL_done) (maxL := 8) (ret := (some .int)) (by decide) rfl ?_
  intro p e s m args below meth c s₁ B hml hv
  obtain ⟨rfl, hsz, hP, hK, hD0, hE⟩ := hv
  have hx := B.exec
  have hb := B.bytes
  have hr := B.returns
  have hts := atoms_spec (ws := wsL_done) B.pre
  have hown : s.vm.findClass RL = some m.cls := findClass_of_methodNamed B.named
  have hlocks := B.notSynchronized
  have htab := vx_table (x := yL_done) B (hts _ List.mem_cons_self)
  subst hsz
  have hD : va_D (aW qo ad s.heap.size) (wW qo kL f ad kk σ) := wW_D hD0
  have hS : va_S (aW qo ad s.heap.size) s.heap s.heap [] := va_S.rf
  have hl := lv_entry ([.ref (ad 0), .int p1, .int p2, .int p3, .int p4, .int p5, .ref qo]) (n := 8) (Nat.le_of_ble_eq_true rfl)
  rw [lg_entry_eq]
  generalize (lg_sl ([.ref (ad 0), .int p1, .int p2, .int p3, .int p4, .int p5, .ref qo]) ++ List.replicate (8 - (lg_sl ([.ref (ad 0), .int p1, .int p2, .int p3, .int p4, .int p5, .ref qo])).length) Slot.unset).toArray = ls at hl ⊢
  have hl : lv_has ls 8 [(0, .ref (ad 0)), (1, .int p1), (2, .int p2), (3, .int p3), (4, .int p4), (5, .int p5), (6, .ref qo)] := hl
  have CF : CallFix p m c cL_done 8 s ([.ref (ad 0), .int p1, .int p2, .int p3, .int p4, .int p5, .ref qo] : List Value).toArray wsL_done RL := ⟨hx, hb, hml, hown, hts⟩
  have ht : ∀ w ∈ T0, w.before ([.ref (ad 0), .int p1, .int p2, .int p3, .int p4, .int p5, .ref qo] : List Value).toArray s = true := fun w h => hts w (List.mem_cons_of_mem _ h)
  refine lv_aload hx hb dL_done_0 (lv_at hl 6 rfl) ?_
  refine lv_iconst (v := 0) hx hb dL_done_2 (by decide) ?_
  refine lv_aload_n hx hb dL_done_3 rfl (lv_at hl 0 rfl) ?_
  refine lv_iload_n hx hb dL_done_4 rfl (lv_at hl 1 rfl) ?_
  refine lv_iload_n hx hb dL_done_5 rfl (lv_at hl 2 rfl) ?_
  refine lv_iload_n hx hb dL_done_6 rfl (lv_at hl 3 rfl) ?_
  refine lv_iload hx hb dL_done_7 (lv_at hl 4 rfl) ?_
  refine lv_iload hx hb dL_done_9 (lv_at hl 5 rfl) ?_
  refine kW_i (vx_runV (As := [.int p1, .int p2, .int p3, .int p4, .int p5]) (rest := [.int 0, .ref qo]) CF (k_done l hl9 D ad kk _ σ p1 p2 p3 p4 p5 hI) ⟨callB_of 5 hts (gT mw_448) rfl rfl rfl (ht _ mw_1) (ht _ mw_445) (by decide +kernel) ⟨Nat.le_of_ble_eq_true rfl, Nat.le_of_ble_eq_true rfl⟩, (ht _ mw_446), (ht _ mw_447)⟩ (preV_W hK hP hD hE hS) rfl rfl hl.1 rfl (lv_room (Nat.le_of_ble_eq_true rfl)) dL_done_11 ⟨Nat.le_of_ble_eq_true rfl, Nat.le_of_ble_eq_true rfl⟩) hP hD hS (fun E ce q9 H locs hTe hP hD hS hc1 hv1 hcl => ?_) (fun r u H locs hw hP hD hS => ?_)
  · rcases E_done hTe with rfl | rfl | rfl
    · refine vx_catch (name := "java/lang/IndexOutOfBoundsException") hown [] ⟨0, 16, 19, 25⟩ [⟨0, 16, 23, 13⟩, ⟨0, 16, 27, 15⟩] htab (fun z h => absurd h List.not_mem_nil) (by decide) (by decide) (ht _ mw_340) (va_Nw.use rfl (hE.1.2.2.2.2.2 "java/lang/IndexOutOfBoundsException" (by decide +kernel))) hc1 hv1 hcl ?_
      refine lv_astore (lv' := [(7, .ref q9), (0, .ref (ad 0)), (1, .int p1), (2, .int p2), (3, .int p3), (4, .int p4), (5, .int p5), (6, .ref qo)]) hx hb dL_done_19 hl (by decide) rfl (fun ls hl => ?_)
      refine lv_iconst (v := 1) hx hb dL_done_21 (by decide) ?_
      refine W.widen (k := 6) (n := 36) (by decide) (by decide) ?_
      exact vx_ret (W.iret (v := 1) hx hb hr (fun t ht hW => ⟨⟨1, (σ, f), rfl, (wr_eI hTe (by decide +kernel)), by rw [ht]; exact hP, va_K.moved hW.alike hK, hD⟩, hS.F ht⟩) hS.2.2 dL_done_22)
    · refine vx_catch (name := "java/lang/IllegalStateException") hown [⟨0, 16, 19, 25⟩] ⟨0, 16, 23, 13⟩ [⟨0, 16, 27, 15⟩] htab (fun z h => Or.inr (by
          rcases List.mem_cons.mp h with rfl | h
          · exact ⟨by decide, "java/lang/IndexOutOfBoundsException", (ht _ mw_340), hE.2 ("java/lang/IllegalStateException", "java/lang/IndexOutOfBoundsException") (by decide +kernel)⟩
          exact absurd h List.not_mem_nil)) (by decide) (by decide) (ht _ mw_190) (va_Nw.use rfl (hE.1.2.2.2.2.2 "java/lang/IllegalStateException" (by decide +kernel))) hc1 hv1 hcl ?_
      refine lv_astore (lv' := [(7, .ref q9), (0, .ref (ad 0)), (1, .int p1), (2, .int p2), (3, .int p3), (4, .int p4), (5, .int p5), (6, .ref qo)]) hx hb dL_done_23 hl (by decide) rfl (fun ls hl => ?_)
      refine lv_iconst (v := 2) hx hb dL_done_25 (by decide) ?_
      refine W.widen (k := 6) (n := 36) (by decide) (by decide) ?_
      exact vx_ret (W.iret (v := 2) hx hb hr (fun t ht hW => ⟨⟨2, (σ, f), rfl, (wr_eI hTe (by decide +kernel)), by rw [ht]; exact hP, va_K.moved hW.alike hK, hD⟩, hS.F ht⟩) hS.2.2 dL_done_26)
    · refine vx_catch (name := "java/lang/IllegalArgumentException") hown [⟨0, 16, 19, 25⟩, ⟨0, 16, 23, 13⟩] ⟨0, 16, 27, 15⟩ [] htab (fun z h => Or.inr (by
          rcases List.mem_cons.mp h with rfl | h
          · exact ⟨by decide, "java/lang/IndexOutOfBoundsException", (ht _ mw_340), hE.2 ("java/lang/IllegalArgumentException", "java/lang/IndexOutOfBoundsException") (by decide +kernel)⟩
          rcases List.mem_cons.mp h with rfl | h
          · exact ⟨by decide, "java/lang/IllegalStateException", (ht _ mw_190), hE.2 ("java/lang/IllegalArgumentException", "java/lang/IllegalStateException") (by decide +kernel)⟩
          exact absurd h List.not_mem_nil)) (by decide) (by decide) (ht _ mw_191) (va_Nw.use rfl (hE.1.2.2.2.2.2 "java/lang/IllegalArgumentException" (by decide +kernel))) hc1 hv1 hcl ?_
      refine lv_astore (lv' := [(7, .ref q9), (0, .ref (ad 0)), (1, .int p1), (2, .int p2), (3, .int p3), (4, .int p4), (5, .int p5), (6, .ref qo)]) hx hb dL_done_27 hl (by decide) rfl (fun ls hl => ?_)
      refine lv_iconst (v := 3) hx hb dL_done_29 (by decide) ?_
      refine W.widen (k := 6) (n := 36) (by decide) (by decide) ?_
      exact vx_ret (W.iret (v := 3) hx hb hr (fun t ht hW => ⟨⟨3, (σ, f), rfl, (wr_eI hTe (by decide +kernel)), by rw [ht]; exact hP, va_K.moved hW.alike hK, hD⟩, hS.F ht⟩) hS.2.2 dL_done_30)
  · have hz : vp_in (0 : Int32) 1 := vp_in_nI (n := 0) (by decide) (by decide)
    refine lv_i2l hx hb dL_done_14 rfl ?_
    refine va_last (i := 0) (x := r.toInt64) hx hb hK hP hD hS 0 0 rfl rfl hz dL_done_15 (fun H locs hP hD hS => ?_)
    refine lv_goto (tgt := 31) hx hb dL_done_16 (by decide) ?_
    refine lv_iconst (v := 0) hx hb dL_done_31 (by decide) ?_
    refine W.widen (k := 6) (n := 36) (by decide) (by decide) ?_
    exact vx_ret (W.iret (v := 0) hx hb hr (fun t ht hW => ⟨⟨0, (u, vp_updL f (0 : Int32).toNatClampNeg r.toInt64), rfl, (by rw [← hw]; exact ⟨rfl, rfl, rfl⟩), by rw [ht]; exact hP, va_K.moved hW.alike hK, hD⟩, hS.F ht⟩) hS.2.2 dL_done_32)
theorem E_row {σ : St} {p1 : Int32} {p2 : Int32} {p3 : Int32} {E : String} (h : Except.error E = M_row σ p1 p2 p3) : E = "java/lang/IndexOutOfBoundsException" := by
  unfold M_row at h
  try simp only [pb, vb] at h
  (repeat' (first | (rcases xb_err h with h | ⟨_, _, h⟩) | (split at h)))
  all_goals first | (cases h; done) | (cases h; first | exact rfl | exact Or.inl rfl | exact Or.inr rfl | exact Or.inr (Or.inl rfl) | exact Or.inr (Or.inr rfl)) | (have e := chk_err h; subst e; first | exact rfl | exact Or.inl rfl | exact Or.inr rfl | exact Or.inr (Or.inl rfl) | exact Or.inr (Or.inr rfl)) | (have e := hour_err h; subst e; first | exact rfl | exact Or.inl rfl | exact Or.inr rfl | exact Or.inr (Or.inl rfl) | exact Or.inr (Or.inr rfl))
set_option maxHeartbeats 4000000 in
set_option maxRecDepth 100000 in
theorem k_w_row (l : Launch) (hl9 : l.stackTraces = false) (D : va_G) (qo : Nat) (kL : ClassId) (ad : Nat → Nat) (kk : Nat → ClassId) (sz : Nat) (f : Nat → Int64) (σ : St) (p1 : Int32) (p2 : Int32) (p3 : Int32) (hI : IB σ) : vx_Met l yL_row wsL_row { frames := 9, cells := 3, slots := 18, locals := 156 } (va_Pc [.ref (ad 0), .int p1, .int p2, .int p3, .ref qo] (PW D qo kL ad kk sz f σ)) (va_Qi (wrP (tR σ (M_row σ p1 p2 p3)) ["java/lang/IndexOutOfBoundsException"] σ f) (QW D qo kL ad kk sz) (aW qo ad sz)) (fun _ _ _ => False) 3 18 (aW qo ad sz) := by
  refine vx_ofWH (cc := cL_row) (maxL := 6) (ret := (some .int)) (by decide) rfl ?_
  intro p e s m args below meth c s₁ B hml hv
  obtain ⟨rfl, hsz, hP, hK, hD0, hE⟩ := hv
  have hx := B.exec
  have hb := B.bytes
  have hr := B.returns
  have hts := atoms_spec (ws := wsL_row) B.pre
  have hown : s.vm.findClass RL = some m.cls := findClass_of_methodNamed B.named
  have hlocks := B.notSynchronized
  have htab := vx_table (x := yL_row) B (hts _ List.mem_cons_self)
  subst hsz
  have hD : va_D (aW qo ad s.heap.size) (wW qo kL f ad kk σ) := wW_D hD0
  have hS : va_S (aW qo ad s.heap.size) s.heap s.heap [] := va_S.rf
  have hl := lv_entry ([.ref (ad 0), .int p1, .int p2, .int p3, .ref qo]) (n := 6) (Nat.le_of_ble_eq_true rfl)
  rw [lg_entry_eq]
  generalize (lg_sl ([.ref (ad 0), .int p1, .int p2, .int p3, .ref qo]) ++ List.replicate (6 - (lg_sl ([.ref (ad 0), .int p1, .int p2, .int p3, .ref qo])).length) Slot.unset).toArray = ls at hl ⊢
  have hl : lv_has ls 6 [(0, .ref (ad 0)), (1, .int p1), (2, .int p2), (3, .int p3), (4, .ref qo)] := hl
  have CF : CallFix p m c cL_row 6 s ([.ref (ad 0), .int p1, .int p2, .int p3, .ref qo] : List Value).toArray wsL_row RL := ⟨hx, hb, hml, hown, hts⟩
  have ht : ∀ w ∈ T0, w.before ([.ref (ad 0), .int p1, .int p2, .int p3, .ref qo] : List Value).toArray s = true := fun w h => hts w (List.mem_cons_of_mem _ h)
  refine lv_aload hx hb dL_row_0 (lv_at hl 4 rfl) ?_
  refine lv_iconst (v := 0) hx hb dL_row_2 (by decide) ?_
  refine lv_aload_n hx hb dL_row_3 rfl (lv_at hl 0 rfl) ?_
  refine lv_iload_n hx hb dL_row_4 rfl (lv_at hl 1 rfl) ?_
  refine lv_iload_n hx hb dL_row_5 rfl (lv_at hl 2 rfl) ?_
  refine lv_iload_n hx hb dL_row_6 rfl (lv_at hl 3 rfl) ?_
  refine kW_i (vx_runV (As := [.int p1, .int p2, .int p3]) (rest := [.int 0, .ref qo]) CF (k_row l hl9 D ad kk _ σ p1 p2 p3 hI) ⟨callB_of 3 hts (gT mw_468) rfl rfl rfl (ht _ mw_1) (ht _ mw_465) (by decide +kernel) ⟨Nat.le_of_ble_eq_true rfl, Nat.le_of_ble_eq_true rfl⟩, (ht _ mw_466), (ht _ mw_467)⟩ (preV_W hK hP hD hE hS) rfl rfl hl.1 rfl (lv_room (Nat.le_of_ble_eq_true rfl)) dL_row_7 ⟨Nat.le_of_ble_eq_true rfl, Nat.le_of_ble_eq_true rfl⟩) hP hD hS (fun E ce q9 H locs hTe hP hD hS hc1 hv1 hcl => ?_) (fun r u H locs hw hP hD hS => ?_)
  · rcases E_row hTe with rfl
    · refine vx_catch (name := "java/lang/IndexOutOfBoundsException") hown [] ⟨0, 12, 15, 25⟩ [] htab (fun z h => absurd h List.not_mem_nil) (by decide) (by decide) (ht _ mw_340) (va_Nw.use rfl (hE.1.2.2.2.2.2 "java/lang/IndexOutOfBoundsException" (by decide +kernel))) hc1 hv1 hcl ?_
      refine lv_astore (lv' := [(5, .ref q9), (0, .ref (ad 0)), (1, .int p1), (2, .int p2), (3, .int p3), (4, .ref qo)]) hx hb dL_row_15 hl (by decide) rfl (fun ls hl => ?_)
      refine lv_iconst (v := 1) hx hb dL_row_17 (by decide) ?_
      refine W.widen (k := 3) (n := 18) (by decide) (by decide) ?_
      exact vx_ret (W.iret (v := 1) hx hb hr (fun t ht hW => ⟨⟨1, (σ, f), rfl, (wr_eR hTe (by decide +kernel)), by rw [ht]; exact hP, va_K.moved hW.alike hK, hD⟩, hS.F ht⟩) hS.2.2 dL_row_18)
  · have hz : vp_in (0 : Int32) 1 := vp_in_nI (n := 0) (by decide) (by decide)
    obtain ⟨hw, e9⟩ := hw
    rw [e9] at hP hD
    refine lv_i2l hx hb dL_row_10 rfl ?_
    refine va_last (i := 0) (x := r.toInt64) hx hb hK hP hD hS 0 0 rfl rfl hz dL_row_11 (fun H locs hP hD hS => ?_)
    refine lv_goto (tgt := 19) hx hb dL_row_12 (by decide) ?_
    refine lv_iconst (v := 0) hx hb dL_row_19 (by decide) ?_
    refine W.widen (k := 3) (n := 18) (by decide) (by decide) ?_
    exact vx_ret (W.iret (v := 0) hx hb hr (fun t ht hW => ⟨⟨0, (σ, vp_updL f (0 : Int32).toNatClampNeg r.toInt64), rfl, (by rw [← hw]; exact ⟨rfl, rfl, rfl⟩), by rw [ht]; exact hP, va_K.moved hW.alike hK, hD⟩, hS.F ht⟩) hS.2.2 dL_row_20)
theorem E_stock {σ : St} {p1 : Int32} {p2 : Int32} {E : String} (h : Except.error E = M_stock σ p1 p2) : E = "java/lang/IndexOutOfBoundsException" ∨ E = "java/lang/IllegalArgumentException" := by
  unfold M_stock at h
  try simp only [pb, vb] at h
  (repeat' (first | (rcases xb_err h with h | ⟨_, _, h⟩) | (split at h)))
  all_goals first | (cases h; done) | (cases h; first | exact rfl | exact Or.inl rfl | exact Or.inr rfl | exact Or.inr (Or.inl rfl) | exact Or.inr (Or.inr rfl)) | (have e := chk_err h; subst e; first | exact rfl | exact Or.inl rfl | exact Or.inr rfl | exact Or.inr (Or.inl rfl) | exact Or.inr (Or.inr rfl)) | (have e := hour_err h; subst e; first | exact rfl | exact Or.inl rfl | exact Or.inr rfl | exact Or.inr (Or.inl rfl) | exact Or.inr (Or.inr rfl))
set_option maxHeartbeats 4000000 in
set_option maxRecDepth 100000 in
theorem k_w_stock (l : Launch) (hl9 : l.stackTraces = false) (D : va_G) (qo : Nat) (kL : ClassId) (ad : Nat → Nat) (kk : Nat → ClassId) (sz : Nat) (f : Nat → Int64) (σ : St) (p1 : Int32) (p2 : Int32) : vx_Met l yL_stock wsL_stock { frames := 9, cells := 2, slots := 12, locals := 156 } (va_Pc [.ref (ad 0), .int p1, .int p2, .ref qo] (PW D qo kL ad kk sz f σ)) (va_Qi (wrP (tI (M_stock σ p1 p2)) ["java/lang/IndexOutOfBoundsException", "java/lang/IllegalArgumentException"] σ f) (QW D qo kL ad kk sz) (aW qo ad sz)) (fun _ _ _ => False) 2 12 (aW qo ad sz) := by
  refine vx_ofWH (cc := cL_stock) (maxL := 5) (ret := (some .int)) (by decide) rfl ?_
  intro p e s m args below meth c s₁ B hml hv
  obtain ⟨rfl, hsz, hP, hK, hD0, hE⟩ := hv
  have hx := B.exec
  have hb := B.bytes
  have hr := B.returns
  have hts := atoms_spec (ws := wsL_stock) B.pre
  have hown : s.vm.findClass RL = some m.cls := findClass_of_methodNamed B.named
  have hlocks := B.notSynchronized
  have htab := vx_table (x := yL_stock) B (hts _ List.mem_cons_self)
  subst hsz
  have hD : va_D (aW qo ad s.heap.size) (wW qo kL f ad kk σ) := wW_D hD0
  have hS : va_S (aW qo ad s.heap.size) s.heap s.heap [] := va_S.rf
  have hl := lv_entry ([.ref (ad 0), .int p1, .int p2, .ref qo]) (n := 5) (Nat.le_of_ble_eq_true rfl)
  rw [lg_entry_eq]
  generalize (lg_sl ([.ref (ad 0), .int p1, .int p2, .ref qo]) ++ List.replicate (5 - (lg_sl ([.ref (ad 0), .int p1, .int p2, .ref qo])).length) Slot.unset).toArray = ls at hl ⊢
  have hl : lv_has ls 5 [(0, .ref (ad 0)), (1, .int p1), (2, .int p2), (3, .ref qo)] := hl
  have CF : CallFix p m c cL_stock 5 s ([.ref (ad 0), .int p1, .int p2, .ref qo] : List Value).toArray wsL_stock RL := ⟨hx, hb, hml, hown, hts⟩
  have ht : ∀ w ∈ T0, w.before ([.ref (ad 0), .int p1, .int p2, .ref qo] : List Value).toArray s = true := fun w h => hts w (List.mem_cons_of_mem _ h)
  refine lv_aload_n hx hb dL_stock_0 rfl (lv_at hl 3 rfl) ?_
  refine lv_iconst (v := 0) hx hb dL_stock_1 (by decide) ?_
  refine lv_aload_n hx hb dL_stock_2 rfl (lv_at hl 0 rfl) ?_
  refine lv_iload_n hx hb dL_stock_3 rfl (lv_at hl 1 rfl) ?_
  refine lv_iload_n hx hb dL_stock_4 rfl (lv_at hl 2 rfl) ?_
  refine kW_i (vx_runV (As := [.int p1, .int p2]) (rest := [.int 0, .ref qo]) CF (k_stock l hl9 D ad kk _ σ p1 p2) ⟨callB_of 2 hts (gT mw_475) rfl rfl rfl (ht _ mw_1) (ht _ mw_472) (by decide +kernel) ⟨Nat.le_of_ble_eq_true rfl, Nat.le_of_ble_eq_true rfl⟩, (ht _ mw_473), (ht _ mw_474)⟩ (preV_W hK hP hD hE hS) rfl rfl hl.1 rfl (lv_room (Nat.le_of_ble_eq_true rfl)) dL_stock_5 ⟨Nat.le_of_ble_eq_true rfl, Nat.le_of_ble_eq_true rfl⟩) hP hD hS (fun E ce q9 H locs hTe hP hD hS hc1 hv1 hcl => ?_) (fun r u H locs hw hP hD hS => ?_)
  · rcases E_stock hTe with rfl | rfl
    · refine vx_catch (name := "java/lang/IndexOutOfBoundsException") hown [] ⟨0, 10, 13, 25⟩ [⟨0, 10, 17, 15⟩] htab (fun z h => absurd h List.not_mem_nil) (by decide) (by decide) (ht _ mw_340) (va_Nw.use rfl (hE.1.2.2.2.2.2 "java/lang/IndexOutOfBoundsException" (by decide +kernel))) hc1 hv1 hcl ?_
      refine lv_astore (lv' := [(4, .ref q9), (0, .ref (ad 0)), (1, .int p1), (2, .int p2), (3, .ref qo)]) hx hb dL_stock_13 hl (by decide) rfl (fun ls hl => ?_)
      refine lv_iconst (v := 1) hx hb dL_stock_15 (by decide) ?_
      refine W.widen (k := 2) (n := 12) (by decide) (by decide) ?_
      exact vx_ret (W.iret (v := 1) hx hb hr (fun t ht hW => ⟨⟨1, (σ, f), rfl, (wr_eI hTe (by decide +kernel)), by rw [ht]; exact hP, va_K.moved hW.alike hK, hD⟩, hS.F ht⟩) hS.2.2 dL_stock_16)
    · refine vx_catch (name := "java/lang/IllegalArgumentException") hown [⟨0, 10, 13, 25⟩] ⟨0, 10, 17, 15⟩ [] htab (fun z h => Or.inr (by
          rcases List.mem_cons.mp h with rfl | h
          · exact ⟨by decide, "java/lang/IndexOutOfBoundsException", (ht _ mw_340), hE.2 ("java/lang/IllegalArgumentException", "java/lang/IndexOutOfBoundsException") (by decide +kernel)⟩
          exact absurd h List.not_mem_nil)) (by decide) (by decide) (ht _ mw_191) (va_Nw.use rfl (hE.1.2.2.2.2.2 "java/lang/IllegalArgumentException" (by decide +kernel))) hc1 hv1 hcl ?_
      refine lv_astore (lv' := [(4, .ref q9), (0, .ref (ad 0)), (1, .int p1), (2, .int p2), (3, .ref qo)]) hx hb dL_stock_17 hl (by decide) rfl (fun ls hl => ?_)
      refine lv_iconst (v := 2) hx hb dL_stock_19 (by decide) ?_
      refine W.widen (k := 2) (n := 12) (by decide) (by decide) ?_
      exact vx_ret (W.iret (v := 2) hx hb hr (fun t ht hW => ⟨⟨2, (σ, f), rfl, (wr_eI hTe (by decide +kernel)), by rw [ht]; exact hP, va_K.moved hW.alike hK, hD⟩, hS.F ht⟩) hS.2.2 dL_stock_20)
  · have hz : vp_in (0 : Int32) 1 := vp_in_nI (n := 0) (by decide) (by decide)
    refine lv_i2l hx hb dL_stock_8 rfl ?_
    refine va_last (i := 0) (x := r.toInt64) hx hb hK hP hD hS 0 0 rfl rfl hz dL_stock_9 (fun H locs hP hD hS => ?_)
    refine lv_goto (tgt := 21) hx hb dL_stock_10 (by decide) ?_
    refine lv_iconst (v := 0) hx hb dL_stock_21 (by decide) ?_
    refine W.widen (k := 2) (n := 12) (by decide) (by decide) ?_
    exact vx_ret (W.iret (v := 0) hx hb hr (fun t ht hW => ⟨⟨0, (u, vp_updL f (0 : Int32).toNatClampNeg r.toInt64), rfl, (by rw [← hw]; exact ⟨rfl, rfl, rfl⟩), by rw [ht]; exact hP, va_K.moved hW.alike hK, hD⟩, hS.F ht⟩) hS.2.2 dL_stock_22)
theorem E_about {σ : St} {p1 : Int32} {p2 : Int32} {E : String} (h : Except.error E = M_about σ p1 p2) : E = "java/lang/IndexOutOfBoundsException" := by
  unfold M_about at h
  try simp only [pb, vb] at h
  (repeat' (first | (rcases xb_err h with h | ⟨_, _, h⟩) | (split at h)))
  all_goals first | (cases h; done) | (cases h; first | exact rfl | exact Or.inl rfl | exact Or.inr rfl | exact Or.inr (Or.inl rfl) | exact Or.inr (Or.inr rfl)) | (have e := chk_err h; subst e; first | exact rfl | exact Or.inl rfl | exact Or.inr rfl | exact Or.inr (Or.inl rfl) | exact Or.inr (Or.inr rfl)) | (have e := hour_err h; subst e; first | exact rfl | exact Or.inl rfl | exact Or.inr rfl | exact Or.inr (Or.inl rfl) | exact Or.inr (Or.inr rfl))
set_option maxHeartbeats 4000000 in
set_option maxRecDepth 100000 in
theorem k_w_about (l : Launch) (hl9 : l.stackTraces = false) (D : va_G) (qo : Nat) (kL : ClassId) (ad : Nat → Nat) (kk : Nat → ClassId) (sz : Nat) (f : Nat → Int64) (σ : St) (p1 : Int32) (p2 : Int32) : vx_Met l yL_about wsL_about { frames := 9, cells := 2, slots := 12, locals := 155 } (va_Pc [.ref (ad 0), .int p1, .int p2, .ref qo] (PW D qo kL ad kk sz f σ)) (va_Qi (wrP (tL σ (M_about σ p1 p2)) ["java/lang/IndexOutOfBoundsException"] σ f) (QW D qo kL ad kk sz) (aW qo ad sz)) (fun _ _ _ => False) 2 12 (aW qo ad sz) := by
  refine vx_ofWH (cc := cL_about) (maxL := 5) (ret := (some .int)) (by decide) rfl ?_
  intro p e s m args below meth c s₁ B hml hv
  obtain ⟨rfl, hsz, hP, hK, hD0, hE⟩ := hv
  have hx := B.exec
  have hb := B.bytes
  have hr := B.returns
  have hts := atoms_spec (ws := wsL_about) B.pre
  have hown : s.vm.findClass RL = some m.cls := findClass_of_methodNamed B.named
  have hlocks := B.notSynchronized
  have htab := vx_table (x := yL_about) B (hts _ List.mem_cons_self)
  subst hsz
  have hD : va_D (aW qo ad s.heap.size) (wW qo kL f ad kk σ) := wW_D hD0
  have hS : va_S (aW qo ad s.heap.size) s.heap s.heap [] := va_S.rf
  have hl := lv_entry ([.ref (ad 0), .int p1, .int p2, .ref qo]) (n := 5) (Nat.le_of_ble_eq_true rfl)
  rw [lg_entry_eq]
  generalize (lg_sl ([.ref (ad 0), .int p1, .int p2, .ref qo]) ++ List.replicate (5 - (lg_sl ([.ref (ad 0), .int p1, .int p2, .ref qo])).length) Slot.unset).toArray = ls at hl ⊢
  have hl : lv_has ls 5 [(0, .ref (ad 0)), (1, .int p1), (2, .int p2), (3, .ref qo)] := hl
  have CF : CallFix p m c cL_about 5 s ([.ref (ad 0), .int p1, .int p2, .ref qo] : List Value).toArray wsL_about RL := ⟨hx, hb, hml, hown, hts⟩
  have ht : ∀ w ∈ T0, w.before ([.ref (ad 0), .int p1, .int p2, .ref qo] : List Value).toArray s = true := fun w h => hts w (List.mem_cons_of_mem _ h)
  refine lv_aload_n hx hb dL_about_0 rfl (lv_at hl 3 rfl) ?_
  refine lv_iconst (v := 0) hx hb dL_about_1 (by decide) ?_
  refine lv_aload_n hx hb dL_about_2 rfl (lv_at hl 0 rfl) ?_
  refine lv_iload_n hx hb dL_about_3 rfl (lv_at hl 1 rfl) ?_
  refine lv_iload_n hx hb dL_about_4 rfl (lv_at hl 2 rfl) ?_
  refine kW_l (vx_runV (As := [.int p1, .int p2]) (rest := [.int 0, .ref qo]) CF (k_about l hl9 D ad kk _ σ p1 p2) ⟨callB_of 2 hts (gT mw_488) rfl rfl rfl (ht _ mw_1) (ht _ mw_485) (by decide +kernel) ⟨Nat.le_of_ble_eq_true rfl, Nat.le_of_ble_eq_true rfl⟩, (ht _ mw_486), (ht _ mw_487)⟩ (preV_W hK hP hD hE hS) rfl rfl hl.1 rfl (lv_room (Nat.le_of_ble_eq_true rfl)) dL_about_5 ⟨Nat.le_of_ble_eq_true rfl, Nat.le_of_ble_eq_true rfl⟩) hP hD hS (fun E ce q9 H locs hTe hP hD hS hc1 hv1 hcl => ?_) (fun r u H locs hw hP hD hS => ?_)
  · rcases E_about hTe with rfl
    · refine vx_catch (name := "java/lang/IndexOutOfBoundsException") hown [] ⟨0, 9, 12, 25⟩ [] htab (fun z h => absurd h List.not_mem_nil) (by decide) (by decide) (ht _ mw_340) (va_Nw.use rfl (hE.1.2.2.2.2.2 "java/lang/IndexOutOfBoundsException" (by decide +kernel))) hc1 hv1 hcl ?_
      refine lv_astore (lv' := [(4, .ref q9), (0, .ref (ad 0)), (1, .int p1), (2, .int p2), (3, .ref qo)]) hx hb dL_about_12 hl (by decide) rfl (fun ls hl => ?_)
      refine lv_iconst (v := 1) hx hb dL_about_14 (by decide) ?_
      refine W.widen (k := 2) (n := 12) (by decide) (by decide) ?_
      exact vx_ret (W.iret (v := 1) hx hb hr (fun t ht hW => ⟨⟨1, (σ, f), rfl, (wr_eL hTe (by decide +kernel)), by rw [ht]; exact hP, va_K.moved hW.alike hK, hD⟩, hS.F ht⟩) hS.2.2 dL_about_15)
  · have hz : vp_in (0 : Int32) 1 := vp_in_nI (n := 0) (by decide) (by decide)
    obtain ⟨hw, e9⟩ := hw
    rw [e9] at hP hD
    refine va_last (i := 0) (x := r) hx hb hK hP hD hS 0 0 rfl rfl hz dL_about_8 (fun H locs hP hD hS => ?_)
    refine lv_goto (tgt := 16) hx hb dL_about_9 (by decide) ?_
    refine lv_iconst (v := 0) hx hb dL_about_16 (by decide) ?_
    refine W.widen (k := 2) (n := 12) (by decide) (by decide) ?_
    exact vx_ret (W.iret (v := 0) hx hb hr (fun t ht hW => ⟨⟨0, (σ, vp_updL f (0 : Int32).toNatClampNeg r), rfl, (by rw [← hw]; exact ⟨rfl, rfl, rfl⟩), by rw [ht]; exact hP, va_K.moved hW.alike hK, hD⟩, hS.F ht⟩) hS.2.2 dL_about_17)
theorem E_apart {σ : St} {p1 : Int32} {p2 : Int32} {E : String} (h : Except.error E = M_apart σ p1 p2) : E = "java/lang/IndexOutOfBoundsException" := by
  unfold M_apart at h
  try simp only [pb, vb] at h
  (repeat' (first | (rcases xb_err h with h | ⟨_, _, h⟩) | (split at h)))
  all_goals first | (cases h; done) | (cases h; first | exact rfl | exact Or.inl rfl | exact Or.inr rfl | exact Or.inr (Or.inl rfl) | exact Or.inr (Or.inr rfl)) | (have e := chk_err h; subst e; first | exact rfl | exact Or.inl rfl | exact Or.inr rfl | exact Or.inr (Or.inl rfl) | exact Or.inr (Or.inr rfl)) | (have e := hour_err h; subst e; first | exact rfl | exact Or.inl rfl | exact Or.inr rfl | exact Or.inr (Or.inl rfl) | exact Or.inr (Or.inr rfl))
set_option maxHeartbeats 4000000 in
set_option maxRecDepth 100000 in
theorem k_w_apart (l : Launch) (hl9 : l.stackTraces = false) (D : va_G) (qo : Nat) (kL : ClassId) (ad : Nat → Nat) (kk : Nat → ClassId) (sz : Nat) (f : Nat → Int64) (σ : St) (p1 : Int32) (p2 : Int32) : vx_Met l yL_apart wsL_apart { frames := 9, cells := 2, slots := 12, locals := 156 } (va_Pc [.ref (ad 0), .int p1, .int p2, .ref qo] (PW D qo kL ad kk sz f σ)) (va_Qi (wrP (tZ (M_apart σ p1 p2)) ["java/lang/IndexOutOfBoundsException"] σ f) (QW D qo kL ad kk sz) (aW qo ad sz)) (fun _ _ _ => False) 2 12 (aW qo ad sz) := by
  refine vx_ofWH (cc := cL_apart) (maxL := 5) (ret := (some .int)) (by decide) rfl ?_
  intro p e s m args below meth c s₁ B hml hv
  obtain ⟨rfl, hsz, hP, hK, hD0, hE⟩ := hv
  have hx := B.exec
  have hb := B.bytes
  have hr := B.returns
  have hts := atoms_spec (ws := wsL_apart) B.pre
  have hown : s.vm.findClass RL = some m.cls := findClass_of_methodNamed B.named
  have hlocks := B.notSynchronized
  have htab := vx_table (x := yL_apart) B (hts _ List.mem_cons_self)
  subst hsz
  have hD : va_D (aW qo ad s.heap.size) (wW qo kL f ad kk σ) := wW_D hD0
  have hS : va_S (aW qo ad s.heap.size) s.heap s.heap [] := va_S.rf
  have hl := lv_entry ([.ref (ad 0), .int p1, .int p2, .ref qo]) (n := 5) (Nat.le_of_ble_eq_true rfl)
  rw [lg_entry_eq]
  generalize (lg_sl ([.ref (ad 0), .int p1, .int p2, .ref qo]) ++ List.replicate (5 - (lg_sl ([.ref (ad 0), .int p1, .int p2, .ref qo])).length) Slot.unset).toArray = ls at hl ⊢
  have hl : lv_has ls 5 [(0, .ref (ad 0)), (1, .int p1), (2, .int p2), (3, .ref qo)] := hl
  have CF : CallFix p m c cL_apart 5 s ([.ref (ad 0), .int p1, .int p2, .ref qo] : List Value).toArray wsL_apart RL := ⟨hx, hb, hml, hown, hts⟩
  have ht : ∀ w ∈ T0, w.before ([.ref (ad 0), .int p1, .int p2, .ref qo] : List Value).toArray s = true := fun w h => hts w (List.mem_cons_of_mem _ h)
  refine lv_aload_n hx hb dL_apart_0 rfl (lv_at hl 3 rfl) ?_
  refine lv_iconst (v := 0) hx hb dL_apart_1 (by decide) ?_
  refine lv_aload_n hx hb dL_apart_2 rfl (lv_at hl 0 rfl) ?_
  refine lv_iload_n hx hb dL_apart_3 rfl (lv_at hl 1 rfl) ?_
  refine lv_iload_n hx hb dL_apart_4 rfl (lv_at hl 2 rfl) ?_
  refine kW_i (vx_runV (As := [.int p1, .int p2]) (rest := [.int 0, .ref qo]) CF (k_apart l hl9 D ad kk _ σ p1 p2) ⟨callB_of 2 hts (gT mw_496) rfl rfl rfl (ht _ mw_1) (ht _ mw_493) (by decide +kernel) ⟨Nat.le_of_ble_eq_true rfl, Nat.le_of_ble_eq_true rfl⟩, (ht _ mw_494), (ht _ mw_495)⟩ (preV_W hK hP hD hE hS) rfl rfl hl.1 rfl (lv_room (Nat.le_of_ble_eq_true rfl)) dL_apart_5 ⟨Nat.le_of_ble_eq_true rfl, Nat.le_of_ble_eq_true rfl⟩) hP hD hS (fun E ce q9 H locs hTe hP hD hS hc1 hv1 hcl => ?_) (fun r u H locs hw hP hD hS => ?_)
  · rcases E_apart hTe with rfl
    · refine vx_catch (name := "java/lang/IndexOutOfBoundsException") hown [] ⟨0, 17, 20, 25⟩ [] htab (fun z h => absurd h List.not_mem_nil) (by decide) (by decide) (ht _ mw_340) (va_Nw.use rfl (hE.1.2.2.2.2.2 "java/lang/IndexOutOfBoundsException" (by decide +kernel))) hc1 hv1 hcl ?_
      refine lv_astore (lv' := [(4, .ref q9), (0, .ref (ad 0)), (1, .int p1), (2, .int p2), (3, .ref qo)]) hx hb dL_apart_20 hl (by decide) rfl (fun ls hl => ?_)
      refine lv_iconst (v := 1) hx hb dL_apart_22 (by decide) ?_
      refine W.widen (k := 2) (n := 12) (by decide) (by decide) ?_
      exact vx_ret (W.iret (v := 1) hx hb hr (fun t ht hW => ⟨⟨1, (σ, f), rfl, (wr_eZ hTe (by decide +kernel)), by rw [ht]; exact hP, va_K.moved hW.alike hK, hD⟩, hS.F ht⟩) hS.2.2 dL_apart_23)
  · have hz : vp_in (0 : Int32) 1 := vp_in_nI (n := 0) (by decide) (by decide)
    refine lv_if_eq (tgt := 15) hx hb dL_apart_8 (by decide) (fun c0 => ?_) (fun c0 => ?_)
    · refine lv_lconst (v := 0) hx hb dL_apart_15 (by decide) ?_
      refine va_last (i := 0) (x := 0) hx hb hK hP hD hS 0 0 rfl rfl hz dL_apart_16 (fun H locs hP hD hS => ?_)
      refine lv_goto (tgt := 24) hx hb dL_apart_17 (by decide) ?_
      refine lv_iconst (v := 0) hx hb dL_apart_24 (by decide) ?_
      refine W.widen (k := 2) (n := 12) (by decide) (by decide) ?_
      exact vx_ret (W.iret (v := 0) hx hb hr (fun t ht hW => ⟨⟨0, (u, vp_updL f (0 : Int32).toNatClampNeg 0), rfl, (by rw [← hw]; exact ⟨rfl, rfl, (if_pos c0).symm⟩), by rw [ht]; exact hP, va_K.moved hW.alike hK, hD⟩, hS.F ht⟩) hS.2.2 dL_apart_25)
    · refine lv_lconst (v := 1) hx hb dL_apart_11 (by decide) ?_
      refine lv_goto (tgt := 16) hx hb dL_apart_12 (by decide) ?_
      refine va_last (i := 0) (x := 1) hx hb hK hP hD hS 0 0 rfl rfl hz dL_apart_16 (fun H locs hP hD hS => ?_)
      refine lv_goto (tgt := 24) hx hb dL_apart_17 (by decide) ?_
      refine lv_iconst (v := 0) hx hb dL_apart_24 (by decide) ?_
      refine W.widen (k := 2) (n := 12) (by decide) (by decide) ?_
      exact vx_ret (W.iret (v := 0) hx hb hr (fun t ht hW => ⟨⟨0, (u, vp_updL f (0 : Int32).toNatClampNeg 1), rfl, (by rw [← hw]; exact ⟨rfl, rfl, (if_neg c0).symm⟩), by rw [ht]; exact hP, va_K.moved hW.alike hK, hD⟩, hS.F ht⟩) hS.2.2 dL_apart_25)
theorem E_put {σ : St} {p1 : Int32} {p2 : Int32} {E : String} (h : Except.error E = M_put σ p1 p2) : E = "java/lang/IndexOutOfBoundsException" := by
  unfold M_put at h
  try simp only [pb, vb] at h
  (repeat' (first | (rcases xb_err h with h | ⟨_, _, h⟩) | (split at h)))
  all_goals first | (cases h; done) | (cases h; first | exact rfl | exact Or.inl rfl | exact Or.inr rfl | exact Or.inr (Or.inl rfl) | exact Or.inr (Or.inr rfl)) | (have e := chk_err h; subst e; first | exact rfl | exact Or.inl rfl | exact Or.inr rfl | exact Or.inr (Or.inl rfl) | exact Or.inr (Or.inr rfl)) | (have e := hour_err h; subst e; first | exact rfl | exact Or.inl rfl | exact Or.inr rfl | exact Or.inr (Or.inl rfl) | exact Or.inr (Or.inr rfl))
set_option maxHeartbeats 4000000 in
set_option maxRecDepth 100000 in
theorem k_w_put (l : Launch) (hl9 : l.stackTraces = false) (D : va_G) (qo : Nat) (kL : ClassId) (ad : Nat → Nat) (kk : Nat → ClassId) (sz : Nat) (f : Nat → Int64) (σ : St) (p1 : Int32) (p2 : Int32) : vx_Met l yL_put wsL_put { frames := 9, cells := 2, slots := 12, locals := 156 } (va_Pc [.ref (ad 0), .int p1, .int p2, .ref qo] (PW D qo kL ad kk sz f σ)) (va_Qi (wrP (tI (M_put σ p1 p2)) ["java/lang/IndexOutOfBoundsException"] σ f) (QW D qo kL ad kk sz) (aW qo ad sz)) (fun _ _ _ => False) 2 12 (aW qo ad sz) := by
  refine vx_ofWH (cc := cL_put) (maxL := 5) (ret := (some .int)) (by decide) rfl ?_
  intro p e s m args below meth c s₁ B hml hv
  obtain ⟨rfl, hsz, hP, hK, hD0, hE⟩ := hv
  have hx := B.exec
  have hb := B.bytes
  have hr := B.returns
  have hts := atoms_spec (ws := wsL_put) B.pre
  have hown : s.vm.findClass RL = some m.cls := findClass_of_methodNamed B.named
  have hlocks := B.notSynchronized
  have htab := vx_table (x := yL_put) B (hts _ List.mem_cons_self)
  subst hsz
  have hD : va_D (aW qo ad s.heap.size) (wW qo kL f ad kk σ) := wW_D hD0
  have hS : va_S (aW qo ad s.heap.size) s.heap s.heap [] := va_S.rf
  have hl := lv_entry ([.ref (ad 0), .int p1, .int p2, .ref qo]) (n := 5) (Nat.le_of_ble_eq_true rfl)
  rw [lg_entry_eq]
  generalize (lg_sl ([.ref (ad 0), .int p1, .int p2, .ref qo]) ++ List.replicate (5 - (lg_sl ([.ref (ad 0), .int p1, .int p2, .ref qo])).length) Slot.unset).toArray = ls at hl ⊢
  have hl : lv_has ls 5 [(0, .ref (ad 0)), (1, .int p1), (2, .int p2), (3, .ref qo)] := hl
  have CF : CallFix p m c cL_put 5 s ([.ref (ad 0), .int p1, .int p2, .ref qo] : List Value).toArray wsL_put RL := ⟨hx, hb, hml, hown, hts⟩
  have ht : ∀ w ∈ T0, w.before ([.ref (ad 0), .int p1, .int p2, .ref qo] : List Value).toArray s = true := fun w h => hts w (List.mem_cons_of_mem _ h)
  refine lv_aload_n hx hb dL_put_0 rfl (lv_at hl 3 rfl) ?_
  refine lv_iconst (v := 0) hx hb dL_put_1 (by decide) ?_
  refine lv_aload_n hx hb dL_put_2 rfl (lv_at hl 0 rfl) ?_
  refine lv_iload_n hx hb dL_put_3 rfl (lv_at hl 1 rfl) ?_
  refine lv_iload_n hx hb dL_put_4 rfl (lv_at hl 2 rfl) ?_
  refine kW_i (vx_runV (As := [.int p1, .int p2]) (rest := [.int 0, .ref qo]) CF (k_put l hl9 D ad kk _ σ p1 p2) ⟨callB_of 2 hts (gT mw_503) rfl rfl rfl (ht _ mw_1) (ht _ mw_500) (by decide +kernel) ⟨Nat.le_of_ble_eq_true rfl, Nat.le_of_ble_eq_true rfl⟩, (ht _ mw_501), (ht _ mw_502)⟩ (preV_W hK hP hD hE hS) rfl rfl hl.1 rfl (lv_room (Nat.le_of_ble_eq_true rfl)) dL_put_5 ⟨Nat.le_of_ble_eq_true rfl, Nat.le_of_ble_eq_true rfl⟩) hP hD hS (fun E ce q9 H locs hTe hP hD hS hc1 hv1 hcl => ?_) (fun r u H locs hw hP hD hS => ?_)
  · rcases E_put hTe with rfl
    · refine vx_catch (name := "java/lang/IndexOutOfBoundsException") hown [] ⟨0, 10, 13, 25⟩ [] htab (fun z h => absurd h List.not_mem_nil) (by decide) (by decide) (ht _ mw_340) (va_Nw.use rfl (hE.1.2.2.2.2.2 "java/lang/IndexOutOfBoundsException" (by decide +kernel))) hc1 hv1 hcl ?_
      refine lv_astore (lv' := [(4, .ref q9), (0, .ref (ad 0)), (1, .int p1), (2, .int p2), (3, .ref qo)]) hx hb dL_put_13 hl (by decide) rfl (fun ls hl => ?_)
      refine lv_iconst (v := 1) hx hb dL_put_15 (by decide) ?_
      refine W.widen (k := 2) (n := 12) (by decide) (by decide) ?_
      exact vx_ret (W.iret (v := 1) hx hb hr (fun t ht hW => ⟨⟨1, (σ, f), rfl, (wr_eI hTe (by decide +kernel)), by rw [ht]; exact hP, va_K.moved hW.alike hK, hD⟩, hS.F ht⟩) hS.2.2 dL_put_16)
  · have hz : vp_in (0 : Int32) 1 := vp_in_nI (n := 0) (by decide) (by decide)
    refine lv_i2l hx hb dL_put_8 rfl ?_
    refine va_last (i := 0) (x := r.toInt64) hx hb hK hP hD hS 0 0 rfl rfl hz dL_put_9 (fun H locs hP hD hS => ?_)
    refine lv_goto (tgt := 17) hx hb dL_put_10 (by decide) ?_
    refine lv_iconst (v := 0) hx hb dL_put_17 (by decide) ?_
    refine W.widen (k := 2) (n := 12) (by decide) (by decide) ?_
    exact vx_ret (W.iret (v := 0) hx hb hr (fun t ht hW => ⟨⟨0, (u, vp_updL f (0 : Int32).toNatClampNeg r.toInt64), rfl, (by rw [← hw]; exact ⟨rfl, rfl, rfl⟩), by rw [ht]; exact hP, va_K.moved hW.alike hK, hD⟩, hS.F ht⟩) hS.2.2 dL_put_18)
theorem E_plan {σ : St} {p1 : Int32} {p2 : Int32} {E : String} (h : Except.error E = M_plan σ p1 p2) : E = "java/lang/IndexOutOfBoundsException" := by
  unfold M_plan at h
  try simp only [pb, vb] at h
  (repeat' (first | (rcases xb_err h with h | ⟨_, _, h⟩) | (split at h)))
  all_goals first | (cases h; done) | (cases h; first | exact rfl | exact Or.inl rfl | exact Or.inr rfl | exact Or.inr (Or.inl rfl) | exact Or.inr (Or.inr rfl)) | (have e := chk_err h; subst e; first | exact rfl | exact Or.inl rfl | exact Or.inr rfl | exact Or.inr (Or.inl rfl) | exact Or.inr (Or.inr rfl)) | (have e := hour_err h; subst e; first | exact rfl | exact Or.inl rfl | exact Or.inr rfl | exact Or.inr (Or.inl rfl) | exact Or.inr (Or.inr rfl))
set_option maxHeartbeats 4000000 in
set_option maxRecDepth 100000 in
theorem k_w_plan (l : Launch) (hl9 : l.stackTraces = false) (D : va_G) (qo : Nat) (kL : ClassId) (ad : Nat → Nat) (kk : Nat → ClassId) (sz : Nat) (f : Nat → Int64) (σ : St) (p1 : Int32) (p2 : Int32) (hI : IB σ) : vx_Met l yL_plan wsL_plan { frames := 9, cells := 2, slots := 12, locals := 157 } (va_Pc [.ref (ad 0), .int p1, .int p2, .ref qo] (PW D qo kL ad kk sz f σ)) (va_Qi (wrP (tI (M_plan σ p1 p2)) ["java/lang/IndexOutOfBoundsException"] σ f) (QW D qo kL ad kk sz) (aW qo ad sz)) (fun _ _ _ => False) 2 12 (aW qo ad sz) := by
  refine vx_ofWH (cc := cL_plan) (maxL := 5) (ret := (some .int)) (by decide) rfl ?_
  intro p e s m args below meth c s₁ B hml hv
  obtain ⟨rfl, hsz, hP, hK, hD0, hE⟩ := hv
  have hx := B.exec
  have hb := B.bytes
  have hr := B.returns
  have hts := atoms_spec (ws := wsL_plan) B.pre
  have hown : s.vm.findClass RL = some m.cls := findClass_of_methodNamed B.named
  have hlocks := B.notSynchronized
  have htab := vx_table (x := yL_plan) B (hts _ List.mem_cons_self)
  subst hsz
  have hD : va_D (aW qo ad s.heap.size) (wW qo kL f ad kk σ) := wW_D hD0
  have hS : va_S (aW qo ad s.heap.size) s.heap s.heap [] := va_S.rf
  have hl := lv_entry ([.ref (ad 0), .int p1, .int p2, .ref qo]) (n := 5) (Nat.le_of_ble_eq_true rfl)
  rw [lg_entry_eq]
  generalize (lg_sl ([.ref (ad 0), .int p1, .int p2, .ref qo]) ++ List.replicate (5 - (lg_sl ([.ref (ad 0), .int p1, .int p2, .ref qo])).length) Slot.unset).toArray = ls at hl ⊢
  have hl : lv_has ls 5 [(0, .ref (ad 0)), (1, .int p1), (2, .int p2), (3, .ref qo)] := hl
  have CF : CallFix p m c cL_plan 5 s ([.ref (ad 0), .int p1, .int p2, .ref qo] : List Value).toArray wsL_plan RL := ⟨hx, hb, hml, hown, hts⟩
  have ht : ∀ w ∈ T0, w.before ([.ref (ad 0), .int p1, .int p2, .ref qo] : List Value).toArray s = true := fun w h => hts w (List.mem_cons_of_mem _ h)
  refine lv_aload_n hx hb dL_plan_0 rfl (lv_at hl 3 rfl) ?_
  refine lv_iconst (v := 0) hx hb dL_plan_1 (by decide) ?_
  refine lv_aload_n hx hb dL_plan_2 rfl (lv_at hl 0 rfl) ?_
  refine lv_iload_n hx hb dL_plan_3 rfl (lv_at hl 1 rfl) ?_
  refine lv_iload_n hx hb dL_plan_4 rfl (lv_at hl 2 rfl) ?_
  refine kW_i (vx_runV (As := [.int p1, .int p2]) (rest := [.int 0, .ref qo]) CF (k_plan l hl9 D ad kk _ σ p1 p2 hI) ⟨callB_of 2 hts (gT mw_514) rfl rfl rfl (ht _ mw_1) (ht _ mw_511) (by decide +kernel) ⟨Nat.le_of_ble_eq_true rfl, Nat.le_of_ble_eq_true rfl⟩, (ht _ mw_512), (ht _ mw_513)⟩ (preV_W hK hP hD hE hS) rfl rfl hl.1 rfl (lv_room (Nat.le_of_ble_eq_true rfl)) dL_plan_5 ⟨Nat.le_of_ble_eq_true rfl, Nat.le_of_ble_eq_true rfl⟩) hP hD hS (fun E ce q9 H locs hTe hP hD hS hc1 hv1 hcl => ?_) (fun r u H locs hw hP hD hS => ?_)
  · rcases E_plan hTe with rfl
    · refine vx_catch (name := "java/lang/IndexOutOfBoundsException") hown [] ⟨0, 10, 13, 25⟩ [] htab (fun z h => absurd h List.not_mem_nil) (by decide) (by decide) (ht _ mw_340) (va_Nw.use rfl (hE.1.2.2.2.2.2 "java/lang/IndexOutOfBoundsException" (by decide +kernel))) hc1 hv1 hcl ?_
      refine lv_astore (lv' := [(4, .ref q9), (0, .ref (ad 0)), (1, .int p1), (2, .int p2), (3, .ref qo)]) hx hb dL_plan_13 hl (by decide) rfl (fun ls hl => ?_)
      refine lv_iconst (v := 1) hx hb dL_plan_15 (by decide) ?_
      refine W.widen (k := 2) (n := 12) (by decide) (by decide) ?_
      exact vx_ret (W.iret (v := 1) hx hb hr (fun t ht hW => ⟨⟨1, (σ, f), rfl, (wr_eI hTe (by decide +kernel)), by rw [ht]; exact hP, va_K.moved hW.alike hK, hD⟩, hS.F ht⟩) hS.2.2 dL_plan_16)
  · have hz : vp_in (0 : Int32) 1 := vp_in_nI (n := 0) (by decide) (by decide)
    refine lv_i2l hx hb dL_plan_8 rfl ?_
    refine va_last (i := 0) (x := r.toInt64) hx hb hK hP hD hS 0 0 rfl rfl hz dL_plan_9 (fun H locs hP hD hS => ?_)
    refine lv_goto (tgt := 17) hx hb dL_plan_10 (by decide) ?_
    refine lv_iconst (v := 0) hx hb dL_plan_17 (by decide) ?_
    refine W.widen (k := 2) (n := 12) (by decide) (by decide) ?_
    exact vx_ret (W.iret (v := 0) hx hb hr (fun t ht hW => ⟨⟨0, (u, vp_updL f (0 : Int32).toNatClampNeg r.toInt64), rfl, (by rw [← hw]; exact ⟨rfl, rfl, rfl⟩), by rw [ht]; exact hP, va_K.moved hW.alike hK, hD⟩, hS.F ht⟩) hS.2.2 dL_plan_18)
theorem E_step {σ : St} {p1 : Int32} {E : String} (h : Except.error E = M_step σ p1) : E = "java/lang/IndexOutOfBoundsException" := by
  unfold M_step at h
  try simp only [pb, vb] at h
  (repeat' (first | (rcases xb_err h with h | ⟨_, _, h⟩) | (split at h)))
  all_goals first | (cases h; done) | (cases h; first | exact rfl | exact Or.inl rfl | exact Or.inr rfl | exact Or.inr (Or.inl rfl) | exact Or.inr (Or.inr rfl)) | (have e := chk_err h; subst e; first | exact rfl | exact Or.inl rfl | exact Or.inr rfl | exact Or.inr (Or.inl rfl) | exact Or.inr (Or.inr rfl)) | (have e := hour_err h; subst e; first | exact rfl | exact Or.inl rfl | exact Or.inr rfl | exact Or.inr (Or.inl rfl) | exact Or.inr (Or.inr rfl))
set_option maxHeartbeats 4000000 in
set_option maxRecDepth 100000 in
theorem k_w_step (l : Launch) (hl9 : l.stackTraces = false) (D : va_G) (qo : Nat) (kL : ClassId) (ad : Nat → Nat) (kk : Nat → ClassId) (sz : Nat) (f : Nat → Int64) (σ : St) (p1 : Int32) (hI : IB σ) : vx_Met l yL_step wsL_step { frames := 8, cells := 1, slots := 6, locals := 132 } (va_Pc [.ref (ad 0), .int p1, .ref qo] (PW D qo kL ad kk sz f σ)) (va_Qi (wrP (tR σ (M_step σ p1)) ["java/lang/IndexOutOfBoundsException"] σ f) (QW D qo kL ad kk sz) (aW qo ad sz)) (fun _ _ _ => False) 1 6 (aW qo ad sz) := by
  refine vx_ofWH (cc := cL_step) (maxL := 4) (ret := (some .int)) (by decide) rfl ?_
  intro p e s m args below meth c s₁ B hml hv
  obtain ⟨rfl, hsz, hP, hK, hD0, hE⟩ := hv
  have hx := B.exec
  have hb := B.bytes
  have hr := B.returns
  have hts := atoms_spec (ws := wsL_step) B.pre
  have hown : s.vm.findClass RL = some m.cls := findClass_of_methodNamed B.named
  have hlocks := B.notSynchronized
  have htab := vx_table (x := yL_step) B (hts _ List.mem_cons_self)
  subst hsz
  have hD : va_D (aW qo ad s.heap.size) (wW qo kL f ad kk σ) := wW_D hD0
  have hS : va_S (aW qo ad s.heap.size) s.heap s.heap [] := va_S.rf
  have hl := lv_entry ([.ref (ad 0), .int p1, .ref qo]) (n := 4) (Nat.le_of_ble_eq_true rfl)
  rw [lg_entry_eq]
  generalize (lg_sl ([.ref (ad 0), .int p1, .ref qo]) ++ List.replicate (4 - (lg_sl ([.ref (ad 0), .int p1, .ref qo])).length) Slot.unset).toArray = ls at hl ⊢
  have hl : lv_has ls 4 [(0, .ref (ad 0)), (1, .int p1), (2, .ref qo)] := hl
  have CF : CallFix p m c cL_step 4 s ([.ref (ad 0), .int p1, .ref qo] : List Value).toArray wsL_step RL := ⟨hx, hb, hml, hown, hts⟩
  have ht : ∀ w ∈ T0, w.before ([.ref (ad 0), .int p1, .ref qo] : List Value).toArray s = true := fun w h => hts w (List.mem_cons_of_mem _ h)
  refine lv_aload_n hx hb dL_step_0 rfl (lv_at hl 2 rfl) ?_
  refine lv_iconst (v := 0) hx hb dL_step_1 (by decide) ?_
  refine lv_aload_n hx hb dL_step_2 rfl (lv_at hl 0 rfl) ?_
  refine lv_iload_n hx hb dL_step_3 rfl (lv_at hl 1 rfl) ?_
  refine kW_i (vx_runV (As := [.int p1]) (rest := [.int 0, .ref qo]) CF (k_step l hl9 D ad kk _ σ p1 hI) ⟨callB_of 1 hts (gT mw_555) rfl rfl rfl (ht _ mw_1) (ht _ mw_552) (by decide +kernel) ⟨Nat.le_of_ble_eq_true rfl, Nat.le_of_ble_eq_true rfl⟩, (ht _ mw_553), (ht _ mw_554)⟩ (preV_W hK hP hD hE hS) rfl rfl hl.1 rfl (lv_room (Nat.le_of_ble_eq_true rfl)) dL_step_4 ⟨Nat.le_of_ble_eq_true rfl, Nat.le_of_ble_eq_true rfl⟩) hP hD hS (fun E ce q9 H locs hTe hP hD hS hc1 hv1 hcl => ?_) (fun r u H locs hw hP hD hS => ?_)
  · rcases E_step hTe with rfl
    · refine vx_catch (name := "java/lang/IndexOutOfBoundsException") hown [] ⟨0, 9, 12, 25⟩ [] htab (fun z h => absurd h List.not_mem_nil) (by decide) (by decide) (ht _ mw_340) (va_Nw.use rfl (hE.1.2.2.2.2.2 "java/lang/IndexOutOfBoundsException" (by decide +kernel))) hc1 hv1 hcl ?_
      refine lv_astore_n (lv' := [(3, .ref q9), (0, .ref (ad 0)), (1, .int p1), (2, .ref qo)]) hx hb dL_step_12 rfl hl (by decide) rfl (fun ls hl => ?_)
      refine lv_iconst (v := 1) hx hb dL_step_13 (by decide) ?_
      refine W.widen (k := 1) (n := 6) (by decide) (by decide) ?_
      exact vx_ret (W.iret (v := 1) hx hb hr (fun t ht hW => ⟨⟨1, (σ, f), rfl, (wr_eR hTe (by decide +kernel)), by rw [ht]; exact hP, va_K.moved hW.alike hK, hD⟩, hS.F ht⟩) hS.2.2 dL_step_14)
  · have hz : vp_in (0 : Int32) 1 := vp_in_nI (n := 0) (by decide) (by decide)
    obtain ⟨hw, e9⟩ := hw
    rw [e9] at hP hD
    refine lv_i2l hx hb dL_step_7 rfl ?_
    refine va_last (i := 0) (x := r.toInt64) hx hb hK hP hD hS 0 0 rfl rfl hz dL_step_8 (fun H locs hP hD hS => ?_)
    refine lv_goto (tgt := 15) hx hb dL_step_9 (by decide) ?_
    refine lv_iconst (v := 0) hx hb dL_step_15 (by decide) ?_
    refine W.widen (k := 1) (n := 6) (by decide) (by decide) ?_
    exact vx_ret (W.iret (v := 0) hx hb hr (fun t ht hW => ⟨⟨0, (σ, vp_updL f (0 : Int32).toNatClampNeg r.toInt64), rfl, (by rw [← hw]; exact ⟨rfl, rfl, rfl⟩), by rw [ht]; exact hP, va_K.moved hW.alike hK, hD⟩, hS.F ht⟩) hS.2.2 dL_step_16)
theorem E_count {σ : St} {p1 : Int32} {E : String} (h : Except.error E = M_count σ p1) : E = "java/lang/IndexOutOfBoundsException" := by
  unfold M_count at h
  try simp only [pb, vb] at h
  (repeat' (first | (rcases xb_err h with h | ⟨_, _, h⟩) | (split at h)))
  all_goals first | (cases h; done) | (cases h; first | exact rfl | exact Or.inl rfl | exact Or.inr rfl | exact Or.inr (Or.inl rfl) | exact Or.inr (Or.inr rfl)) | (have e := chk_err h; subst e; first | exact rfl | exact Or.inl rfl | exact Or.inr rfl | exact Or.inr (Or.inl rfl) | exact Or.inr (Or.inr rfl)) | (have e := hour_err h; subst e; first | exact rfl | exact Or.inl rfl | exact Or.inr rfl | exact Or.inr (Or.inl rfl) | exact Or.inr (Or.inr rfl))
set_option maxHeartbeats 4000000 in
set_option maxRecDepth 100000 in
theorem k_w_count (l : Launch) (hl9 : l.stackTraces = false) (D : va_G) (qo : Nat) (kL : ClassId) (ad : Nat → Nat) (kk : Nat → ClassId) (sz : Nat) (f : Nat → Int64) (σ : St) (p1 : Int32) (hI : IB σ) : vx_Met l yL_count wsL_count { frames := 7, cells := 1, slots := 6, locals := 111 } (va_Pc [.ref (ad 0), .int p1, .ref qo] (PW D qo kL ad kk sz f σ)) (va_Qi (wrP (tR σ (M_count σ p1)) ["java/lang/IndexOutOfBoundsException"] σ f) (QW D qo kL ad kk sz) (aW qo ad sz)) (fun _ _ _ => False) 1 6 (aW qo ad sz) := by
  refine vx_ofWH (cc := cL_count) (maxL := 4) (ret := (some .int)) (by decide) rfl ?_
  intro p e s m args below meth c s₁ B hml hv
  obtain ⟨rfl, hsz, hP, hK, hD0, hE⟩ := hv
  have hx := B.exec
  have hb := B.bytes
  have hr := B.returns
  have hts := atoms_spec (ws := wsL_count) B.pre
  have hown : s.vm.findClass RL = some m.cls := findClass_of_methodNamed B.named
  have hlocks := B.notSynchronized
  have htab := vx_table (x := yL_count) B (hts _ List.mem_cons_self)
  subst hsz
  have hD : va_D (aW qo ad s.heap.size) (wW qo kL f ad kk σ) := wW_D hD0
  have hS : va_S (aW qo ad s.heap.size) s.heap s.heap [] := va_S.rf
  have hl := lv_entry ([.ref (ad 0), .int p1, .ref qo]) (n := 4) (Nat.le_of_ble_eq_true rfl)
  rw [lg_entry_eq]
  generalize (lg_sl ([.ref (ad 0), .int p1, .ref qo]) ++ List.replicate (4 - (lg_sl ([.ref (ad 0), .int p1, .ref qo])).length) Slot.unset).toArray = ls at hl ⊢
  have hl : lv_has ls 4 [(0, .ref (ad 0)), (1, .int p1), (2, .ref qo)] := hl
  have CF : CallFix p m c cL_count 4 s ([.ref (ad 0), .int p1, .ref qo] : List Value).toArray wsL_count RL := ⟨hx, hb, hml, hown, hts⟩
  have ht : ∀ w ∈ T0, w.before ([.ref (ad 0), .int p1, .ref qo] : List Value).toArray s = true := fun w h => hts w (List.mem_cons_of_mem _ h)
  refine lv_aload_n hx hb dL_count_0 rfl (lv_at hl 2 rfl) ?_
  refine lv_iconst (v := 0) hx hb dL_count_1 (by decide) ?_
  refine lv_aload_n hx hb dL_count_2 rfl (lv_at hl 0 rfl) ?_
  refine lv_iload_n hx hb dL_count_3 rfl (lv_at hl 1 rfl) ?_
  refine kW_i (vx_runV (As := [.int p1]) (rest := [.int 0, .ref qo]) CF (k_count l hl9 D ad kk _ σ p1 hI) ⟨callB_of 1 hts (gT mw_562) rfl rfl rfl (ht _ mw_1) (ht _ mw_559) (by decide +kernel) ⟨Nat.le_of_ble_eq_true rfl, Nat.le_of_ble_eq_true rfl⟩, (ht _ mw_560), (ht _ mw_561)⟩ (preV_W hK hP hD hE hS) rfl rfl hl.1 rfl (lv_room (Nat.le_of_ble_eq_true rfl)) dL_count_4 ⟨Nat.le_of_ble_eq_true rfl, Nat.le_of_ble_eq_true rfl⟩) hP hD hS (fun E ce q9 H locs hTe hP hD hS hc1 hv1 hcl => ?_) (fun r u H locs hw hP hD hS => ?_)
  · rcases E_count hTe with rfl
    · refine vx_catch (name := "java/lang/IndexOutOfBoundsException") hown [] ⟨0, 9, 12, 25⟩ [] htab (fun z h => absurd h List.not_mem_nil) (by decide) (by decide) (ht _ mw_340) (va_Nw.use rfl (hE.1.2.2.2.2.2 "java/lang/IndexOutOfBoundsException" (by decide +kernel))) hc1 hv1 hcl ?_
      refine lv_astore_n (lv' := [(3, .ref q9), (0, .ref (ad 0)), (1, .int p1), (2, .ref qo)]) hx hb dL_count_12 rfl hl (by decide) rfl (fun ls hl => ?_)
      refine lv_iconst (v := 1) hx hb dL_count_13 (by decide) ?_
      refine W.widen (k := 1) (n := 6) (by decide) (by decide) ?_
      exact vx_ret (W.iret (v := 1) hx hb hr (fun t ht hW => ⟨⟨1, (σ, f), rfl, (wr_eR hTe (by decide +kernel)), by rw [ht]; exact hP, va_K.moved hW.alike hK, hD⟩, hS.F ht⟩) hS.2.2 dL_count_14)
  · have hz : vp_in (0 : Int32) 1 := vp_in_nI (n := 0) (by decide) (by decide)
    obtain ⟨hw, e9⟩ := hw
    rw [e9] at hP hD
    refine lv_i2l hx hb dL_count_7 rfl ?_
    refine va_last (i := 0) (x := r.toInt64) hx hb hK hP hD hS 0 0 rfl rfl hz dL_count_8 (fun H locs hP hD hS => ?_)
    refine lv_goto (tgt := 15) hx hb dL_count_9 (by decide) ?_
    refine lv_iconst (v := 0) hx hb dL_count_15 (by decide) ?_
    refine W.widen (k := 1) (n := 6) (by decide) (by decide) ?_
    exact vx_ret (W.iret (v := 0) hx hb hr (fun t ht hW => ⟨⟨0, (σ, vp_updL f (0 : Int32).toNatClampNeg r.toInt64), rfl, (by rw [← hw]; exact ⟨rfl, rfl, rfl⟩), by rw [ht]; exact hP, va_K.moved hW.alike hK, hD⟩, hS.F ht⟩) hS.2.2 dL_count_16)

set_option maxHeartbeats 4000000 in
set_option maxRecDepth 100000 in
theorem lc_unit {R : St → St → Prop} (hRB : ∀ σ μ, R σ μ → IB σ ∧ IM μ) {p : Program} {e : Env} {s : State} {m : MethodId} {below : List Frame} {meth : Method} {c : Code} (l : Launch) (hl9 : l.stackTraces = false) {b L : Nat} {xs : Nat → Int32} {Q : State → Prop} (hL : L ≤ 3072) (C0 : lw_At p s m meth c b L xs) {D : va_G} {kL : ClassId} {kk kj : Nat → ClassId} {qo : Nat} {ad bd : Nat → Nat} (hK : va_K D vwCl (tyT kj kL kk) s) (hE : EvW (LA s) s s.heap) {σ μ : St} {f : Nat → Int64} {i cells slots : Nat} {H : Heap} {locs : List Loc} {ls : Array Slot} (hR : R σ μ) (hsim : Sim R (tI (M_unit σ (xs (i + 1)))) ["java/lang/IllegalStateException", "java/lang/IllegalArgumentException"] σ (M_m_unit μ (xs (i + 1))).1.toInt64 (M_m_unit μ (xs (i + 1))).2) (hi : i + 6 ≤ L) (hcl : cells + 6 ≤ 601024) (hsl : slots + 36 ≤ 7293034) (hP : va_P D vwCl (wT bd kj μ qo kL f ad kk σ) H) (hD : va_D (LA s) (wT bd kj μ qo kL f ad kk σ)) (hS : va_S (LA s) s.heap H locs) (hl : lv_has ls 8 [(0, .ref b), (1, .ref (ad 0)), (2, .ref (bd 0)), (3, .ref qo), (4, .int (nI i))])
    (K : ∀ (σ1 μ1 : St) (f1 : Nat → Int64) (H : Heap) (locs : List Loc) (ls : Array Slot), R σ1 μ1 → va_P D vwCl (wT bd kj μ1 qo kL f1 ad kk σ1) H → va_D (LA s) (wT bd kj μ1 qo kL f1 ad kk σ1) → va_S (LA s) s.heap H locs → lv_has ls 8 [(0, .ref b), (1, .ref (ad 0)), (2, .ref (bd 0)), (3, .ref qo), (4, .int (nI i))] → W p l e room_1 s m #[Value.ref b] below meth c H locs (cells + 6) (slots + 36) Q (F0 m 1344 ls ([]))) : W p l e room_1 s m #[Value.ref b] below meth c H locs cells slots Q (F0 m 124 ls ([])) := by
  obtain ⟨hx, hb, hr, hml, hown, hts, hX, hbl, hlocks, hgv⟩ := C0
  have ht : ∀ w ∈ T0, w.before #[Value.ref b] s = true := fun w h => hts w (T0_lw h)
  have CF : CallFix p m c code 8 s #[Value.ref b] T0 RL := ⟨hx, hb, hml, hown, ht⟩
  have hbA : ¬ LA s b := Nat.not_le.mpr hbl
  have hIB := (hRB σ μ hR).1
  have hIM := (hRB σ μ hR).2
  refine lv_aload_n hx hb dL_law_124 rfl (lv_at hl 1 rfl) ?_
  refine lv_aload_n hx hb dL_law_125 rfl (lv_at hl 0 rfl) ?_
  refine lv_iload hx hb dL_law_126 (lv_at hl 4 rfl) ?_
  refine lv_iconst (v := 1) hx hb dL_law_128 (by decide) ?_
  refine lv_iadd hx hb dL_law_129 ?_
  refine lv_topE (nI_add i 1) ?_
  refine va_sld hx hb hX hbl hbA hS (vp_in_nI (n := i + 1) (by omega) (by omega)) dL_law_130 ?_
  rw [nI_clamp (n := i + 1) (by omega)]
  refine lv_aload_n hx hb dL_law_131 rfl (lv_at hl 3 rfl) ?_
  refine kT_w (vx_runSX (As := [.ref (ad 0), .int (xs (i + 1)), .ref qo]) (rest := []) CF (k_w_unit l hl9 D qo kL ad kk _ f σ (xs (i + 1)) hIB) (csw (n := 3) ht mw_189 mw_187 mw_188 mw_0 rfl rfl (by decide +kernel) ⟨Nat.le_of_ble_eq_true rfl, Nat.le_of_ble_eq_true rfl⟩) (preS_T hK hP hD hE hS) rfl rfl hl.1 rfl (lv_room (Nat.le_of_ble_eq_true rfl)) dL_law_132 ⟨Nat.le_trans (by omega : cells + 1 ≤ 601024) (Nat.le_of_ble_eq_true rfl), Nat.le_trans (by omega : slots + 6 ≤ 7293034) (Nat.le_of_ble_eq_true rfl)⟩) hP hD hS (fun r u H locs hw hP hD hS => ?_)
  obtain ⟨h0r, hbr, hR1⟩ := simw (by decide) hsim hw
  refine lv_istore (lv' := [(5, .int r), (0, .ref b), (1, .ref (ad 0)), (2, .ref (bd 0)), (3, .ref qo), (4, .int (nI i))]) hx hb dL_law_135 hl (by decide) rfl (fun ls hl => ?_)
  refine lv_aload_n hx hb dL_law_137 rfl (lv_at hl 3 rfl) ?_
  refine lv_aload_n hx hb dL_law_138 rfl (lv_at hl 1 rfl) ?_
  refine lv_iload hx hb dL_law_139 (lv_at hl 5 rfl) ?_
  refine lv_iconst (v := 1) hx hb dL_law_141 (by decide) ?_
  refine lv_iadd hx hb dL_law_142 ?_
  refine lv_topE (nI_add i 1) ?_
  refine va_sld hx hb hX hbl hbA hS (vp_in_nI (n := i + 1) (by omega) (by omega)) dL_law_143 ?_
  rw [nI_clamp (n := i + 1) (by omega)]
  refine kT_i (va_runV (As := [.int (xs (i + 1))]) (rest := []) CF (k_m_unit l D bd kj _ μ (xs (i + 1)) hIM) ⟨callB_of 1 ht (gT0 mw_664) rfl rfl rfl (ht _ mw_6) (ht _ mw_661) (by decide +kernel) ⟨Nat.le_of_ble_eq_true rfl, Nat.le_of_ble_eq_true rfl⟩, (ht _ mw_662), (ht _ mw_663)⟩ (preV_N hK hP hD) rfl rfl hl.1 rfl (lv_room (Nat.le_of_ble_eq_true rfl)) dL_law_144 ⟨Nat.le_trans (by omega : cells + 1 + 0 ≤ 601024) (Nat.le_of_ble_eq_true rfl), Nat.le_trans (by omega : slots + 6 + 0 ≤ 7293034) (Nat.le_of_ble_eq_true rfl)⟩) hP hD hS (fun bv μ1 H locs hm hP hD hS => ?_)
  rw [← hm] at h0r hbr hR1
  refine lv_istore (lv' := [(6, .int bv), (5, .int r), (0, .ref b), (1, .ref (ad 0)), (2, .ref (bd 0)), (3, .ref qo), (4, .int (nI i))]) hx hb dL_law_147 hl (by decide) rfl (fun ls hl => ?_)
  refine lv_aload_n hx hb dL_law_149 rfl (lv_at hl 4 rfl) ?_
  refine kT_i (va_runV (As := []) (rest := []) CF (k_m_thrown l D bd kj _ μ1) ⟨callB_of 0 ht (gT0 mw_660) rfl rfl rfl (ht _ mw_6) (ht _ mw_657) (by decide +kernel) ⟨Nat.le_of_ble_eq_true rfl, Nat.le_of_ble_eq_true rfl⟩, (ht _ mw_658), (ht _ mw_659)⟩ (preV_N hK hP hD) rfl rfl hl.1 rfl (lv_room (Nat.le_of_ble_eq_true rfl)) dL_law_150 ⟨Nat.le_trans (by omega : cells + 1 + 0 ≤ 601024) (Nat.le_of_ble_eq_true rfl), Nat.le_trans (by omega : slots + 6 + 0 ≤ 7293034) (Nat.le_of_ble_eq_true rfl)⟩) hP hD hS (fun tv u9 H locs h9 hP hD hS => ?_)
  obtain ⟨h9, e9⟩ := h9
  rw [e9] at hP hD
  rw [show M_m_thrown μ1 = gF μ1 0 0 from rfl] at h9
  refine lv_iload hx hb dL_law_153 (lv_at hl 1 rfl) ?_
  refine lv_icmp_eq (tgt := 160) hx hb dL_law_155 (by decide) (fun c1 => ?_) (fun c1 => absurd (h9.trans h0r) c1)
  refine lv_iload hx hb dL_law_160 (lv_at hl 1 rfl) ?_
  refine lv_if_ne (tgt := 177) hx hb dL_law_162 (by decide) (fun c2 => ?_) (fun c2 => ?_)
  · skip
    refine lv_goto (tgt := 1344) hx hb dL_law_177 (by decide) ?_
    refine W.widen (k := cells + 6) (n := slots + 36) (by omega) (by omega) ?_
    exact K u.1 μ1 u.2 H locs ls hR1 hP hD hS (lv_sub hl [2, 3, 4, 5, 6] rfl)
  · have hb9 := hbr c2
    refine lv_aload_n hx hb dL_law_165 rfl (lv_at hl 5 rfl) ?_
    refine lv_iconst (v := 0) hx hb dL_law_166 (by decide) ?_
    refine va_lald (i := 0) hx hb hK hP 23 3 (out_at) rfl (vp_in_nI (n := 0) (by decide) (by decide)) dL_law_167 ?_
    refine lv_iload hx hb dL_law_168 (lv_at hl 0 rfl) ?_
    refine lv_i2l hx hb dL_law_170 rfl ?_
    have hq9 : u.2 (0 : Int32).toNatClampNeg = bv.toInt64 := hb9
    rw [hq9]
    refine W.lcmp hx hb dL_law_171 ?_
    rw [lc_eq]
    refine lv_if_eq (tgt := 177) hx hb dL_law_172 (by decide) (fun c3 => ?_) (fun c3 => absurd rfl c3)
    refine lv_goto (tgt := 1344) hx hb dL_law_177 (by decide) ?_
    refine W.widen (k := cells + 6) (n := slots + 36) (by omega) (by omega) ?_
    exact K u.1 μ1 u.2 H locs ls hR1 hP hD hS (lv_sub hl [2, 3, 4, 5, 6] rfl)
set_option maxHeartbeats 4000000 in
set_option maxRecDepth 100000 in
theorem lc_read {R : St → St → Prop} (hRB : ∀ σ μ, R σ μ → IB σ ∧ IM μ) {p : Program} {e : Env} {s : State} {m : MethodId} {below : List Frame} {meth : Method} {c : Code} (l : Launch) (hl9 : l.stackTraces = false) {b L : Nat} {xs : Nat → Int32} {Q : State → Prop} (hL : L ≤ 3072) (C0 : lw_At p s m meth c b L xs) {D : va_G} {kL : ClassId} {kk kj : Nat → ClassId} {qo : Nat} {ad bd : Nat → Nat} (hK : va_K D vwCl (tyT kj kL kk) s) (hE : EvW (LA s) s s.heap) {σ μ : St} {f : Nat → Int64} {i cells slots : Nat} {H : Heap} {locs : List Loc} {ls : Array Slot} (hR : R σ μ) (hsim : Sim R (tI (M_read σ)) ["java/lang/IllegalStateException"] σ (M_m_read μ).1.toInt64 (M_m_read μ).2) (hi : i + 6 ≤ L) (hcl : cells + 6 ≤ 601024) (hsl : slots + 36 ≤ 7293034) (hP : va_P D vwCl (wT bd kj μ qo kL f ad kk σ) H) (hD : va_D (LA s) (wT bd kj μ qo kL f ad kk σ)) (hS : va_S (LA s) s.heap H locs) (hl : lv_has ls 8 [(0, .ref b), (1, .ref (ad 0)), (2, .ref (bd 0)), (3, .ref qo), (4, .int (nI i))])
    (K : ∀ (σ1 μ1 : St) (f1 : Nat → Int64) (H : Heap) (locs : List Loc) (ls : Array Slot), R σ1 μ1 → va_P D vwCl (wT bd kj μ1 qo kL f1 ad kk σ1) H → va_D (LA s) (wT bd kj μ1 qo kL f1 ad kk σ1) → va_S (LA s) s.heap H locs → lv_has ls 8 [(0, .ref b), (1, .ref (ad 0)), (2, .ref (bd 0)), (3, .ref qo), (4, .int (nI i))] → W p l e room_1 s m #[Value.ref b] below meth c H locs (cells + 6) (slots + 36) Q (F0 m 1344 ls ([]))) : W p l e room_1 s m #[Value.ref b] below meth c H locs cells slots Q (F0 m 180 ls ([])) := by
  obtain ⟨hx, hb, hr, hml, hown, hts, hX, hbl, hlocks, hgv⟩ := C0
  have ht : ∀ w ∈ T0, w.before #[Value.ref b] s = true := fun w h => hts w (T0_lw h)
  have CF : CallFix p m c code 8 s #[Value.ref b] T0 RL := ⟨hx, hb, hml, hown, ht⟩
  have hbA : ¬ LA s b := Nat.not_le.mpr hbl
  have hIB := (hRB σ μ hR).1
  have hIM := (hRB σ μ hR).2
  refine lv_aload_n hx hb dL_law_180 rfl (lv_at hl 1 rfl) ?_
  refine lv_aload_n hx hb dL_law_181 rfl (lv_at hl 3 rfl) ?_
  refine kT_w (vx_runSX (As := [.ref (ad 0), .ref qo]) (rest := []) CF (k_w_read l hl9 D qo kL ad kk _ f σ hIB) (csw (n := 2) ht mw_282 mw_280 mw_281 mw_0 rfl rfl (by decide +kernel) ⟨Nat.le_of_ble_eq_true rfl, Nat.le_of_ble_eq_true rfl⟩) (preS_T hK hP hD hE hS) rfl rfl hl.1 rfl (lv_room (Nat.le_of_ble_eq_true rfl)) dL_law_182 ⟨Nat.le_trans (by omega : cells + 1 ≤ 601024) (Nat.le_of_ble_eq_true rfl), Nat.le_trans (by omega : slots + 6 ≤ 7293034) (Nat.le_of_ble_eq_true rfl)⟩) hP hD hS (fun r u H locs hw hP hD hS => ?_)
  obtain ⟨h0r, hbr, hR1⟩ := simw (by decide) hsim hw
  refine lv_istore (lv' := [(5, .int r), (0, .ref b), (1, .ref (ad 0)), (2, .ref (bd 0)), (3, .ref qo), (4, .int (nI i))]) hx hb dL_law_185 hl (by decide) rfl (fun ls hl => ?_)
  refine lv_aload_n hx hb dL_law_187 rfl (lv_at hl 3 rfl) ?_
  refine kT_i (va_runV (As := []) (rest := []) CF (k_m_read l D bd kj _ μ hIM) ⟨callB_of 0 ht (gT0 mw_672) rfl rfl rfl (ht _ mw_6) (ht _ mw_669) (by decide +kernel) ⟨Nat.le_of_ble_eq_true rfl, Nat.le_of_ble_eq_true rfl⟩, (ht _ mw_670), (ht _ mw_671)⟩ (preV_N hK hP hD) rfl rfl hl.1 rfl (lv_room (Nat.le_of_ble_eq_true rfl)) dL_law_188 ⟨Nat.le_trans (by omega : cells + 1 + 0 ≤ 601024) (Nat.le_of_ble_eq_true rfl), Nat.le_trans (by omega : slots + 6 + 0 ≤ 7293034) (Nat.le_of_ble_eq_true rfl)⟩) hP hD hS (fun bv μ1 H locs hm hP hD hS => ?_)
  rw [← hm] at h0r hbr hR1
  refine lv_istore (lv' := [(6, .int bv), (5, .int r), (0, .ref b), (1, .ref (ad 0)), (2, .ref (bd 0)), (3, .ref qo), (4, .int (nI i))]) hx hb dL_law_191 hl (by decide) rfl (fun ls hl => ?_)
  refine lv_aload_n hx hb dL_law_193 rfl (lv_at hl 4 rfl) ?_
  refine kT_i (va_runV (As := []) (rest := []) CF (k_m_thrown l D bd kj _ μ1) ⟨callB_of 0 ht (gT0 mw_660) rfl rfl rfl (ht _ mw_6) (ht _ mw_657) (by decide +kernel) ⟨Nat.le_of_ble_eq_true rfl, Nat.le_of_ble_eq_true rfl⟩, (ht _ mw_658), (ht _ mw_659)⟩ (preV_N hK hP hD) rfl rfl hl.1 rfl (lv_room (Nat.le_of_ble_eq_true rfl)) dL_law_194 ⟨Nat.le_trans (by omega : cells + 1 + 0 ≤ 601024) (Nat.le_of_ble_eq_true rfl), Nat.le_trans (by omega : slots + 6 + 0 ≤ 7293034) (Nat.le_of_ble_eq_true rfl)⟩) hP hD hS (fun tv u9 H locs h9 hP hD hS => ?_)
  obtain ⟨h9, e9⟩ := h9
  rw [e9] at hP hD
  rw [show M_m_thrown μ1 = gF μ1 0 0 from rfl] at h9
  refine lv_iload hx hb dL_law_197 (lv_at hl 1 rfl) ?_
  refine lv_icmp_eq (tgt := 204) hx hb dL_law_199 (by decide) (fun c1 => ?_) (fun c1 => absurd (h9.trans h0r) c1)
  refine lv_iload hx hb dL_law_204 (lv_at hl 1 rfl) ?_
  refine lv_if_ne (tgt := 221) hx hb dL_law_206 (by decide) (fun c2 => ?_) (fun c2 => ?_)
  · skip
    refine lv_goto (tgt := 1344) hx hb dL_law_221 (by decide) ?_
    refine W.widen (k := cells + 6) (n := slots + 36) (by omega) (by omega) ?_
    exact K u.1 μ1 u.2 H locs ls hR1 hP hD hS (lv_sub hl [2, 3, 4, 5, 6] rfl)
  · have hb9 := hbr c2
    refine lv_aload_n hx hb dL_law_209 rfl (lv_at hl 5 rfl) ?_
    refine lv_iconst (v := 0) hx hb dL_law_210 (by decide) ?_
    refine va_lald (i := 0) hx hb hK hP 23 3 (out_at) rfl (vp_in_nI (n := 0) (by decide) (by decide)) dL_law_211 ?_
    refine lv_iload hx hb dL_law_212 (lv_at hl 0 rfl) ?_
    refine lv_i2l hx hb dL_law_214 rfl ?_
    have hq9 : u.2 (0 : Int32).toNatClampNeg = bv.toInt64 := hb9
    rw [hq9]
    refine W.lcmp hx hb dL_law_215 ?_
    rw [lc_eq]
    refine lv_if_eq (tgt := 221) hx hb dL_law_216 (by decide) (fun c3 => ?_) (fun c3 => absurd rfl c3)
    refine lv_goto (tgt := 1344) hx hb dL_law_221 (by decide) ?_
    refine W.widen (k := cells + 6) (n := slots + 36) (by omega) (by omega) ?_
    exact K u.1 μ1 u.2 H locs ls hR1 hP hD hS (lv_sub hl [2, 3, 4, 5, 6] rfl)
set_option maxHeartbeats 4000000 in
set_option maxRecDepth 100000 in
theorem lc_uses {R : St → St → Prop} (hRB : ∀ σ μ, R σ μ → IB σ ∧ IM μ) {p : Program} {e : Env} {s : State} {m : MethodId} {below : List Frame} {meth : Method} {c : Code} (l : Launch) (hl9 : l.stackTraces = false) {b L : Nat} {xs : Nat → Int32} {Q : State → Prop} (hL : L ≤ 3072) (C0 : lw_At p s m meth c b L xs) {D : va_G} {kL : ClassId} {kk kj : Nat → ClassId} {qo : Nat} {ad bd : Nat → Nat} (hK : va_K D vwCl (tyT kj kL kk) s) (hE : EvW (LA s) s s.heap) {σ μ : St} {f : Nat → Int64} {i cells slots : Nat} {H : Heap} {locs : List Loc} {ls : Array Slot} (hR : R σ μ) (hsim : Sim R (tR σ (M_uses σ (xs (i + 1)) (xs (i + 2)))) ["java/lang/IndexOutOfBoundsException"] σ (M_m_uses μ (xs (i + 1)) (xs (i + 2))).1.toInt64 (M_m_uses μ (xs (i + 1)) (xs (i + 2))).2) (hi : i + 6 ≤ L) (hcl : cells + 6 ≤ 601024) (hsl : slots + 36 ≤ 7293034) (hP : va_P D vwCl (wT bd kj μ qo kL f ad kk σ) H) (hD : va_D (LA s) (wT bd kj μ qo kL f ad kk σ)) (hS : va_S (LA s) s.heap H locs) (hl : lv_has ls 8 [(0, .ref b), (1, .ref (ad 0)), (2, .ref (bd 0)), (3, .ref qo), (4, .int (nI i))])
    (K : ∀ (σ1 μ1 : St) (f1 : Nat → Int64) (H : Heap) (locs : List Loc) (ls : Array Slot), R σ1 μ1 → va_P D vwCl (wT bd kj μ1 qo kL f1 ad kk σ1) H → va_D (LA s) (wT bd kj μ1 qo kL f1 ad kk σ1) → va_S (LA s) s.heap H locs → lv_has ls 8 [(0, .ref b), (1, .ref (ad 0)), (2, .ref (bd 0)), (3, .ref qo), (4, .int (nI i))] → W p l e room_1 s m #[Value.ref b] below meth c H locs (cells + 6) (slots + 36) Q (F0 m 1344 ls ([]))) : W p l e room_1 s m #[Value.ref b] below meth c H locs cells slots Q (F0 m 224 ls ([])) := by
  obtain ⟨hx, hb, hr, hml, hown, hts, hX, hbl, hlocks, hgv⟩ := C0
  have ht : ∀ w ∈ T0, w.before #[Value.ref b] s = true := fun w h => hts w (T0_lw h)
  have CF : CallFix p m c code 8 s #[Value.ref b] T0 RL := ⟨hx, hb, hml, hown, ht⟩
  have hbA : ¬ LA s b := Nat.not_le.mpr hbl
  have hIB := (hRB σ μ hR).1
  have hIM := (hRB σ μ hR).2
  refine lv_aload_n hx hb dL_law_224 rfl (lv_at hl 1 rfl) ?_
  refine lv_aload_n hx hb dL_law_225 rfl (lv_at hl 0 rfl) ?_
  refine lv_iload hx hb dL_law_226 (lv_at hl 4 rfl) ?_
  refine lv_iconst (v := 1) hx hb dL_law_228 (by decide) ?_
  refine lv_iadd hx hb dL_law_229 ?_
  refine lv_topE (nI_add i 1) ?_
  refine va_sld hx hb hX hbl hbA hS (vp_in_nI (n := i + 1) (by omega) (by omega)) dL_law_230 ?_
  rw [nI_clamp (n := i + 1) (by omega)]
  refine lv_aload_n hx hb dL_law_231 rfl (lv_at hl 0 rfl) ?_
  refine lv_iload hx hb dL_law_232 (lv_at hl 4 rfl) ?_
  refine lv_iconst (v := 2) hx hb dL_law_234 (by decide) ?_
  refine lv_iadd hx hb dL_law_235 ?_
  refine lv_topE (nI_add i 2) ?_
  refine va_sld hx hb hX hbl hbA hS (vp_in_nI (n := i + 2) (by omega) (by omega)) dL_law_236 ?_
  rw [nI_clamp (n := i + 2) (by omega)]
  refine lv_aload_n hx hb dL_law_237 rfl (lv_at hl 3 rfl) ?_
  refine kT_w (vx_runSX (As := [.ref (ad 0), .int (xs (i + 1)), .int (xs (i + 2)), .ref qo]) (rest := []) CF (k_w_uses l hl9 D qo kL ad kk _ f σ (xs (i + 1)) (xs (i + 2)) hIB) (csw (n := 4) ht mw_339 mw_337 mw_338 mw_0 rfl rfl (by decide +kernel) ⟨Nat.le_of_ble_eq_true rfl, Nat.le_of_ble_eq_true rfl⟩) (preS_T hK hP hD hE hS) rfl rfl hl.1 rfl (lv_room (Nat.le_of_ble_eq_true rfl)) dL_law_238 ⟨Nat.le_trans (by omega : cells + 2 ≤ 601024) (Nat.le_of_ble_eq_true rfl), Nat.le_trans (by omega : slots + 12 ≤ 7293034) (Nat.le_of_ble_eq_true rfl)⟩) hP hD hS (fun r u H locs hw hP hD hS => ?_)
  obtain ⟨h0r, hbr, hR1⟩ := simw (by decide) hsim hw
  refine lv_istore (lv' := [(5, .int r), (0, .ref b), (1, .ref (ad 0)), (2, .ref (bd 0)), (3, .ref qo), (4, .int (nI i))]) hx hb dL_law_241 hl (by decide) rfl (fun ls hl => ?_)
  refine lv_aload_n hx hb dL_law_243 rfl (lv_at hl 3 rfl) ?_
  refine lv_aload_n hx hb dL_law_244 rfl (lv_at hl 1 rfl) ?_
  refine lv_iload hx hb dL_law_245 (lv_at hl 5 rfl) ?_
  refine lv_iconst (v := 1) hx hb dL_law_247 (by decide) ?_
  refine lv_iadd hx hb dL_law_248 ?_
  refine lv_topE (nI_add i 1) ?_
  refine va_sld hx hb hX hbl hbA hS (vp_in_nI (n := i + 1) (by omega) (by omega)) dL_law_249 ?_
  rw [nI_clamp (n := i + 1) (by omega)]
  refine lv_aload_n hx hb dL_law_250 rfl (lv_at hl 1 rfl) ?_
  refine lv_iload hx hb dL_law_251 (lv_at hl 5 rfl) ?_
  refine lv_iconst (v := 2) hx hb dL_law_253 (by decide) ?_
  refine lv_iadd hx hb dL_law_254 ?_
  refine lv_topE (nI_add i 2) ?_
  refine va_sld hx hb hX hbl hbA hS (vp_in_nI (n := i + 2) (by omega) (by omega)) dL_law_255 ?_
  rw [nI_clamp (n := i + 2) (by omega)]
  refine kT_i (va_runV (As := [.int (xs (i + 1)), .int (xs (i + 2))]) (rest := []) CF (k_m_uses l D bd kj _ μ (xs (i + 1)) (xs (i + 2)) hIM) ⟨callB_of 2 ht (gT0 mw_686) rfl rfl rfl (ht _ mw_6) (ht _ mw_683) (by decide +kernel) ⟨Nat.le_of_ble_eq_true rfl, Nat.le_of_ble_eq_true rfl⟩, (ht _ mw_684), (ht _ mw_685)⟩ (preV_N hK hP hD) rfl rfl hl.1 rfl (lv_room (Nat.le_of_ble_eq_true rfl)) dL_law_256 ⟨Nat.le_trans (by omega : cells + 2 + 0 ≤ 601024) (Nat.le_of_ble_eq_true rfl), Nat.le_trans (by omega : slots + 12 + 0 ≤ 7293034) (Nat.le_of_ble_eq_true rfl)⟩) hP hD hS (fun bv μ1 H locs hm hP hD hS => ?_)
  rw [← hm] at h0r hbr hR1
  refine lv_istore (lv' := [(6, .int bv), (5, .int r), (0, .ref b), (1, .ref (ad 0)), (2, .ref (bd 0)), (3, .ref qo), (4, .int (nI i))]) hx hb dL_law_259 hl (by decide) rfl (fun ls hl => ?_)
  refine lv_aload_n hx hb dL_law_261 rfl (lv_at hl 4 rfl) ?_
  refine kT_i (va_runV (As := []) (rest := []) CF (k_m_thrown l D bd kj _ μ1) ⟨callB_of 0 ht (gT0 mw_660) rfl rfl rfl (ht _ mw_6) (ht _ mw_657) (by decide +kernel) ⟨Nat.le_of_ble_eq_true rfl, Nat.le_of_ble_eq_true rfl⟩, (ht _ mw_658), (ht _ mw_659)⟩ (preV_N hK hP hD) rfl rfl hl.1 rfl (lv_room (Nat.le_of_ble_eq_true rfl)) dL_law_262 ⟨Nat.le_trans (by omega : cells + 2 + 0 ≤ 601024) (Nat.le_of_ble_eq_true rfl), Nat.le_trans (by omega : slots + 12 + 0 ≤ 7293034) (Nat.le_of_ble_eq_true rfl)⟩) hP hD hS (fun tv u9 H locs h9 hP hD hS => ?_)
  obtain ⟨h9, e9⟩ := h9
  rw [e9] at hP hD
  rw [show M_m_thrown μ1 = gF μ1 0 0 from rfl] at h9
  refine lv_iload hx hb dL_law_265 (lv_at hl 1 rfl) ?_
  refine lv_icmp_eq (tgt := 272) hx hb dL_law_267 (by decide) (fun c1 => ?_) (fun c1 => absurd (h9.trans h0r) c1)
  refine lv_iload hx hb dL_law_272 (lv_at hl 1 rfl) ?_
  refine lv_if_ne (tgt := 289) hx hb dL_law_274 (by decide) (fun c2 => ?_) (fun c2 => ?_)
  · skip
    refine lv_goto (tgt := 1344) hx hb dL_law_289 (by decide) ?_
    refine W.widen (k := cells + 6) (n := slots + 36) (by omega) (by omega) ?_
    exact K u.1 μ1 u.2 H locs ls hR1 hP hD hS (lv_sub hl [2, 3, 4, 5, 6] rfl)
  · have hb9 := hbr c2
    refine lv_aload_n hx hb dL_law_277 rfl (lv_at hl 5 rfl) ?_
    refine lv_iconst (v := 0) hx hb dL_law_278 (by decide) ?_
    refine va_lald (i := 0) hx hb hK hP 23 3 (out_at) rfl (vp_in_nI (n := 0) (by decide) (by decide)) dL_law_279 ?_
    refine lv_iload hx hb dL_law_280 (lv_at hl 0 rfl) ?_
    refine lv_i2l hx hb dL_law_282 rfl ?_
    have hq9 : u.2 (0 : Int32).toNatClampNeg = bv.toInt64 := hb9
    rw [hq9]
    refine W.lcmp hx hb dL_law_283 ?_
    rw [lc_eq]
    refine lv_if_eq (tgt := 289) hx hb dL_law_284 (by decide) (fun c3 => ?_) (fun c3 => absurd rfl c3)
    refine lv_goto (tgt := 1344) hx hb dL_law_289 (by decide) ?_
    refine W.widen (k := cells + 6) (n := slots + 36) (by omega) (by omega) ?_
    exact K u.1 μ1 u.2 H locs ls hR1 hP hD hS (lv_sub hl [2, 3, 4, 5, 6] rfl)
set_option maxHeartbeats 4000000 in
set_option maxRecDepth 100000 in
theorem lc_object {R : St → St → Prop} (hRB : ∀ σ μ, R σ μ → IB σ ∧ IM μ) {p : Program} {e : Env} {s : State} {m : MethodId} {below : List Frame} {meth : Method} {c : Code} (l : Launch) (hl9 : l.stackTraces = false) {b L : Nat} {xs : Nat → Int32} {Q : State → Prop} (hL : L ≤ 3072) (C0 : lw_At p s m meth c b L xs) {D : va_G} {kL : ClassId} {kk kj : Nat → ClassId} {qo : Nat} {ad bd : Nat → Nat} (hK : va_K D vwCl (tyT kj kL kk) s) (hE : EvW (LA s) s s.heap) {σ μ : St} {f : Nat → Int64} {i cells slots : Nat} {H : Heap} {locs : List Loc} {ls : Array Slot} (hR : R σ μ) (hsim : Sim R (tI (M_object σ)) ["java/lang/IllegalStateException"] σ (M_m_object μ).1.toInt64 (M_m_object μ).2) (hi : i + 6 ≤ L) (hcl : cells + 6 ≤ 601024) (hsl : slots + 36 ≤ 7293034) (hP : va_P D vwCl (wT bd kj μ qo kL f ad kk σ) H) (hD : va_D (LA s) (wT bd kj μ qo kL f ad kk σ)) (hS : va_S (LA s) s.heap H locs) (hl : lv_has ls 8 [(0, .ref b), (1, .ref (ad 0)), (2, .ref (bd 0)), (3, .ref qo), (4, .int (nI i))])
    (K : ∀ (σ1 μ1 : St) (f1 : Nat → Int64) (H : Heap) (locs : List Loc) (ls : Array Slot), R σ1 μ1 → va_P D vwCl (wT bd kj μ1 qo kL f1 ad kk σ1) H → va_D (LA s) (wT bd kj μ1 qo kL f1 ad kk σ1) → va_S (LA s) s.heap H locs → lv_has ls 8 [(0, .ref b), (1, .ref (ad 0)), (2, .ref (bd 0)), (3, .ref qo), (4, .int (nI i))] → W p l e room_1 s m #[Value.ref b] below meth c H locs (cells + 6) (slots + 36) Q (F0 m 1344 ls ([]))) : W p l e room_1 s m #[Value.ref b] below meth c H locs cells slots Q (F0 m 292 ls ([])) := by
  obtain ⟨hx, hb, hr, hml, hown, hts, hX, hbl, hlocks, hgv⟩ := C0
  have ht : ∀ w ∈ T0, w.before #[Value.ref b] s = true := fun w h => hts w (T0_lw h)
  have CF : CallFix p m c code 8 s #[Value.ref b] T0 RL := ⟨hx, hb, hml, hown, ht⟩
  have hbA : ¬ LA s b := Nat.not_le.mpr hbl
  have hIB := (hRB σ μ hR).1
  have hIM := (hRB σ μ hR).2
  refine lv_aload_n hx hb dL_law_292 rfl (lv_at hl 1 rfl) ?_
  refine lv_aload_n hx hb dL_law_293 rfl (lv_at hl 3 rfl) ?_
  refine kT_w (vx_runSX (As := [.ref (ad 0), .ref qo]) (rest := []) CF (k_w_object l hl9 D qo kL ad kk _ f σ) (csw (n := 2) ht mw_370 mw_368 mw_369 mw_0 rfl rfl (by decide +kernel) ⟨Nat.le_of_ble_eq_true rfl, Nat.le_of_ble_eq_true rfl⟩) (preS_T hK hP hD hE hS) rfl rfl hl.1 rfl (lv_room (Nat.le_of_ble_eq_true rfl)) dL_law_294 ⟨Nat.le_trans (by omega : cells + 1 ≤ 601024) (Nat.le_of_ble_eq_true rfl), Nat.le_trans (by omega : slots + 6 ≤ 7293034) (Nat.le_of_ble_eq_true rfl)⟩) hP hD hS (fun r u H locs hw hP hD hS => ?_)
  obtain ⟨h0r, hbr, hR1⟩ := simw (by decide) hsim hw
  refine lv_istore (lv' := [(5, .int r), (0, .ref b), (1, .ref (ad 0)), (2, .ref (bd 0)), (3, .ref qo), (4, .int (nI i))]) hx hb dL_law_297 hl (by decide) rfl (fun ls hl => ?_)
  refine lv_aload_n hx hb dL_law_299 rfl (lv_at hl 3 rfl) ?_
  refine kT_i (va_runV (As := []) (rest := []) CF (k_m_object l D bd kj _ μ) ⟨callB_of 0 ht (gT0 mw_701) rfl rfl rfl (ht _ mw_6) (ht _ mw_698) (by decide +kernel) ⟨Nat.le_of_ble_eq_true rfl, Nat.le_of_ble_eq_true rfl⟩, (ht _ mw_699), (ht _ mw_700)⟩ (preV_N hK hP hD) rfl rfl hl.1 rfl (lv_room (Nat.le_of_ble_eq_true rfl)) dL_law_300 ⟨Nat.le_trans (by omega : cells + 1 + 0 ≤ 601024) (Nat.le_of_ble_eq_true rfl), Nat.le_trans (by omega : slots + 6 + 0 ≤ 7293034) (Nat.le_of_ble_eq_true rfl)⟩) hP hD hS (fun bv μ1 H locs hm hP hD hS => ?_)
  rw [← hm] at h0r hbr hR1
  refine lv_istore (lv' := [(6, .int bv), (5, .int r), (0, .ref b), (1, .ref (ad 0)), (2, .ref (bd 0)), (3, .ref qo), (4, .int (nI i))]) hx hb dL_law_303 hl (by decide) rfl (fun ls hl => ?_)
  refine lv_aload_n hx hb dL_law_305 rfl (lv_at hl 4 rfl) ?_
  refine kT_i (va_runV (As := []) (rest := []) CF (k_m_thrown l D bd kj _ μ1) ⟨callB_of 0 ht (gT0 mw_660) rfl rfl rfl (ht _ mw_6) (ht _ mw_657) (by decide +kernel) ⟨Nat.le_of_ble_eq_true rfl, Nat.le_of_ble_eq_true rfl⟩, (ht _ mw_658), (ht _ mw_659)⟩ (preV_N hK hP hD) rfl rfl hl.1 rfl (lv_room (Nat.le_of_ble_eq_true rfl)) dL_law_306 ⟨Nat.le_trans (by omega : cells + 1 + 0 ≤ 601024) (Nat.le_of_ble_eq_true rfl), Nat.le_trans (by omega : slots + 6 + 0 ≤ 7293034) (Nat.le_of_ble_eq_true rfl)⟩) hP hD hS (fun tv u9 H locs h9 hP hD hS => ?_)
  obtain ⟨h9, e9⟩ := h9
  rw [e9] at hP hD
  rw [show M_m_thrown μ1 = gF μ1 0 0 from rfl] at h9
  refine lv_iload hx hb dL_law_309 (lv_at hl 1 rfl) ?_
  refine lv_icmp_eq (tgt := 316) hx hb dL_law_311 (by decide) (fun c1 => ?_) (fun c1 => absurd (h9.trans h0r) c1)
  refine lv_iload hx hb dL_law_316 (lv_at hl 1 rfl) ?_
  refine lv_if_ne (tgt := 333) hx hb dL_law_318 (by decide) (fun c2 => ?_) (fun c2 => ?_)
  · skip
    refine lv_goto (tgt := 1344) hx hb dL_law_333 (by decide) ?_
    refine W.widen (k := cells + 6) (n := slots + 36) (by omega) (by omega) ?_
    exact K u.1 μ1 u.2 H locs ls hR1 hP hD hS (lv_sub hl [2, 3, 4, 5, 6] rfl)
  · have hb9 := hbr c2
    refine lv_aload_n hx hb dL_law_321 rfl (lv_at hl 5 rfl) ?_
    refine lv_iconst (v := 0) hx hb dL_law_322 (by decide) ?_
    refine va_lald (i := 0) hx hb hK hP 23 3 (out_at) rfl (vp_in_nI (n := 0) (by decide) (by decide)) dL_law_323 ?_
    refine lv_iload hx hb dL_law_324 (lv_at hl 0 rfl) ?_
    refine lv_i2l hx hb dL_law_326 rfl ?_
    have hq9 : u.2 (0 : Int32).toNatClampNeg = bv.toInt64 := hb9
    rw [hq9]
    refine W.lcmp hx hb dL_law_327 ?_
    rw [lc_eq]
    refine lv_if_eq (tgt := 333) hx hb dL_law_328 (by decide) (fun c3 => ?_) (fun c3 => absurd rfl c3)
    refine lv_goto (tgt := 1344) hx hb dL_law_333 (by decide) ?_
    refine W.widen (k := cells + 6) (n := slots + 36) (by omega) (by omega) ?_
    exact K u.1 μ1 u.2 H locs ls hR1 hP hD hS (lv_sub hl [2, 3, 4, 5, 6] rfl)
set_option maxHeartbeats 4000000 in
set_option maxRecDepth 100000 in
theorem lc_part {R : St → St → Prop} (hRB : ∀ σ μ, R σ μ → IB σ ∧ IM μ) {p : Program} {e : Env} {s : State} {m : MethodId} {below : List Frame} {meth : Method} {c : Code} (l : Launch) (hl9 : l.stackTraces = false) {b L : Nat} {xs : Nat → Int32} {Q : State → Prop} (hL : L ≤ 3072) (C0 : lw_At p s m meth c b L xs) {D : va_G} {kL : ClassId} {kk kj : Nat → ClassId} {qo : Nat} {ad bd : Nat → Nat} (hK : va_K D vwCl (tyT kj kL kk) s) (hE : EvW (LA s) s s.heap) {σ μ : St} {f : Nat → Int64} {i cells slots : Nat} {H : Heap} {locs : List Loc} {ls : Array Slot} (hR : R σ μ) (hsim : Sim R (tI (M_part σ (xs (i + 1)) (xs (i + 2)))) ["java/lang/IndexOutOfBoundsException", "java/lang/IllegalStateException"] σ (M_m_part μ (xs (i + 1)) (xs (i + 2))).1.toInt64 (M_m_part μ (xs (i + 1)) (xs (i + 2))).2) (hi : i + 6 ≤ L) (hcl : cells + 6 ≤ 601024) (hsl : slots + 36 ≤ 7293034) (hP : va_P D vwCl (wT bd kj μ qo kL f ad kk σ) H) (hD : va_D (LA s) (wT bd kj μ qo kL f ad kk σ)) (hS : va_S (LA s) s.heap H locs) (hl : lv_has ls 8 [(0, .ref b), (1, .ref (ad 0)), (2, .ref (bd 0)), (3, .ref qo), (4, .int (nI i))])
    (K : ∀ (σ1 μ1 : St) (f1 : Nat → Int64) (H : Heap) (locs : List Loc) (ls : Array Slot), R σ1 μ1 → va_P D vwCl (wT bd kj μ1 qo kL f1 ad kk σ1) H → va_D (LA s) (wT bd kj μ1 qo kL f1 ad kk σ1) → va_S (LA s) s.heap H locs → lv_has ls 8 [(0, .ref b), (1, .ref (ad 0)), (2, .ref (bd 0)), (3, .ref qo), (4, .int (nI i))] → W p l e room_1 s m #[Value.ref b] below meth c H locs (cells + 6) (slots + 36) Q (F0 m 1344 ls ([]))) : W p l e room_1 s m #[Value.ref b] below meth c H locs cells slots Q (F0 m 336 ls ([])) := by
  obtain ⟨hx, hb, hr, hml, hown, hts, hX, hbl, hlocks, hgv⟩ := C0
  have ht : ∀ w ∈ T0, w.before #[Value.ref b] s = true := fun w h => hts w (T0_lw h)
  have CF : CallFix p m c code 8 s #[Value.ref b] T0 RL := ⟨hx, hb, hml, hown, ht⟩
  have hbA : ¬ LA s b := Nat.not_le.mpr hbl
  have hIB := (hRB σ μ hR).1
  have hIM := (hRB σ μ hR).2
  refine lv_aload_n hx hb dL_law_336 rfl (lv_at hl 1 rfl) ?_
  refine lv_aload_n hx hb dL_law_337 rfl (lv_at hl 0 rfl) ?_
  refine lv_iload hx hb dL_law_338 (lv_at hl 4 rfl) ?_
  refine lv_iconst (v := 1) hx hb dL_law_340 (by decide) ?_
  refine lv_iadd hx hb dL_law_341 ?_
  refine lv_topE (nI_add i 1) ?_
  refine va_sld hx hb hX hbl hbA hS (vp_in_nI (n := i + 1) (by omega) (by omega)) dL_law_342 ?_
  rw [nI_clamp (n := i + 1) (by omega)]
  refine lv_aload_n hx hb dL_law_343 rfl (lv_at hl 0 rfl) ?_
  refine lv_iload hx hb dL_law_344 (lv_at hl 4 rfl) ?_
  refine lv_iconst (v := 2) hx hb dL_law_346 (by decide) ?_
  refine lv_iadd hx hb dL_law_347 ?_
  refine lv_topE (nI_add i 2) ?_
  refine va_sld hx hb hX hbl hbA hS (vp_in_nI (n := i + 2) (by omega) (by omega)) dL_law_348 ?_
  rw [nI_clamp (n := i + 2) (by omega)]
  refine lv_aload_n hx hb dL_law_349 rfl (lv_at hl 3 rfl) ?_
  refine kT_w (vx_runSX (As := [.ref (ad 0), .int (xs (i + 1)), .int (xs (i + 2)), .ref qo]) (rest := []) CF (k_w_part l hl9 D qo kL ad kk _ f σ (xs (i + 1)) (xs (i + 2)) hIB) (csw (n := 4) ht mw_378 mw_376 mw_377 mw_0 rfl rfl (by decide +kernel) ⟨Nat.le_of_ble_eq_true rfl, Nat.le_of_ble_eq_true rfl⟩) (preS_T hK hP hD hE hS) rfl rfl hl.1 rfl (lv_room (Nat.le_of_ble_eq_true rfl)) dL_law_350 ⟨Nat.le_trans (by omega : cells + 3 ≤ 601024) (Nat.le_of_ble_eq_true rfl), Nat.le_trans (by omega : slots + 18 ≤ 7293034) (Nat.le_of_ble_eq_true rfl)⟩) hP hD hS (fun r u H locs hw hP hD hS => ?_)
  obtain ⟨h0r, hbr, hR1⟩ := simw (by decide) hsim hw
  refine lv_istore (lv' := [(5, .int r), (0, .ref b), (1, .ref (ad 0)), (2, .ref (bd 0)), (3, .ref qo), (4, .int (nI i))]) hx hb dL_law_353 hl (by decide) rfl (fun ls hl => ?_)
  refine lv_aload_n hx hb dL_law_355 rfl (lv_at hl 3 rfl) ?_
  refine lv_aload_n hx hb dL_law_356 rfl (lv_at hl 1 rfl) ?_
  refine lv_iload hx hb dL_law_357 (lv_at hl 5 rfl) ?_
  refine lv_iconst (v := 1) hx hb dL_law_359 (by decide) ?_
  refine lv_iadd hx hb dL_law_360 ?_
  refine lv_topE (nI_add i 1) ?_
  refine va_sld hx hb hX hbl hbA hS (vp_in_nI (n := i + 1) (by omega) (by omega)) dL_law_361 ?_
  rw [nI_clamp (n := i + 1) (by omega)]
  refine lv_aload_n hx hb dL_law_362 rfl (lv_at hl 1 rfl) ?_
  refine lv_iload hx hb dL_law_363 (lv_at hl 5 rfl) ?_
  refine lv_iconst (v := 2) hx hb dL_law_365 (by decide) ?_
  refine lv_iadd hx hb dL_law_366 ?_
  refine lv_topE (nI_add i 2) ?_
  refine va_sld hx hb hX hbl hbA hS (vp_in_nI (n := i + 2) (by omega) (by omega)) dL_law_367 ?_
  rw [nI_clamp (n := i + 2) (by omega)]
  refine kT_i (va_runV (As := [.int (xs (i + 1)), .int (xs (i + 2))]) (rest := []) CF (k_m_part l D bd kj _ μ (xs (i + 1)) (xs (i + 2)) hIM) ⟨callB_of 2 ht (gT0 mw_705) rfl rfl rfl (ht _ mw_6) (ht _ mw_702) (by decide +kernel) ⟨Nat.le_of_ble_eq_true rfl, Nat.le_of_ble_eq_true rfl⟩, (ht _ mw_703), (ht _ mw_704)⟩ (preV_N hK hP hD) rfl rfl hl.1 rfl (lv_room (Nat.le_of_ble_eq_true rfl)) dL_law_368 ⟨Nat.le_trans (by omega : cells + 3 + 0 ≤ 601024) (Nat.le_of_ble_eq_true rfl), Nat.le_trans (by omega : slots + 18 + 0 ≤ 7293034) (Nat.le_of_ble_eq_true rfl)⟩) hP hD hS (fun bv μ1 H locs hm hP hD hS => ?_)
  rw [← hm] at h0r hbr hR1
  refine lv_istore (lv' := [(6, .int bv), (5, .int r), (0, .ref b), (1, .ref (ad 0)), (2, .ref (bd 0)), (3, .ref qo), (4, .int (nI i))]) hx hb dL_law_371 hl (by decide) rfl (fun ls hl => ?_)
  refine lv_aload_n hx hb dL_law_373 rfl (lv_at hl 4 rfl) ?_
  refine kT_i (va_runV (As := []) (rest := []) CF (k_m_thrown l D bd kj _ μ1) ⟨callB_of 0 ht (gT0 mw_660) rfl rfl rfl (ht _ mw_6) (ht _ mw_657) (by decide +kernel) ⟨Nat.le_of_ble_eq_true rfl, Nat.le_of_ble_eq_true rfl⟩, (ht _ mw_658), (ht _ mw_659)⟩ (preV_N hK hP hD) rfl rfl hl.1 rfl (lv_room (Nat.le_of_ble_eq_true rfl)) dL_law_374 ⟨Nat.le_trans (by omega : cells + 3 + 0 ≤ 601024) (Nat.le_of_ble_eq_true rfl), Nat.le_trans (by omega : slots + 18 + 0 ≤ 7293034) (Nat.le_of_ble_eq_true rfl)⟩) hP hD hS (fun tv u9 H locs h9 hP hD hS => ?_)
  obtain ⟨h9, e9⟩ := h9
  rw [e9] at hP hD
  rw [show M_m_thrown μ1 = gF μ1 0 0 from rfl] at h9
  refine lv_iload hx hb dL_law_377 (lv_at hl 1 rfl) ?_
  refine lv_icmp_eq (tgt := 384) hx hb dL_law_379 (by decide) (fun c1 => ?_) (fun c1 => absurd (h9.trans h0r) c1)
  refine lv_iload hx hb dL_law_384 (lv_at hl 1 rfl) ?_
  refine lv_if_ne (tgt := 401) hx hb dL_law_386 (by decide) (fun c2 => ?_) (fun c2 => ?_)
  · skip
    refine lv_goto (tgt := 1344) hx hb dL_law_401 (by decide) ?_
    refine W.widen (k := cells + 6) (n := slots + 36) (by omega) (by omega) ?_
    exact K u.1 μ1 u.2 H locs ls hR1 hP hD hS (lv_sub hl [2, 3, 4, 5, 6] rfl)
  · have hb9 := hbr c2
    refine lv_aload_n hx hb dL_law_389 rfl (lv_at hl 5 rfl) ?_
    refine lv_iconst (v := 0) hx hb dL_law_390 (by decide) ?_
    refine va_lald (i := 0) hx hb hK hP 23 3 (out_at) rfl (vp_in_nI (n := 0) (by decide) (by decide)) dL_law_391 ?_
    refine lv_iload hx hb dL_law_392 (lv_at hl 0 rfl) ?_
    refine lv_i2l hx hb dL_law_394 rfl ?_
    have hq9 : u.2 (0 : Int32).toNatClampNeg = bv.toInt64 := hb9
    rw [hq9]
    refine W.lcmp hx hb dL_law_395 ?_
    rw [lc_eq]
    refine lv_if_eq (tgt := 401) hx hb dL_law_396 (by decide) (fun c3 => ?_) (fun c3 => absurd rfl c3)
    refine lv_goto (tgt := 1344) hx hb dL_law_401 (by decide) ?_
    refine W.widen (k := cells + 6) (n := slots + 36) (by omega) (by omega) ?_
    exact K u.1 μ1 u.2 H locs ls hR1 hP hD hS (lv_sub hl [2, 3, 4, 5, 6] rfl)
set_option maxHeartbeats 4000000 in
set_option maxRecDepth 100000 in
theorem lc_right {R : St → St → Prop} (hRB : ∀ σ μ, R σ μ → IB σ ∧ IM μ) {p : Program} {e : Env} {s : State} {m : MethodId} {below : List Frame} {meth : Method} {c : Code} (l : Launch) (hl9 : l.stackTraces = false) {b L : Nat} {xs : Nat → Int32} {Q : State → Prop} (hL : L ≤ 3072) (C0 : lw_At p s m meth c b L xs) {D : va_G} {kL : ClassId} {kk kj : Nat → ClassId} {qo : Nat} {ad bd : Nat → Nat} (hK : va_K D vwCl (tyT kj kL kk) s) (hE : EvW (LA s) s s.heap) {σ μ : St} {f : Nat → Int64} {i cells slots : Nat} {H : Heap} {locs : List Loc} {ls : Array Slot} (hR : R σ μ) (hsim : Sim R (tZ (M_right σ (xs (i + 1)) (xs (i + 2)) (if xs (i + 3) = 0 then 0 else 1))) ["java/lang/IndexOutOfBoundsException"] σ (if (M_m_right μ (xs (i + 1)) (xs (i + 2)) (if xs (i + 3) = 0 then 0 else 1)).1 = 0 then 0 else 1) (M_m_right μ (xs (i + 1)) (xs (i + 2)) (if xs (i + 3) = 0 then 0 else 1)).2) (hi : i + 6 ≤ L) (hcl : cells + 6 ≤ 601024) (hsl : slots + 36 ≤ 7293034) (hP : va_P D vwCl (wT bd kj μ qo kL f ad kk σ) H) (hD : va_D (LA s) (wT bd kj μ qo kL f ad kk σ)) (hS : va_S (LA s) s.heap H locs) (hl : lv_has ls 8 [(0, .ref b), (1, .ref (ad 0)), (2, .ref (bd 0)), (3, .ref qo), (4, .int (nI i))])
    (K : ∀ (σ1 μ1 : St) (f1 : Nat → Int64) (H : Heap) (locs : List Loc) (ls : Array Slot), R σ1 μ1 → va_P D vwCl (wT bd kj μ1 qo kL f1 ad kk σ1) H → va_D (LA s) (wT bd kj μ1 qo kL f1 ad kk σ1) → va_S (LA s) s.heap H locs → lv_has ls 8 [(0, .ref b), (1, .ref (ad 0)), (2, .ref (bd 0)), (3, .ref qo), (4, .int (nI i))] → W p l e room_1 s m #[Value.ref b] below meth c H locs (cells + 6) (slots + 36) Q (F0 m 1344 ls ([]))) : W p l e room_1 s m #[Value.ref b] below meth c H locs cells slots Q (F0 m 404 ls ([])) := by
  obtain ⟨hx, hb, hr, hml, hown, hts, hX, hbl, hlocks, hgv⟩ := C0
  have ht : ∀ w ∈ T0, w.before #[Value.ref b] s = true := fun w h => hts w (T0_lw h)
  have CF : CallFix p m c code 8 s #[Value.ref b] T0 RL := ⟨hx, hb, hml, hown, ht⟩
  have hbA : ¬ LA s b := Nat.not_le.mpr hbl
  have hIB := (hRB σ μ hR).1
  have hIM := (hRB σ μ hR).2
  refine lv_aload_n hx hb dL_law_404 rfl (lv_at hl 1 rfl) ?_
  refine lv_aload_n hx hb dL_law_405 rfl (lv_at hl 0 rfl) ?_
  refine lv_iload hx hb dL_law_406 (lv_at hl 4 rfl) ?_
  refine lv_iconst (v := 1) hx hb dL_law_408 (by decide) ?_
  refine lv_iadd hx hb dL_law_409 ?_
  refine lv_topE (nI_add i 1) ?_
  refine va_sld hx hb hX hbl hbA hS (vp_in_nI (n := i + 1) (by omega) (by omega)) dL_law_410 ?_
  rw [nI_clamp (n := i + 1) (by omega)]
  refine lv_aload_n hx hb dL_law_411 rfl (lv_at hl 0 rfl) ?_
  refine lv_iload hx hb dL_law_412 (lv_at hl 4 rfl) ?_
  refine lv_iconst (v := 2) hx hb dL_law_414 (by decide) ?_
  refine lv_iadd hx hb dL_law_415 ?_
  refine lv_topE (nI_add i 2) ?_
  refine va_sld hx hb hX hbl hbA hS (vp_in_nI (n := i + 2) (by omega) (by omega)) dL_law_416 ?_
  rw [nI_clamp (n := i + 2) (by omega)]
  refine lv_aload_n hx hb dL_law_417 rfl (lv_at hl 0 rfl) ?_
  refine lv_iload hx hb dL_law_418 (lv_at hl 4 rfl) ?_
  refine lv_iconst (v := 3) hx hb dL_law_420 (by decide) ?_
  refine lv_iadd hx hb dL_law_421 ?_
  refine lv_topE (nI_add i 3) ?_
  refine va_sld hx hb hX hbl hbA hS (vp_in_nI (n := i + 3) (by omega) (by omega)) dL_law_422 ?_
  rw [nI_clamp (n := i + 3) (by omega)]
  refine jn (α := Int32) (E := (if (xs (i + 3)) = 0 then 0 else 1)) (Kp := fun y => W p l e room_1 s m #[Value.ref b] below meth c H locs cells slots Q (F0 m 431 ls (.int y :: .int (xs (i + 2)) :: .int (xs (i + 1)) :: .ref (ad 0) :: []))) (fun V hV K0 => ?_) (fun y423 h_y423 => ?_)
  · refine lv_if_eq (tgt := 430) hx hb dL_law_423 (by decide) (fun c0 => ?_) (fun c0 => ?_)
    · rw [if_pos c0] at hV
      refine lv_iconst (v := 0) hx hb dL_law_430 (by decide) ?_
      exact K0 0 hV
    · rw [if_neg c0] at hV
      refine lv_iconst (v := 1) hx hb dL_law_426 (by decide) ?_
      refine lv_goto (tgt := 431) hx hb dL_law_427 (by decide) ?_
      exact K0 1 hV
  rw [h_y423]
  refine lv_aload_n hx hb dL_law_431 rfl (lv_at hl 3 rfl) ?_
  refine kT_w (vx_runSX (As := [.ref (ad 0), .int (xs (i + 1)), .int (xs (i + 2)), .int (if (xs (i + 3)) = 0 then 0 else 1), .ref qo]) (rest := []) CF (k_w_right l hl9 D qo kL ad kk _ f σ (xs (i + 1)) (xs (i + 2)) (if xs (i + 3) = 0 then 0 else 1) hIB) (csw (n := 5) ht mw_395 mw_393 mw_394 mw_0 rfl rfl (by decide +kernel) ⟨Nat.le_of_ble_eq_true rfl, Nat.le_of_ble_eq_true rfl⟩) (preS_T hK hP hD hE hS) rfl rfl hl.1 rfl (lv_room (Nat.le_of_ble_eq_true rfl)) dL_law_432 ⟨Nat.le_trans (by omega : cells + 2 ≤ 601024) (Nat.le_of_ble_eq_true rfl), Nat.le_trans (by omega : slots + 12 ≤ 7293034) (Nat.le_of_ble_eq_true rfl)⟩) hP hD hS (fun r u H locs hw hP hD hS => ?_)
  obtain ⟨h0r, hbr, hR1⟩ := simw (by decide) hsim hw
  refine lv_istore (lv' := [(5, .int r), (0, .ref b), (1, .ref (ad 0)), (2, .ref (bd 0)), (3, .ref qo), (4, .int (nI i))]) hx hb dL_law_435 hl (by decide) rfl (fun ls hl => ?_)
  refine lv_aload_n hx hb dL_law_437 rfl (lv_at hl 3 rfl) ?_
  refine lv_aload_n hx hb dL_law_438 rfl (lv_at hl 1 rfl) ?_
  refine lv_iload hx hb dL_law_439 (lv_at hl 5 rfl) ?_
  refine lv_iconst (v := 1) hx hb dL_law_441 (by decide) ?_
  refine lv_iadd hx hb dL_law_442 ?_
  refine lv_topE (nI_add i 1) ?_
  refine va_sld hx hb hX hbl hbA hS (vp_in_nI (n := i + 1) (by omega) (by omega)) dL_law_443 ?_
  rw [nI_clamp (n := i + 1) (by omega)]
  refine lv_aload_n hx hb dL_law_444 rfl (lv_at hl 1 rfl) ?_
  refine lv_iload hx hb dL_law_445 (lv_at hl 5 rfl) ?_
  refine lv_iconst (v := 2) hx hb dL_law_447 (by decide) ?_
  refine lv_iadd hx hb dL_law_448 ?_
  refine lv_topE (nI_add i 2) ?_
  refine va_sld hx hb hX hbl hbA hS (vp_in_nI (n := i + 2) (by omega) (by omega)) dL_law_449 ?_
  rw [nI_clamp (n := i + 2) (by omega)]
  refine lv_aload_n hx hb dL_law_450 rfl (lv_at hl 1 rfl) ?_
  refine lv_iload hx hb dL_law_451 (lv_at hl 5 rfl) ?_
  refine lv_iconst (v := 3) hx hb dL_law_453 (by decide) ?_
  refine lv_iadd hx hb dL_law_454 ?_
  refine lv_topE (nI_add i 3) ?_
  refine va_sld hx hb hX hbl hbA hS (vp_in_nI (n := i + 3) (by omega) (by omega)) dL_law_455 ?_
  rw [nI_clamp (n := i + 3) (by omega)]
  refine jn (α := Int32) (E := (if (xs (i + 3)) = 0 then 0 else 1)) (Kp := fun y => W p l e room_1 s m #[Value.ref b] below meth c H locs (cells + 2) (slots + 12) Q (F0 m 464 ls (.int y :: .int (xs (i + 2)) :: .int (xs (i + 1)) :: .ref (bd 0) :: []))) (fun V hV K0 => ?_) (fun y456 h_y456 => ?_)
  · refine lv_if_eq (tgt := 463) hx hb dL_law_456 (by decide) (fun c0 => ?_) (fun c0 => ?_)
    · rw [if_pos c0] at hV
      refine lv_iconst (v := 0) hx hb dL_law_463 (by decide) ?_
      exact K0 0 hV
    · rw [if_neg c0] at hV
      refine lv_iconst (v := 1) hx hb dL_law_459 (by decide) ?_
      refine lv_goto (tgt := 464) hx hb dL_law_460 (by decide) ?_
      exact K0 1 hV
  rw [h_y456]
  refine kT_i (va_runV (As := [.int (xs (i + 1)), .int (xs (i + 2)), .int (if (xs (i + 3)) = 0 then 0 else 1)]) (rest := []) CF (k_m_right l D bd kj _ μ (xs (i + 1)) (xs (i + 2)) (if xs (i + 3) = 0 then 0 else 1) hIM (by split; exact Or.inl rfl; exact Or.inr rfl)) ⟨callB_of 3 ht (gT0 mw_713) rfl rfl rfl (ht _ mw_6) (ht _ mw_710) (by decide +kernel) ⟨Nat.le_of_ble_eq_true rfl, Nat.le_of_ble_eq_true rfl⟩, (ht _ mw_711), (ht _ mw_712)⟩ (preV_N hK hP hD) rfl rfl hl.1 rfl (lv_room (Nat.le_of_ble_eq_true rfl)) dL_law_464 ⟨Nat.le_trans (by omega : cells + 2 + 0 ≤ 601024) (Nat.le_of_ble_eq_true rfl), Nat.le_trans (by omega : slots + 12 + 0 ≤ 7293034) (Nat.le_of_ble_eq_true rfl)⟩) hP hD hS (fun bv μ1 H locs hm hP hD hS => ?_)
  rw [← hm] at h0r hbr hR1
  refine lv_istore (lv' := [(6, .int bv), (5, .int r), (0, .ref b), (1, .ref (ad 0)), (2, .ref (bd 0)), (3, .ref qo), (4, .int (nI i))]) hx hb dL_law_467 hl (by decide) rfl (fun ls hl => ?_)
  refine lv_aload_n hx hb dL_law_469 rfl (lv_at hl 4 rfl) ?_
  refine kT_i (va_runV (As := []) (rest := []) CF (k_m_thrown l D bd kj _ μ1) ⟨callB_of 0 ht (gT0 mw_660) rfl rfl rfl (ht _ mw_6) (ht _ mw_657) (by decide +kernel) ⟨Nat.le_of_ble_eq_true rfl, Nat.le_of_ble_eq_true rfl⟩, (ht _ mw_658), (ht _ mw_659)⟩ (preV_N hK hP hD) rfl rfl hl.1 rfl (lv_room (Nat.le_of_ble_eq_true rfl)) dL_law_470 ⟨Nat.le_trans (by omega : cells + 2 + 0 ≤ 601024) (Nat.le_of_ble_eq_true rfl), Nat.le_trans (by omega : slots + 12 + 0 ≤ 7293034) (Nat.le_of_ble_eq_true rfl)⟩) hP hD hS (fun tv u9 H locs h9 hP hD hS => ?_)
  obtain ⟨h9, e9⟩ := h9
  rw [e9] at hP hD
  rw [show M_m_thrown μ1 = gF μ1 0 0 from rfl] at h9
  refine lv_iload hx hb dL_law_473 (lv_at hl 1 rfl) ?_
  refine lv_icmp_eq (tgt := 480) hx hb dL_law_475 (by decide) (fun c1 => ?_) (fun c1 => absurd (h9.trans h0r) c1)
  refine lv_iload hx hb dL_law_480 (lv_at hl 1 rfl) ?_
  refine lv_if_ne (tgt := 504) hx hb dL_law_482 (by decide) (fun c2 => ?_) (fun c2 => ?_)
  · skip
    refine lv_goto (tgt := 1344) hx hb dL_law_504 (by decide) ?_
    refine W.widen (k := cells + 6) (n := slots + 36) (by omega) (by omega) ?_
    exact K u.1 μ1 u.2 H locs ls hR1 hP hD hS (lv_sub hl [2, 3, 4, 5, 6] rfl)
  · have hb9 := hbr c2
    refine lv_aload_n hx hb dL_law_485 rfl (lv_at hl 5 rfl) ?_
    refine lv_iconst (v := 0) hx hb dL_law_486 (by decide) ?_
    refine va_lald (i := 0) hx hb hK hP 23 3 (out_at) rfl (vp_in_nI (n := 0) (by decide) (by decide)) dL_law_487 ?_
    refine lv_iload hx hb dL_law_488 (lv_at hl 0 rfl) ?_
    refine lv_if_eq (tgt := 497) hx hb dL_law_490 (by decide) (fun c4 => ?_) (fun c4 => ?_)
    · refine lv_lconst (v := 0) hx hb dL_law_497 (by decide) ?_
      have hq9 : u.2 (0 : Int32).toNatClampNeg = 0 := (hb9.trans (if_pos c4))
      rw [hq9]
      refine W.lcmp hx hb dL_law_498 ?_
      rw [lc_eq]
      refine lv_if_eq (tgt := 504) hx hb dL_law_499 (by decide) (fun c3 => ?_) (fun c3 => absurd rfl c3)
      refine lv_goto (tgt := 1344) hx hb dL_law_504 (by decide) ?_
      refine W.widen (k := cells + 6) (n := slots + 36) (by omega) (by omega) ?_
      exact K u.1 μ1 u.2 H locs ls hR1 hP hD hS (lv_sub hl [2, 3, 4, 5, 6] rfl)
    · refine lv_lconst (v := 1) hx hb dL_law_493 (by decide) ?_
      refine lv_goto (tgt := 498) hx hb dL_law_494 (by decide) ?_
      have hq9 : u.2 (0 : Int32).toNatClampNeg = 1 := (hb9.trans (if_neg c4))
      rw [hq9]
      refine W.lcmp hx hb dL_law_498 ?_
      rw [lc_eq]
      refine lv_if_eq (tgt := 504) hx hb dL_law_499 (by decide) (fun c3 => ?_) (fun c3 => absurd rfl c3)
      refine lv_goto (tgt := 1344) hx hb dL_law_504 (by decide) ?_
      refine W.widen (k := cells + 6) (n := slots + 36) (by omega) (by omega) ?_
      exact K u.1 μ1 u.2 H locs ls hR1 hP hD hS (lv_sub hl [2, 3, 4, 5, 6] rfl)
set_option maxHeartbeats 4000000 in
set_option maxRecDepth 100000 in
theorem lc_trial {R : St → St → Prop} (hRB : ∀ σ μ, R σ μ → IB σ ∧ IM μ) {p : Program} {e : Env} {s : State} {m : MethodId} {below : List Frame} {meth : Method} {c : Code} (l : Launch) (hl9 : l.stackTraces = false) {b L : Nat} {xs : Nat → Int32} {Q : State → Prop} (hL : L ≤ 3072) (C0 : lw_At p s m meth c b L xs) {D : va_G} {kL : ClassId} {kk kj : Nat → ClassId} {qo : Nat} {ad bd : Nat → Nat} (hK : va_K D vwCl (tyT kj kL kk) s) (hE : EvW (LA s) s s.heap) {σ μ : St} {f : Nat → Int64} {i cells slots : Nat} {H : Heap} {locs : List Loc} {ls : Array Slot} (hR : R σ μ) (hsim : Sim R (tZ (M_trial σ (xs (i + 1)) (xs (i + 2)) (if xs (i + 3) = 0 then 0 else 1))) ["java/lang/IndexOutOfBoundsException"] σ (if (M_m_trial μ (xs (i + 1)) (xs (i + 2)) (if xs (i + 3) = 0 then 0 else 1)).1 = 0 then 0 else 1) (M_m_trial μ (xs (i + 1)) (xs (i + 2)) (if xs (i + 3) = 0 then 0 else 1)).2) (hi : i + 6 ≤ L) (hcl : cells + 6 ≤ 601024) (hsl : slots + 36 ≤ 7293034) (hP : va_P D vwCl (wT bd kj μ qo kL f ad kk σ) H) (hD : va_D (LA s) (wT bd kj μ qo kL f ad kk σ)) (hS : va_S (LA s) s.heap H locs) (hl : lv_has ls 8 [(0, .ref b), (1, .ref (ad 0)), (2, .ref (bd 0)), (3, .ref qo), (4, .int (nI i))])
    (K : ∀ (σ1 μ1 : St) (f1 : Nat → Int64) (H : Heap) (locs : List Loc) (ls : Array Slot), R σ1 μ1 → va_P D vwCl (wT bd kj μ1 qo kL f1 ad kk σ1) H → va_D (LA s) (wT bd kj μ1 qo kL f1 ad kk σ1) → va_S (LA s) s.heap H locs → lv_has ls 8 [(0, .ref b), (1, .ref (ad 0)), (2, .ref (bd 0)), (3, .ref qo), (4, .int (nI i))] → W p l e room_1 s m #[Value.ref b] below meth c H locs (cells + 6) (slots + 36) Q (F0 m 1344 ls ([]))) : W p l e room_1 s m #[Value.ref b] below meth c H locs cells slots Q (F0 m 507 ls ([])) := by
  obtain ⟨hx, hb, hr, hml, hown, hts, hX, hbl, hlocks, hgv⟩ := C0
  have ht : ∀ w ∈ T0, w.before #[Value.ref b] s = true := fun w h => hts w (T0_lw h)
  have CF : CallFix p m c code 8 s #[Value.ref b] T0 RL := ⟨hx, hb, hml, hown, ht⟩
  have hbA : ¬ LA s b := Nat.not_le.mpr hbl
  have hIB := (hRB σ μ hR).1
  have hIM := (hRB σ μ hR).2
  refine lv_aload_n hx hb dL_law_507 rfl (lv_at hl 1 rfl) ?_
  refine lv_aload_n hx hb dL_law_508 rfl (lv_at hl 0 rfl) ?_
  refine lv_iload hx hb dL_law_509 (lv_at hl 4 rfl) ?_
  refine lv_iconst (v := 1) hx hb dL_law_511 (by decide) ?_
  refine lv_iadd hx hb dL_law_512 ?_
  refine lv_topE (nI_add i 1) ?_
  refine va_sld hx hb hX hbl hbA hS (vp_in_nI (n := i + 1) (by omega) (by omega)) dL_law_513 ?_
  rw [nI_clamp (n := i + 1) (by omega)]
  refine lv_aload_n hx hb dL_law_514 rfl (lv_at hl 0 rfl) ?_
  refine lv_iload hx hb dL_law_515 (lv_at hl 4 rfl) ?_
  refine lv_iconst (v := 2) hx hb dL_law_517 (by decide) ?_
  refine lv_iadd hx hb dL_law_518 ?_
  refine lv_topE (nI_add i 2) ?_
  refine va_sld hx hb hX hbl hbA hS (vp_in_nI (n := i + 2) (by omega) (by omega)) dL_law_519 ?_
  rw [nI_clamp (n := i + 2) (by omega)]
  refine lv_aload_n hx hb dL_law_520 rfl (lv_at hl 0 rfl) ?_
  refine lv_iload hx hb dL_law_521 (lv_at hl 4 rfl) ?_
  refine lv_iconst (v := 3) hx hb dL_law_523 (by decide) ?_
  refine lv_iadd hx hb dL_law_524 ?_
  refine lv_topE (nI_add i 3) ?_
  refine va_sld hx hb hX hbl hbA hS (vp_in_nI (n := i + 3) (by omega) (by omega)) dL_law_525 ?_
  rw [nI_clamp (n := i + 3) (by omega)]
  refine jn (α := Int32) (E := (if (xs (i + 3)) = 0 then 0 else 1)) (Kp := fun y => W p l e room_1 s m #[Value.ref b] below meth c H locs cells slots Q (F0 m 534 ls (.int y :: .int (xs (i + 2)) :: .int (xs (i + 1)) :: .ref (ad 0) :: []))) (fun V hV K0 => ?_) (fun y526 h_y526 => ?_)
  · refine lv_if_eq (tgt := 533) hx hb dL_law_526 (by decide) (fun c0 => ?_) (fun c0 => ?_)
    · rw [if_pos c0] at hV
      refine lv_iconst (v := 0) hx hb dL_law_533 (by decide) ?_
      exact K0 0 hV
    · rw [if_neg c0] at hV
      refine lv_iconst (v := 1) hx hb dL_law_529 (by decide) ?_
      refine lv_goto (tgt := 534) hx hb dL_law_530 (by decide) ?_
      exact K0 1 hV
  rw [h_y526]
  refine lv_aload_n hx hb dL_law_534 rfl (lv_at hl 3 rfl) ?_
  refine kT_w (vx_runSX (As := [.ref (ad 0), .int (xs (i + 1)), .int (xs (i + 2)), .int (if (xs (i + 3)) = 0 then 0 else 1), .ref qo]) (rest := []) CF (k_w_trial l hl9 D qo kL ad kk _ f σ (xs (i + 1)) (xs (i + 2)) (if xs (i + 3) = 0 then 0 else 1) hIB) (csw (n := 5) ht mw_406 mw_404 mw_405 mw_0 rfl rfl (by decide +kernel) ⟨Nat.le_of_ble_eq_true rfl, Nat.le_of_ble_eq_true rfl⟩) (preS_T hK hP hD hE hS) rfl rfl hl.1 rfl (lv_room (Nat.le_of_ble_eq_true rfl)) dL_law_535 ⟨Nat.le_trans (by omega : cells + 2 ≤ 601024) (Nat.le_of_ble_eq_true rfl), Nat.le_trans (by omega : slots + 12 ≤ 7293034) (Nat.le_of_ble_eq_true rfl)⟩) hP hD hS (fun r u H locs hw hP hD hS => ?_)
  obtain ⟨h0r, hbr, hR1⟩ := simw (by decide) hsim hw
  refine lv_istore (lv' := [(5, .int r), (0, .ref b), (1, .ref (ad 0)), (2, .ref (bd 0)), (3, .ref qo), (4, .int (nI i))]) hx hb dL_law_538 hl (by decide) rfl (fun ls hl => ?_)
  refine lv_aload_n hx hb dL_law_540 rfl (lv_at hl 3 rfl) ?_
  refine lv_aload_n hx hb dL_law_541 rfl (lv_at hl 1 rfl) ?_
  refine lv_iload hx hb dL_law_542 (lv_at hl 5 rfl) ?_
  refine lv_iconst (v := 1) hx hb dL_law_544 (by decide) ?_
  refine lv_iadd hx hb dL_law_545 ?_
  refine lv_topE (nI_add i 1) ?_
  refine va_sld hx hb hX hbl hbA hS (vp_in_nI (n := i + 1) (by omega) (by omega)) dL_law_546 ?_
  rw [nI_clamp (n := i + 1) (by omega)]
  refine lv_aload_n hx hb dL_law_547 rfl (lv_at hl 1 rfl) ?_
  refine lv_iload hx hb dL_law_548 (lv_at hl 5 rfl) ?_
  refine lv_iconst (v := 2) hx hb dL_law_550 (by decide) ?_
  refine lv_iadd hx hb dL_law_551 ?_
  refine lv_topE (nI_add i 2) ?_
  refine va_sld hx hb hX hbl hbA hS (vp_in_nI (n := i + 2) (by omega) (by omega)) dL_law_552 ?_
  rw [nI_clamp (n := i + 2) (by omega)]
  refine lv_aload_n hx hb dL_law_553 rfl (lv_at hl 1 rfl) ?_
  refine lv_iload hx hb dL_law_554 (lv_at hl 5 rfl) ?_
  refine lv_iconst (v := 3) hx hb dL_law_556 (by decide) ?_
  refine lv_iadd hx hb dL_law_557 ?_
  refine lv_topE (nI_add i 3) ?_
  refine va_sld hx hb hX hbl hbA hS (vp_in_nI (n := i + 3) (by omega) (by omega)) dL_law_558 ?_
  rw [nI_clamp (n := i + 3) (by omega)]
  refine jn (α := Int32) (E := (if (xs (i + 3)) = 0 then 0 else 1)) (Kp := fun y => W p l e room_1 s m #[Value.ref b] below meth c H locs (cells + 2) (slots + 12) Q (F0 m 567 ls (.int y :: .int (xs (i + 2)) :: .int (xs (i + 1)) :: .ref (bd 0) :: []))) (fun V hV K0 => ?_) (fun y559 h_y559 => ?_)
  · refine lv_if_eq (tgt := 566) hx hb dL_law_559 (by decide) (fun c0 => ?_) (fun c0 => ?_)
    · rw [if_pos c0] at hV
      refine lv_iconst (v := 0) hx hb dL_law_566 (by decide) ?_
      exact K0 0 hV
    · rw [if_neg c0] at hV
      refine lv_iconst (v := 1) hx hb dL_law_562 (by decide) ?_
      refine lv_goto (tgt := 567) hx hb dL_law_563 (by decide) ?_
      exact K0 1 hV
  rw [h_y559]
  refine kT_i (va_runV (As := [.int (xs (i + 1)), .int (xs (i + 2)), .int (if (xs (i + 3)) = 0 then 0 else 1)]) (rest := []) CF (k_m_trial l D bd kj _ μ (xs (i + 1)) (xs (i + 2)) (if xs (i + 3) = 0 then 0 else 1) hIM (by split; exact Or.inl rfl; exact Or.inr rfl)) ⟨callB_of 3 ht (gT0 mw_717) rfl rfl rfl (ht _ mw_6) (ht _ mw_714) (by decide +kernel) ⟨Nat.le_of_ble_eq_true rfl, Nat.le_of_ble_eq_true rfl⟩, (ht _ mw_715), (ht _ mw_716)⟩ (preV_N hK hP hD) rfl rfl hl.1 rfl (lv_room (Nat.le_of_ble_eq_true rfl)) dL_law_567 ⟨Nat.le_trans (by omega : cells + 2 + 0 ≤ 601024) (Nat.le_of_ble_eq_true rfl), Nat.le_trans (by omega : slots + 12 + 0 ≤ 7293034) (Nat.le_of_ble_eq_true rfl)⟩) hP hD hS (fun bv μ1 H locs hm hP hD hS => ?_)
  rw [← hm] at h0r hbr hR1
  refine lv_istore (lv' := [(6, .int bv), (5, .int r), (0, .ref b), (1, .ref (ad 0)), (2, .ref (bd 0)), (3, .ref qo), (4, .int (nI i))]) hx hb dL_law_570 hl (by decide) rfl (fun ls hl => ?_)
  refine lv_aload_n hx hb dL_law_572 rfl (lv_at hl 4 rfl) ?_
  refine kT_i (va_runV (As := []) (rest := []) CF (k_m_thrown l D bd kj _ μ1) ⟨callB_of 0 ht (gT0 mw_660) rfl rfl rfl (ht _ mw_6) (ht _ mw_657) (by decide +kernel) ⟨Nat.le_of_ble_eq_true rfl, Nat.le_of_ble_eq_true rfl⟩, (ht _ mw_658), (ht _ mw_659)⟩ (preV_N hK hP hD) rfl rfl hl.1 rfl (lv_room (Nat.le_of_ble_eq_true rfl)) dL_law_573 ⟨Nat.le_trans (by omega : cells + 2 + 0 ≤ 601024) (Nat.le_of_ble_eq_true rfl), Nat.le_trans (by omega : slots + 12 + 0 ≤ 7293034) (Nat.le_of_ble_eq_true rfl)⟩) hP hD hS (fun tv u9 H locs h9 hP hD hS => ?_)
  obtain ⟨h9, e9⟩ := h9
  rw [e9] at hP hD
  rw [show M_m_thrown μ1 = gF μ1 0 0 from rfl] at h9
  refine lv_iload hx hb dL_law_576 (lv_at hl 1 rfl) ?_
  refine lv_icmp_eq (tgt := 583) hx hb dL_law_578 (by decide) (fun c1 => ?_) (fun c1 => absurd (h9.trans h0r) c1)
  refine lv_iload hx hb dL_law_583 (lv_at hl 1 rfl) ?_
  refine lv_if_ne (tgt := 607) hx hb dL_law_585 (by decide) (fun c2 => ?_) (fun c2 => ?_)
  · skip
    refine lv_goto (tgt := 1344) hx hb dL_law_607 (by decide) ?_
    refine W.widen (k := cells + 6) (n := slots + 36) (by omega) (by omega) ?_
    exact K u.1 μ1 u.2 H locs ls hR1 hP hD hS (lv_sub hl [2, 3, 4, 5, 6] rfl)
  · have hb9 := hbr c2
    refine lv_aload_n hx hb dL_law_588 rfl (lv_at hl 5 rfl) ?_
    refine lv_iconst (v := 0) hx hb dL_law_589 (by decide) ?_
    refine va_lald (i := 0) hx hb hK hP 23 3 (out_at) rfl (vp_in_nI (n := 0) (by decide) (by decide)) dL_law_590 ?_
    refine lv_iload hx hb dL_law_591 (lv_at hl 0 rfl) ?_
    refine lv_if_eq (tgt := 600) hx hb dL_law_593 (by decide) (fun c4 => ?_) (fun c4 => ?_)
    · refine lv_lconst (v := 0) hx hb dL_law_600 (by decide) ?_
      have hq9 : u.2 (0 : Int32).toNatClampNeg = 0 := (hb9.trans (if_pos c4))
      rw [hq9]
      refine W.lcmp hx hb dL_law_601 ?_
      rw [lc_eq]
      refine lv_if_eq (tgt := 607) hx hb dL_law_602 (by decide) (fun c3 => ?_) (fun c3 => absurd rfl c3)
      refine lv_goto (tgt := 1344) hx hb dL_law_607 (by decide) ?_
      refine W.widen (k := cells + 6) (n := slots + 36) (by omega) (by omega) ?_
      exact K u.1 μ1 u.2 H locs ls hR1 hP hD hS (lv_sub hl [2, 3, 4, 5, 6] rfl)
    · refine lv_lconst (v := 1) hx hb dL_law_596 (by decide) ?_
      refine lv_goto (tgt := 601) hx hb dL_law_597 (by decide) ?_
      have hq9 : u.2 (0 : Int32).toNatClampNeg = 1 := (hb9.trans (if_neg c4))
      rw [hq9]
      refine W.lcmp hx hb dL_law_601 ?_
      rw [lc_eq]
      refine lv_if_eq (tgt := 607) hx hb dL_law_602 (by decide) (fun c3 => ?_) (fun c3 => absurd rfl c3)
      refine lv_goto (tgt := 1344) hx hb dL_law_607 (by decide) ?_
      refine W.widen (k := cells + 6) (n := slots + 36) (by omega) (by omega) ?_
      exact K u.1 μ1 u.2 H locs ls hR1 hP hD hS (lv_sub hl [2, 3, 4, 5, 6] rfl)
set_option maxHeartbeats 4000000 in
set_option maxRecDepth 100000 in
theorem lc_reason {R : St → St → Prop} (hRB : ∀ σ μ, R σ μ → IB σ ∧ IM μ) {p : Program} {e : Env} {s : State} {m : MethodId} {below : List Frame} {meth : Method} {c : Code} (l : Launch) (hl9 : l.stackTraces = false) {b L : Nat} {xs : Nat → Int32} {Q : State → Prop} (hL : L ≤ 3072) (C0 : lw_At p s m meth c b L xs) {D : va_G} {kL : ClassId} {kk kj : Nat → ClassId} {qo : Nat} {ad bd : Nat → Nat} (hK : va_K D vwCl (tyT kj kL kk) s) (hE : EvW (LA s) s s.heap) {σ μ : St} {f : Nat → Int64} {i cells slots : Nat} {H : Heap} {locs : List Loc} {ls : Array Slot} (hR : R σ μ) (hsim : Sim R (tR σ (M_reason σ (xs (i + 1)) (xs (i + 2)) (xs (i + 3)) (xs (i + 4)))) ["java/lang/IndexOutOfBoundsException", "java/lang/IllegalArgumentException"] σ (M_m_reason μ (xs (i + 1)) (xs (i + 2)) (xs (i + 3)) (xs (i + 4))).1.toInt64 (M_m_reason μ (xs (i + 1)) (xs (i + 2)) (xs (i + 3)) (xs (i + 4))).2) (hi : i + 6 ≤ L) (hcl : cells + 6 ≤ 601024) (hsl : slots + 36 ≤ 7293034) (hP : va_P D vwCl (wT bd kj μ qo kL f ad kk σ) H) (hD : va_D (LA s) (wT bd kj μ qo kL f ad kk σ)) (hS : va_S (LA s) s.heap H locs) (hl : lv_has ls 8 [(0, .ref b), (1, .ref (ad 0)), (2, .ref (bd 0)), (3, .ref qo), (4, .int (nI i))])
    (K : ∀ (σ1 μ1 : St) (f1 : Nat → Int64) (H : Heap) (locs : List Loc) (ls : Array Slot), R σ1 μ1 → va_P D vwCl (wT bd kj μ1 qo kL f1 ad kk σ1) H → va_D (LA s) (wT bd kj μ1 qo kL f1 ad kk σ1) → va_S (LA s) s.heap H locs → lv_has ls 8 [(0, .ref b), (1, .ref (ad 0)), (2, .ref (bd 0)), (3, .ref qo), (4, .int (nI i))] → W p l e room_1 s m #[Value.ref b] below meth c H locs (cells + 6) (slots + 36) Q (F0 m 1344 ls ([]))) : W p l e room_1 s m #[Value.ref b] below meth c H locs cells slots Q (F0 m 610 ls ([])) := by
  obtain ⟨hx, hb, hr, hml, hown, hts, hX, hbl, hlocks, hgv⟩ := C0
  have ht : ∀ w ∈ T0, w.before #[Value.ref b] s = true := fun w h => hts w (T0_lw h)
  have CF : CallFix p m c code 8 s #[Value.ref b] T0 RL := ⟨hx, hb, hml, hown, ht⟩
  have hbA : ¬ LA s b := Nat.not_le.mpr hbl
  have hIB := (hRB σ μ hR).1
  have hIM := (hRB σ μ hR).2
  refine lv_aload_n hx hb dL_law_610 rfl (lv_at hl 1 rfl) ?_
  refine lv_aload_n hx hb dL_law_611 rfl (lv_at hl 0 rfl) ?_
  refine lv_iload hx hb dL_law_612 (lv_at hl 4 rfl) ?_
  refine lv_iconst (v := 1) hx hb dL_law_614 (by decide) ?_
  refine lv_iadd hx hb dL_law_615 ?_
  refine lv_topE (nI_add i 1) ?_
  refine va_sld hx hb hX hbl hbA hS (vp_in_nI (n := i + 1) (by omega) (by omega)) dL_law_616 ?_
  rw [nI_clamp (n := i + 1) (by omega)]
  refine lv_aload_n hx hb dL_law_617 rfl (lv_at hl 0 rfl) ?_
  refine lv_iload hx hb dL_law_618 (lv_at hl 4 rfl) ?_
  refine lv_iconst (v := 2) hx hb dL_law_620 (by decide) ?_
  refine lv_iadd hx hb dL_law_621 ?_
  refine lv_topE (nI_add i 2) ?_
  refine va_sld hx hb hX hbl hbA hS (vp_in_nI (n := i + 2) (by omega) (by omega)) dL_law_622 ?_
  rw [nI_clamp (n := i + 2) (by omega)]
  refine lv_aload_n hx hb dL_law_623 rfl (lv_at hl 0 rfl) ?_
  refine lv_iload hx hb dL_law_624 (lv_at hl 4 rfl) ?_
  refine lv_iconst (v := 3) hx hb dL_law_626 (by decide) ?_
  refine lv_iadd hx hb dL_law_627 ?_
  refine lv_topE (nI_add i 3) ?_
  refine va_sld hx hb hX hbl hbA hS (vp_in_nI (n := i + 3) (by omega) (by omega)) dL_law_628 ?_
  rw [nI_clamp (n := i + 3) (by omega)]
  refine lv_aload_n hx hb dL_law_629 rfl (lv_at hl 0 rfl) ?_
  refine lv_iload hx hb dL_law_630 (lv_at hl 4 rfl) ?_
  refine lv_iconst (v := 4) hx hb dL_law_632 (by decide) ?_
  refine lv_iadd hx hb dL_law_633 ?_
  refine lv_topE (nI_add i 4) ?_
  refine va_sld hx hb hX hbl hbA hS (vp_in_nI (n := i + 4) (by omega) (by omega)) dL_law_634 ?_
  rw [nI_clamp (n := i + 4) (by omega)]
  refine lv_aload_n hx hb dL_law_635 rfl (lv_at hl 3 rfl) ?_
  refine kT_w (vx_runSX (As := [.ref (ad 0), .int (xs (i + 1)), .int (xs (i + 2)), .int (xs (i + 3)), .int (xs (i + 4)), .ref qo]) (rest := []) CF (k_w_reason l hl9 D qo kL ad kk _ f σ (xs (i + 1)) (xs (i + 2)) (xs (i + 3)) (xs (i + 4)) hIB) (csw (n := 6) ht mw_413 mw_411 mw_412 mw_0 rfl rfl (by decide +kernel) ⟨Nat.le_of_ble_eq_true rfl, Nat.le_of_ble_eq_true rfl⟩) (preS_T hK hP hD hE hS) rfl rfl hl.1 rfl (lv_room (Nat.le_of_ble_eq_true rfl)) dL_law_636 ⟨Nat.le_trans (by omega : cells + 4 ≤ 601024) (Nat.le_of_ble_eq_true rfl), Nat.le_trans (by omega : slots + 24 ≤ 7293034) (Nat.le_of_ble_eq_true rfl)⟩) hP hD hS (fun r u H locs hw hP hD hS => ?_)
  obtain ⟨h0r, hbr, hR1⟩ := simw (by decide) hsim hw
  refine lv_istore (lv' := [(5, .int r), (0, .ref b), (1, .ref (ad 0)), (2, .ref (bd 0)), (3, .ref qo), (4, .int (nI i))]) hx hb dL_law_639 hl (by decide) rfl (fun ls hl => ?_)
  refine lv_aload_n hx hb dL_law_641 rfl (lv_at hl 3 rfl) ?_
  refine lv_aload_n hx hb dL_law_642 rfl (lv_at hl 1 rfl) ?_
  refine lv_iload hx hb dL_law_643 (lv_at hl 5 rfl) ?_
  refine lv_iconst (v := 1) hx hb dL_law_645 (by decide) ?_
  refine lv_iadd hx hb dL_law_646 ?_
  refine lv_topE (nI_add i 1) ?_
  refine va_sld hx hb hX hbl hbA hS (vp_in_nI (n := i + 1) (by omega) (by omega)) dL_law_647 ?_
  rw [nI_clamp (n := i + 1) (by omega)]
  refine lv_aload_n hx hb dL_law_648 rfl (lv_at hl 1 rfl) ?_
  refine lv_iload hx hb dL_law_649 (lv_at hl 5 rfl) ?_
  refine lv_iconst (v := 2) hx hb dL_law_651 (by decide) ?_
  refine lv_iadd hx hb dL_law_652 ?_
  refine lv_topE (nI_add i 2) ?_
  refine va_sld hx hb hX hbl hbA hS (vp_in_nI (n := i + 2) (by omega) (by omega)) dL_law_653 ?_
  rw [nI_clamp (n := i + 2) (by omega)]
  refine lv_aload_n hx hb dL_law_654 rfl (lv_at hl 1 rfl) ?_
  refine lv_iload hx hb dL_law_655 (lv_at hl 5 rfl) ?_
  refine lv_iconst (v := 3) hx hb dL_law_657 (by decide) ?_
  refine lv_iadd hx hb dL_law_658 ?_
  refine lv_topE (nI_add i 3) ?_
  refine va_sld hx hb hX hbl hbA hS (vp_in_nI (n := i + 3) (by omega) (by omega)) dL_law_659 ?_
  rw [nI_clamp (n := i + 3) (by omega)]
  refine lv_aload_n hx hb dL_law_660 rfl (lv_at hl 1 rfl) ?_
  refine lv_iload hx hb dL_law_661 (lv_at hl 5 rfl) ?_
  refine lv_iconst (v := 4) hx hb dL_law_663 (by decide) ?_
  refine lv_iadd hx hb dL_law_664 ?_
  refine lv_topE (nI_add i 4) ?_
  refine va_sld hx hb hX hbl hbA hS (vp_in_nI (n := i + 4) (by omega) (by omega)) dL_law_665 ?_
  rw [nI_clamp (n := i + 4) (by omega)]
  refine kT_i (va_runV (As := [.int (xs (i + 1)), .int (xs (i + 2)), .int (xs (i + 3)), .int (xs (i + 4))]) (rest := []) CF (k_m_reason l D bd kj _ μ (xs (i + 1)) (xs (i + 2)) (xs (i + 3)) (xs (i + 4)) hIM) ⟨callB_of 4 ht (gT0 mw_721) rfl rfl rfl (ht _ mw_6) (ht _ mw_718) (by decide +kernel) ⟨Nat.le_of_ble_eq_true rfl, Nat.le_of_ble_eq_true rfl⟩, (ht _ mw_719), (ht _ mw_720)⟩ (preV_N hK hP hD) rfl rfl hl.1 rfl (lv_room (Nat.le_of_ble_eq_true rfl)) dL_law_666 ⟨Nat.le_trans (by omega : cells + 4 + 0 ≤ 601024) (Nat.le_of_ble_eq_true rfl), Nat.le_trans (by omega : slots + 24 + 0 ≤ 7293034) (Nat.le_of_ble_eq_true rfl)⟩) hP hD hS (fun bv μ1 H locs hm hP hD hS => ?_)
  rw [← hm] at h0r hbr hR1
  refine lv_istore (lv' := [(6, .int bv), (5, .int r), (0, .ref b), (1, .ref (ad 0)), (2, .ref (bd 0)), (3, .ref qo), (4, .int (nI i))]) hx hb dL_law_669 hl (by decide) rfl (fun ls hl => ?_)
  refine lv_aload_n hx hb dL_law_671 rfl (lv_at hl 4 rfl) ?_
  refine kT_i (va_runV (As := []) (rest := []) CF (k_m_thrown l D bd kj _ μ1) ⟨callB_of 0 ht (gT0 mw_660) rfl rfl rfl (ht _ mw_6) (ht _ mw_657) (by decide +kernel) ⟨Nat.le_of_ble_eq_true rfl, Nat.le_of_ble_eq_true rfl⟩, (ht _ mw_658), (ht _ mw_659)⟩ (preV_N hK hP hD) rfl rfl hl.1 rfl (lv_room (Nat.le_of_ble_eq_true rfl)) dL_law_672 ⟨Nat.le_trans (by omega : cells + 4 + 0 ≤ 601024) (Nat.le_of_ble_eq_true rfl), Nat.le_trans (by omega : slots + 24 + 0 ≤ 7293034) (Nat.le_of_ble_eq_true rfl)⟩) hP hD hS (fun tv u9 H locs h9 hP hD hS => ?_)
  obtain ⟨h9, e9⟩ := h9
  rw [e9] at hP hD
  rw [show M_m_thrown μ1 = gF μ1 0 0 from rfl] at h9
  refine lv_iload hx hb dL_law_675 (lv_at hl 1 rfl) ?_
  refine lv_icmp_eq (tgt := 682) hx hb dL_law_677 (by decide) (fun c1 => ?_) (fun c1 => absurd (h9.trans h0r) c1)
  refine lv_iload hx hb dL_law_682 (lv_at hl 1 rfl) ?_
  refine lv_if_ne (tgt := 699) hx hb dL_law_684 (by decide) (fun c2 => ?_) (fun c2 => ?_)
  · skip
    refine lv_goto (tgt := 1344) hx hb dL_law_699 (by decide) ?_
    refine W.widen (k := cells + 6) (n := slots + 36) (by omega) (by omega) ?_
    exact K u.1 μ1 u.2 H locs ls hR1 hP hD hS (lv_sub hl [2, 3, 4, 5, 6] rfl)
  · have hb9 := hbr c2
    refine lv_aload_n hx hb dL_law_687 rfl (lv_at hl 5 rfl) ?_
    refine lv_iconst (v := 0) hx hb dL_law_688 (by decide) ?_
    refine va_lald (i := 0) hx hb hK hP 23 3 (out_at) rfl (vp_in_nI (n := 0) (by decide) (by decide)) dL_law_689 ?_
    refine lv_iload hx hb dL_law_690 (lv_at hl 0 rfl) ?_
    refine lv_i2l hx hb dL_law_692 rfl ?_
    have hq9 : u.2 (0 : Int32).toNatClampNeg = bv.toInt64 := hb9
    rw [hq9]
    refine W.lcmp hx hb dL_law_693 ?_
    rw [lc_eq]
    refine lv_if_eq (tgt := 699) hx hb dL_law_694 (by decide) (fun c3 => ?_) (fun c3 => absurd rfl c3)
    refine lv_goto (tgt := 1344) hx hb dL_law_699 (by decide) ?_
    refine W.widen (k := cells + 6) (n := slots + 36) (by omega) (by omega) ?_
    exact K u.1 μ1 u.2 H locs ls hR1 hP hD hS (lv_sub hl [2, 3, 4, 5, 6] rfl)
set_option maxHeartbeats 4000000 in
set_option maxRecDepth 100000 in
theorem lc_done {R : St → St → Prop} (hRB : ∀ σ μ, R σ μ → IB σ ∧ IM μ) {p : Program} {e : Env} {s : State} {m : MethodId} {below : List Frame} {meth : Method} {c : Code} (l : Launch) (hl9 : l.stackTraces = false) {b L : Nat} {xs : Nat → Int32} {Q : State → Prop} (hL : L ≤ 3072) (C0 : lw_At p s m meth c b L xs) {D : va_G} {kL : ClassId} {kk kj : Nat → ClassId} {qo : Nat} {ad bd : Nat → Nat} (hK : va_K D vwCl (tyT kj kL kk) s) (hE : EvW (LA s) s s.heap) {σ μ : St} {f : Nat → Int64} {i cells slots : Nat} {H : Heap} {locs : List Loc} {ls : Array Slot} (hR : R σ μ) (hsim : Sim R (tI (M_done σ (xs (i + 1)) (xs (i + 2)) (xs (i + 3)) (xs (i + 4)) (xs (i + 5)))) ["java/lang/IndexOutOfBoundsException", "java/lang/IllegalStateException", "java/lang/IllegalArgumentException"] σ (M_m_done μ (xs (i + 1)) (xs (i + 2)) (xs (i + 3)) (xs (i + 4)) (xs (i + 5))).1.toInt64 (M_m_done μ (xs (i + 1)) (xs (i + 2)) (xs (i + 3)) (xs (i + 4)) (xs (i + 5))).2) (hi : i + 6 ≤ L) (hcl : cells + 6 ≤ 601024) (hsl : slots + 36 ≤ 7293034) (hP : va_P D vwCl (wT bd kj μ qo kL f ad kk σ) H) (hD : va_D (LA s) (wT bd kj μ qo kL f ad kk σ)) (hS : va_S (LA s) s.heap H locs) (hl : lv_has ls 8 [(0, .ref b), (1, .ref (ad 0)), (2, .ref (bd 0)), (3, .ref qo), (4, .int (nI i))])
    (K : ∀ (σ1 μ1 : St) (f1 : Nat → Int64) (H : Heap) (locs : List Loc) (ls : Array Slot), R σ1 μ1 → va_P D vwCl (wT bd kj μ1 qo kL f1 ad kk σ1) H → va_D (LA s) (wT bd kj μ1 qo kL f1 ad kk σ1) → va_S (LA s) s.heap H locs → lv_has ls 8 [(0, .ref b), (1, .ref (ad 0)), (2, .ref (bd 0)), (3, .ref qo), (4, .int (nI i))] → W p l e room_1 s m #[Value.ref b] below meth c H locs (cells + 6) (slots + 36) Q (F0 m 1344 ls ([]))) : W p l e room_1 s m #[Value.ref b] below meth c H locs cells slots Q (F0 m 702 ls ([])) := by
  obtain ⟨hx, hb, hr, hml, hown, hts, hX, hbl, hlocks, hgv⟩ := C0
  have ht : ∀ w ∈ T0, w.before #[Value.ref b] s = true := fun w h => hts w (T0_lw h)
  have CF : CallFix p m c code 8 s #[Value.ref b] T0 RL := ⟨hx, hb, hml, hown, ht⟩
  have hbA : ¬ LA s b := Nat.not_le.mpr hbl
  have hIB := (hRB σ μ hR).1
  have hIM := (hRB σ μ hR).2
  refine lv_aload_n hx hb dL_law_702 rfl (lv_at hl 1 rfl) ?_
  refine lv_aload_n hx hb dL_law_703 rfl (lv_at hl 0 rfl) ?_
  refine lv_iload hx hb dL_law_704 (lv_at hl 4 rfl) ?_
  refine lv_iconst (v := 1) hx hb dL_law_706 (by decide) ?_
  refine lv_iadd hx hb dL_law_707 ?_
  refine lv_topE (nI_add i 1) ?_
  refine va_sld hx hb hX hbl hbA hS (vp_in_nI (n := i + 1) (by omega) (by omega)) dL_law_708 ?_
  rw [nI_clamp (n := i + 1) (by omega)]
  refine lv_aload_n hx hb dL_law_709 rfl (lv_at hl 0 rfl) ?_
  refine lv_iload hx hb dL_law_710 (lv_at hl 4 rfl) ?_
  refine lv_iconst (v := 2) hx hb dL_law_712 (by decide) ?_
  refine lv_iadd hx hb dL_law_713 ?_
  refine lv_topE (nI_add i 2) ?_
  refine va_sld hx hb hX hbl hbA hS (vp_in_nI (n := i + 2) (by omega) (by omega)) dL_law_714 ?_
  rw [nI_clamp (n := i + 2) (by omega)]
  refine lv_aload_n hx hb dL_law_715 rfl (lv_at hl 0 rfl) ?_
  refine lv_iload hx hb dL_law_716 (lv_at hl 4 rfl) ?_
  refine lv_iconst (v := 3) hx hb dL_law_718 (by decide) ?_
  refine lv_iadd hx hb dL_law_719 ?_
  refine lv_topE (nI_add i 3) ?_
  refine va_sld hx hb hX hbl hbA hS (vp_in_nI (n := i + 3) (by omega) (by omega)) dL_law_720 ?_
  rw [nI_clamp (n := i + 3) (by omega)]
  refine lv_aload_n hx hb dL_law_721 rfl (lv_at hl 0 rfl) ?_
  refine lv_iload hx hb dL_law_722 (lv_at hl 4 rfl) ?_
  refine lv_iconst (v := 4) hx hb dL_law_724 (by decide) ?_
  refine lv_iadd hx hb dL_law_725 ?_
  refine lv_topE (nI_add i 4) ?_
  refine va_sld hx hb hX hbl hbA hS (vp_in_nI (n := i + 4) (by omega) (by omega)) dL_law_726 ?_
  rw [nI_clamp (n := i + 4) (by omega)]
  refine lv_aload_n hx hb dL_law_727 rfl (lv_at hl 0 rfl) ?_
  refine lv_iload hx hb dL_law_728 (lv_at hl 4 rfl) ?_
  refine lv_iconst (v := 5) hx hb dL_law_730 (by decide) ?_
  refine lv_iadd hx hb dL_law_731 ?_
  refine lv_topE (nI_add i 5) ?_
  refine va_sld hx hb hX hbl hbA hS (vp_in_nI (n := i + 5) (by omega) (by omega)) dL_law_732 ?_
  rw [nI_clamp (n := i + 5) (by omega)]
  refine lv_aload_n hx hb dL_law_733 rfl (lv_at hl 3 rfl) ?_
  refine kT_w (vx_runSX (As := [.ref (ad 0), .int (xs (i + 1)), .int (xs (i + 2)), .int (xs (i + 3)), .int (xs (i + 4)), .int (xs (i + 5)), .ref qo]) (rest := []) CF (k_w_done l hl9 D qo kL ad kk _ f σ (xs (i + 1)) (xs (i + 2)) (xs (i + 3)) (xs (i + 4)) (xs (i + 5)) hIB) (csw (n := 7) ht mw_444 mw_442 mw_443 mw_0 rfl rfl (by decide +kernel) ⟨Nat.le_of_ble_eq_true rfl, Nat.le_of_ble_eq_true rfl⟩) (preS_T hK hP hD hE hS) rfl rfl hl.1 rfl (lv_room (Nat.le_of_ble_eq_true rfl)) dL_law_734 ⟨Nat.le_trans (by omega : cells + 6 ≤ 601024) (Nat.le_of_ble_eq_true rfl), Nat.le_trans (by omega : slots + 36 ≤ 7293034) (Nat.le_of_ble_eq_true rfl)⟩) hP hD hS (fun r u H locs hw hP hD hS => ?_)
  obtain ⟨h0r, hbr, hR1⟩ := simw (by decide) hsim hw
  refine lv_istore (lv' := [(5, .int r), (0, .ref b), (1, .ref (ad 0)), (2, .ref (bd 0)), (3, .ref qo), (4, .int (nI i))]) hx hb dL_law_737 hl (by decide) rfl (fun ls hl => ?_)
  refine lv_aload_n hx hb dL_law_739 rfl (lv_at hl 3 rfl) ?_
  refine lv_aload_n hx hb dL_law_740 rfl (lv_at hl 1 rfl) ?_
  refine lv_iload hx hb dL_law_741 (lv_at hl 5 rfl) ?_
  refine lv_iconst (v := 1) hx hb dL_law_743 (by decide) ?_
  refine lv_iadd hx hb dL_law_744 ?_
  refine lv_topE (nI_add i 1) ?_
  refine va_sld hx hb hX hbl hbA hS (vp_in_nI (n := i + 1) (by omega) (by omega)) dL_law_745 ?_
  rw [nI_clamp (n := i + 1) (by omega)]
  refine lv_aload_n hx hb dL_law_746 rfl (lv_at hl 1 rfl) ?_
  refine lv_iload hx hb dL_law_747 (lv_at hl 5 rfl) ?_
  refine lv_iconst (v := 2) hx hb dL_law_749 (by decide) ?_
  refine lv_iadd hx hb dL_law_750 ?_
  refine lv_topE (nI_add i 2) ?_
  refine va_sld hx hb hX hbl hbA hS (vp_in_nI (n := i + 2) (by omega) (by omega)) dL_law_751 ?_
  rw [nI_clamp (n := i + 2) (by omega)]
  refine lv_aload_n hx hb dL_law_752 rfl (lv_at hl 1 rfl) ?_
  refine lv_iload hx hb dL_law_753 (lv_at hl 5 rfl) ?_
  refine lv_iconst (v := 3) hx hb dL_law_755 (by decide) ?_
  refine lv_iadd hx hb dL_law_756 ?_
  refine lv_topE (nI_add i 3) ?_
  refine va_sld hx hb hX hbl hbA hS (vp_in_nI (n := i + 3) (by omega) (by omega)) dL_law_757 ?_
  rw [nI_clamp (n := i + 3) (by omega)]
  refine lv_aload_n hx hb dL_law_758 rfl (lv_at hl 1 rfl) ?_
  refine lv_iload hx hb dL_law_759 (lv_at hl 5 rfl) ?_
  refine lv_iconst (v := 4) hx hb dL_law_761 (by decide) ?_
  refine lv_iadd hx hb dL_law_762 ?_
  refine lv_topE (nI_add i 4) ?_
  refine va_sld hx hb hX hbl hbA hS (vp_in_nI (n := i + 4) (by omega) (by omega)) dL_law_763 ?_
  rw [nI_clamp (n := i + 4) (by omega)]
  refine lv_aload_n hx hb dL_law_764 rfl (lv_at hl 1 rfl) ?_
  refine lv_iload hx hb dL_law_765 (lv_at hl 5 rfl) ?_
  refine lv_iconst (v := 5) hx hb dL_law_767 (by decide) ?_
  refine lv_iadd hx hb dL_law_768 ?_
  refine lv_topE (nI_add i 5) ?_
  refine va_sld hx hb hX hbl hbA hS (vp_in_nI (n := i + 5) (by omega) (by omega)) dL_law_769 ?_
  rw [nI_clamp (n := i + 5) (by omega)]
  refine kT_i (va_runV (As := [.int (xs (i + 1)), .int (xs (i + 2)), .int (xs (i + 3)), .int (xs (i + 4)), .int (xs (i + 5))]) (rest := []) CF (k_m_done l D bd kj _ μ (xs (i + 1)) (xs (i + 2)) (xs (i + 3)) (xs (i + 4)) (xs (i + 5)) hIM) ⟨callB_of 5 ht (gT0 mw_753) rfl rfl rfl (ht _ mw_6) (ht _ mw_750) (by decide +kernel) ⟨Nat.le_of_ble_eq_true rfl, Nat.le_of_ble_eq_true rfl⟩, (ht _ mw_751), (ht _ mw_752)⟩ (preV_N hK hP hD) rfl rfl hl.1 rfl (lv_room (Nat.le_of_ble_eq_true rfl)) dL_law_770 ⟨Nat.le_trans (by omega : cells + 6 + 0 ≤ 601024) (Nat.le_of_ble_eq_true rfl), Nat.le_trans (by omega : slots + 36 + 0 ≤ 7293034) (Nat.le_of_ble_eq_true rfl)⟩) hP hD hS (fun bv μ1 H locs hm hP hD hS => ?_)
  rw [← hm] at h0r hbr hR1
  refine lv_istore (lv' := [(6, .int bv), (5, .int r), (0, .ref b), (1, .ref (ad 0)), (2, .ref (bd 0)), (3, .ref qo), (4, .int (nI i))]) hx hb dL_law_773 hl (by decide) rfl (fun ls hl => ?_)
  refine lv_aload_n hx hb dL_law_775 rfl (lv_at hl 4 rfl) ?_
  refine kT_i (va_runV (As := []) (rest := []) CF (k_m_thrown l D bd kj _ μ1) ⟨callB_of 0 ht (gT0 mw_660) rfl rfl rfl (ht _ mw_6) (ht _ mw_657) (by decide +kernel) ⟨Nat.le_of_ble_eq_true rfl, Nat.le_of_ble_eq_true rfl⟩, (ht _ mw_658), (ht _ mw_659)⟩ (preV_N hK hP hD) rfl rfl hl.1 rfl (lv_room (Nat.le_of_ble_eq_true rfl)) dL_law_776 ⟨Nat.le_trans (by omega : cells + 6 + 0 ≤ 601024) (Nat.le_of_ble_eq_true rfl), Nat.le_trans (by omega : slots + 36 + 0 ≤ 7293034) (Nat.le_of_ble_eq_true rfl)⟩) hP hD hS (fun tv u9 H locs h9 hP hD hS => ?_)
  obtain ⟨h9, e9⟩ := h9
  rw [e9] at hP hD
  rw [show M_m_thrown μ1 = gF μ1 0 0 from rfl] at h9
  refine lv_iload hx hb dL_law_779 (lv_at hl 1 rfl) ?_
  refine lv_icmp_eq (tgt := 786) hx hb dL_law_781 (by decide) (fun c1 => ?_) (fun c1 => absurd (h9.trans h0r) c1)
  refine lv_iload hx hb dL_law_786 (lv_at hl 1 rfl) ?_
  refine lv_if_ne (tgt := 803) hx hb dL_law_788 (by decide) (fun c2 => ?_) (fun c2 => ?_)
  · skip
    refine lv_goto (tgt := 1344) hx hb dL_law_803 (by decide) ?_
    refine W.widen (k := cells + 6) (n := slots + 36) (by omega) (by omega) ?_
    exact K u.1 μ1 u.2 H locs ls hR1 hP hD hS (lv_sub hl [2, 3, 4, 5, 6] rfl)
  · have hb9 := hbr c2
    refine lv_aload_n hx hb dL_law_791 rfl (lv_at hl 5 rfl) ?_
    refine lv_iconst (v := 0) hx hb dL_law_792 (by decide) ?_
    refine va_lald (i := 0) hx hb hK hP 23 3 (out_at) rfl (vp_in_nI (n := 0) (by decide) (by decide)) dL_law_793 ?_
    refine lv_iload hx hb dL_law_794 (lv_at hl 0 rfl) ?_
    refine lv_i2l hx hb dL_law_796 rfl ?_
    have hq9 : u.2 (0 : Int32).toNatClampNeg = bv.toInt64 := hb9
    rw [hq9]
    refine W.lcmp hx hb dL_law_797 ?_
    rw [lc_eq]
    refine lv_if_eq (tgt := 803) hx hb dL_law_798 (by decide) (fun c3 => ?_) (fun c3 => absurd rfl c3)
    refine lv_goto (tgt := 1344) hx hb dL_law_803 (by decide) ?_
    refine W.widen (k := cells + 6) (n := slots + 36) (by omega) (by omega) ?_
    exact K u.1 μ1 u.2 H locs ls hR1 hP hD hS (lv_sub hl [2, 3, 4, 5, 6] rfl)
set_option maxHeartbeats 4000000 in
set_option maxRecDepth 100000 in
theorem lc_row {R : St → St → Prop} (hRB : ∀ σ μ, R σ μ → IB σ ∧ IM μ) {p : Program} {e : Env} {s : State} {m : MethodId} {below : List Frame} {meth : Method} {c : Code} (l : Launch) (hl9 : l.stackTraces = false) {b L : Nat} {xs : Nat → Int32} {Q : State → Prop} (hL : L ≤ 3072) (C0 : lw_At p s m meth c b L xs) {D : va_G} {kL : ClassId} {kk kj : Nat → ClassId} {qo : Nat} {ad bd : Nat → Nat} (hK : va_K D vwCl (tyT kj kL kk) s) (hE : EvW (LA s) s s.heap) {σ μ : St} {f : Nat → Int64} {i cells slots : Nat} {H : Heap} {locs : List Loc} {ls : Array Slot} (hR : R σ μ) (hsim : Sim R (tR σ (M_row σ (xs (i + 1)) (xs (i + 2)) (xs (i + 3)))) ["java/lang/IndexOutOfBoundsException"] σ (M_m_row μ (xs (i + 1)) (xs (i + 2)) (xs (i + 3))).1.toInt64 (M_m_row μ (xs (i + 1)) (xs (i + 2)) (xs (i + 3))).2) (hi : i + 6 ≤ L) (hcl : cells + 6 ≤ 601024) (hsl : slots + 36 ≤ 7293034) (hP : va_P D vwCl (wT bd kj μ qo kL f ad kk σ) H) (hD : va_D (LA s) (wT bd kj μ qo kL f ad kk σ)) (hS : va_S (LA s) s.heap H locs) (hl : lv_has ls 8 [(0, .ref b), (1, .ref (ad 0)), (2, .ref (bd 0)), (3, .ref qo), (4, .int (nI i))])
    (K : ∀ (σ1 μ1 : St) (f1 : Nat → Int64) (H : Heap) (locs : List Loc) (ls : Array Slot), R σ1 μ1 → va_P D vwCl (wT bd kj μ1 qo kL f1 ad kk σ1) H → va_D (LA s) (wT bd kj μ1 qo kL f1 ad kk σ1) → va_S (LA s) s.heap H locs → lv_has ls 8 [(0, .ref b), (1, .ref (ad 0)), (2, .ref (bd 0)), (3, .ref qo), (4, .int (nI i))] → W p l e room_1 s m #[Value.ref b] below meth c H locs (cells + 6) (slots + 36) Q (F0 m 1344 ls ([]))) : W p l e room_1 s m #[Value.ref b] below meth c H locs cells slots Q (F0 m 806 ls ([])) := by
  obtain ⟨hx, hb, hr, hml, hown, hts, hX, hbl, hlocks, hgv⟩ := C0
  have ht : ∀ w ∈ T0, w.before #[Value.ref b] s = true := fun w h => hts w (T0_lw h)
  have CF : CallFix p m c code 8 s #[Value.ref b] T0 RL := ⟨hx, hb, hml, hown, ht⟩
  have hbA : ¬ LA s b := Nat.not_le.mpr hbl
  have hIB := (hRB σ μ hR).1
  have hIM := (hRB σ μ hR).2
  refine lv_aload_n hx hb dL_law_806 rfl (lv_at hl 1 rfl) ?_
  refine lv_aload_n hx hb dL_law_807 rfl (lv_at hl 0 rfl) ?_
  refine lv_iload hx hb dL_law_808 (lv_at hl 4 rfl) ?_
  refine lv_iconst (v := 1) hx hb dL_law_810 (by decide) ?_
  refine lv_iadd hx hb dL_law_811 ?_
  refine lv_topE (nI_add i 1) ?_
  refine va_sld hx hb hX hbl hbA hS (vp_in_nI (n := i + 1) (by omega) (by omega)) dL_law_812 ?_
  rw [nI_clamp (n := i + 1) (by omega)]
  refine lv_aload_n hx hb dL_law_813 rfl (lv_at hl 0 rfl) ?_
  refine lv_iload hx hb dL_law_814 (lv_at hl 4 rfl) ?_
  refine lv_iconst (v := 2) hx hb dL_law_816 (by decide) ?_
  refine lv_iadd hx hb dL_law_817 ?_
  refine lv_topE (nI_add i 2) ?_
  refine va_sld hx hb hX hbl hbA hS (vp_in_nI (n := i + 2) (by omega) (by omega)) dL_law_818 ?_
  rw [nI_clamp (n := i + 2) (by omega)]
  refine lv_aload_n hx hb dL_law_819 rfl (lv_at hl 0 rfl) ?_
  refine lv_iload hx hb dL_law_820 (lv_at hl 4 rfl) ?_
  refine lv_iconst (v := 3) hx hb dL_law_822 (by decide) ?_
  refine lv_iadd hx hb dL_law_823 ?_
  refine lv_topE (nI_add i 3) ?_
  refine va_sld hx hb hX hbl hbA hS (vp_in_nI (n := i + 3) (by omega) (by omega)) dL_law_824 ?_
  rw [nI_clamp (n := i + 3) (by omega)]
  refine lv_aload_n hx hb dL_law_825 rfl (lv_at hl 3 rfl) ?_
  refine kT_w (vx_runSX (As := [.ref (ad 0), .int (xs (i + 1)), .int (xs (i + 2)), .int (xs (i + 3)), .ref qo]) (rest := []) CF (k_w_row l hl9 D qo kL ad kk _ f σ (xs (i + 1)) (xs (i + 2)) (xs (i + 3)) hIB) (csw (n := 5) ht mw_464 mw_462 mw_463 mw_0 rfl rfl (by decide +kernel) ⟨Nat.le_of_ble_eq_true rfl, Nat.le_of_ble_eq_true rfl⟩) (preS_T hK hP hD hE hS) rfl rfl hl.1 rfl (lv_room (Nat.le_of_ble_eq_true rfl)) dL_law_826 ⟨Nat.le_trans (by omega : cells + 3 ≤ 601024) (Nat.le_of_ble_eq_true rfl), Nat.le_trans (by omega : slots + 18 ≤ 7293034) (Nat.le_of_ble_eq_true rfl)⟩) hP hD hS (fun r u H locs hw hP hD hS => ?_)
  obtain ⟨h0r, hbr, hR1⟩ := simw (by decide) hsim hw
  refine lv_istore (lv' := [(5, .int r), (0, .ref b), (1, .ref (ad 0)), (2, .ref (bd 0)), (3, .ref qo), (4, .int (nI i))]) hx hb dL_law_829 hl (by decide) rfl (fun ls hl => ?_)
  refine lv_aload_n hx hb dL_law_831 rfl (lv_at hl 3 rfl) ?_
  refine lv_aload_n hx hb dL_law_832 rfl (lv_at hl 1 rfl) ?_
  refine lv_iload hx hb dL_law_833 (lv_at hl 5 rfl) ?_
  refine lv_iconst (v := 1) hx hb dL_law_835 (by decide) ?_
  refine lv_iadd hx hb dL_law_836 ?_
  refine lv_topE (nI_add i 1) ?_
  refine va_sld hx hb hX hbl hbA hS (vp_in_nI (n := i + 1) (by omega) (by omega)) dL_law_837 ?_
  rw [nI_clamp (n := i + 1) (by omega)]
  refine lv_aload_n hx hb dL_law_838 rfl (lv_at hl 1 rfl) ?_
  refine lv_iload hx hb dL_law_839 (lv_at hl 5 rfl) ?_
  refine lv_iconst (v := 2) hx hb dL_law_841 (by decide) ?_
  refine lv_iadd hx hb dL_law_842 ?_
  refine lv_topE (nI_add i 2) ?_
  refine va_sld hx hb hX hbl hbA hS (vp_in_nI (n := i + 2) (by omega) (by omega)) dL_law_843 ?_
  rw [nI_clamp (n := i + 2) (by omega)]
  refine lv_aload_n hx hb dL_law_844 rfl (lv_at hl 1 rfl) ?_
  refine lv_iload hx hb dL_law_845 (lv_at hl 5 rfl) ?_
  refine lv_iconst (v := 3) hx hb dL_law_847 (by decide) ?_
  refine lv_iadd hx hb dL_law_848 ?_
  refine lv_topE (nI_add i 3) ?_
  refine va_sld hx hb hX hbl hbA hS (vp_in_nI (n := i + 3) (by omega) (by omega)) dL_law_849 ?_
  rw [nI_clamp (n := i + 3) (by omega)]
  refine kT_i (va_runV (As := [.int (xs (i + 1)), .int (xs (i + 2)), .int (xs (i + 3))]) (rest := []) CF (k_m_row l D bd kj _ μ (xs (i + 1)) (xs (i + 2)) (xs (i + 3)) hIM) ⟨callB_of 3 ht (gT0 mw_757) rfl rfl rfl (ht _ mw_6) (ht _ mw_754) (by decide +kernel) ⟨Nat.le_of_ble_eq_true rfl, Nat.le_of_ble_eq_true rfl⟩, (ht _ mw_755), (ht _ mw_756)⟩ (preV_N hK hP hD) rfl rfl hl.1 rfl (lv_room (Nat.le_of_ble_eq_true rfl)) dL_law_850 ⟨Nat.le_trans (by omega : cells + 3 + 0 ≤ 601024) (Nat.le_of_ble_eq_true rfl), Nat.le_trans (by omega : slots + 18 + 0 ≤ 7293034) (Nat.le_of_ble_eq_true rfl)⟩) hP hD hS (fun bv μ1 H locs hm hP hD hS => ?_)
  rw [← hm] at h0r hbr hR1
  refine lv_istore (lv' := [(6, .int bv), (5, .int r), (0, .ref b), (1, .ref (ad 0)), (2, .ref (bd 0)), (3, .ref qo), (4, .int (nI i))]) hx hb dL_law_853 hl (by decide) rfl (fun ls hl => ?_)
  refine lv_aload_n hx hb dL_law_855 rfl (lv_at hl 4 rfl) ?_
  refine kT_i (va_runV (As := []) (rest := []) CF (k_m_thrown l D bd kj _ μ1) ⟨callB_of 0 ht (gT0 mw_660) rfl rfl rfl (ht _ mw_6) (ht _ mw_657) (by decide +kernel) ⟨Nat.le_of_ble_eq_true rfl, Nat.le_of_ble_eq_true rfl⟩, (ht _ mw_658), (ht _ mw_659)⟩ (preV_N hK hP hD) rfl rfl hl.1 rfl (lv_room (Nat.le_of_ble_eq_true rfl)) dL_law_856 ⟨Nat.le_trans (by omega : cells + 3 + 0 ≤ 601024) (Nat.le_of_ble_eq_true rfl), Nat.le_trans (by omega : slots + 18 + 0 ≤ 7293034) (Nat.le_of_ble_eq_true rfl)⟩) hP hD hS (fun tv u9 H locs h9 hP hD hS => ?_)
  obtain ⟨h9, e9⟩ := h9
  rw [e9] at hP hD
  rw [show M_m_thrown μ1 = gF μ1 0 0 from rfl] at h9
  refine lv_iload hx hb dL_law_859 (lv_at hl 1 rfl) ?_
  refine lv_icmp_eq (tgt := 866) hx hb dL_law_861 (by decide) (fun c1 => ?_) (fun c1 => absurd (h9.trans h0r) c1)
  refine lv_iload hx hb dL_law_866 (lv_at hl 1 rfl) ?_
  refine lv_if_ne (tgt := 883) hx hb dL_law_868 (by decide) (fun c2 => ?_) (fun c2 => ?_)
  · skip
    refine lv_goto (tgt := 1344) hx hb dL_law_883 (by decide) ?_
    refine W.widen (k := cells + 6) (n := slots + 36) (by omega) (by omega) ?_
    exact K u.1 μ1 u.2 H locs ls hR1 hP hD hS (lv_sub hl [2, 3, 4, 5, 6] rfl)
  · have hb9 := hbr c2
    refine lv_aload_n hx hb dL_law_871 rfl (lv_at hl 5 rfl) ?_
    refine lv_iconst (v := 0) hx hb dL_law_872 (by decide) ?_
    refine va_lald (i := 0) hx hb hK hP 23 3 (out_at) rfl (vp_in_nI (n := 0) (by decide) (by decide)) dL_law_873 ?_
    refine lv_iload hx hb dL_law_874 (lv_at hl 0 rfl) ?_
    refine lv_i2l hx hb dL_law_876 rfl ?_
    have hq9 : u.2 (0 : Int32).toNatClampNeg = bv.toInt64 := hb9
    rw [hq9]
    refine W.lcmp hx hb dL_law_877 ?_
    rw [lc_eq]
    refine lv_if_eq (tgt := 883) hx hb dL_law_878 (by decide) (fun c3 => ?_) (fun c3 => absurd rfl c3)
    refine lv_goto (tgt := 1344) hx hb dL_law_883 (by decide) ?_
    refine W.widen (k := cells + 6) (n := slots + 36) (by omega) (by omega) ?_
    exact K u.1 μ1 u.2 H locs ls hR1 hP hD hS (lv_sub hl [2, 3, 4, 5, 6] rfl)
set_option maxHeartbeats 4000000 in
set_option maxRecDepth 100000 in
theorem lc_stock {R : St → St → Prop} (hRB : ∀ σ μ, R σ μ → IB σ ∧ IM μ) {p : Program} {e : Env} {s : State} {m : MethodId} {below : List Frame} {meth : Method} {c : Code} (l : Launch) (hl9 : l.stackTraces = false) {b L : Nat} {xs : Nat → Int32} {Q : State → Prop} (hL : L ≤ 3072) (C0 : lw_At p s m meth c b L xs) {D : va_G} {kL : ClassId} {kk kj : Nat → ClassId} {qo : Nat} {ad bd : Nat → Nat} (hK : va_K D vwCl (tyT kj kL kk) s) (hE : EvW (LA s) s s.heap) {σ μ : St} {f : Nat → Int64} {i cells slots : Nat} {H : Heap} {locs : List Loc} {ls : Array Slot} (hR : R σ μ) (hsim : Sim R (tI (M_stock σ (xs (i + 1)) (xs (i + 2)))) ["java/lang/IndexOutOfBoundsException", "java/lang/IllegalArgumentException"] σ (M_m_stock μ (xs (i + 1)) (xs (i + 2))).1.toInt64 (M_m_stock μ (xs (i + 1)) (xs (i + 2))).2) (hi : i + 6 ≤ L) (hcl : cells + 6 ≤ 601024) (hsl : slots + 36 ≤ 7293034) (hP : va_P D vwCl (wT bd kj μ qo kL f ad kk σ) H) (hD : va_D (LA s) (wT bd kj μ qo kL f ad kk σ)) (hS : va_S (LA s) s.heap H locs) (hl : lv_has ls 8 [(0, .ref b), (1, .ref (ad 0)), (2, .ref (bd 0)), (3, .ref qo), (4, .int (nI i))])
    (K : ∀ (σ1 μ1 : St) (f1 : Nat → Int64) (H : Heap) (locs : List Loc) (ls : Array Slot), R σ1 μ1 → va_P D vwCl (wT bd kj μ1 qo kL f1 ad kk σ1) H → va_D (LA s) (wT bd kj μ1 qo kL f1 ad kk σ1) → va_S (LA s) s.heap H locs → lv_has ls 8 [(0, .ref b), (1, .ref (ad 0)), (2, .ref (bd 0)), (3, .ref qo), (4, .int (nI i))] → W p l e room_1 s m #[Value.ref b] below meth c H locs (cells + 6) (slots + 36) Q (F0 m 1344 ls ([]))) : W p l e room_1 s m #[Value.ref b] below meth c H locs cells slots Q (F0 m 886 ls ([])) := by
  obtain ⟨hx, hb, hr, hml, hown, hts, hX, hbl, hlocks, hgv⟩ := C0
  have ht : ∀ w ∈ T0, w.before #[Value.ref b] s = true := fun w h => hts w (T0_lw h)
  have CF : CallFix p m c code 8 s #[Value.ref b] T0 RL := ⟨hx, hb, hml, hown, ht⟩
  have hbA : ¬ LA s b := Nat.not_le.mpr hbl
  have hIB := (hRB σ μ hR).1
  have hIM := (hRB σ μ hR).2
  refine lv_aload_n hx hb dL_law_886 rfl (lv_at hl 1 rfl) ?_
  refine lv_aload_n hx hb dL_law_887 rfl (lv_at hl 0 rfl) ?_
  refine lv_iload hx hb dL_law_888 (lv_at hl 4 rfl) ?_
  refine lv_iconst (v := 1) hx hb dL_law_890 (by decide) ?_
  refine lv_iadd hx hb dL_law_891 ?_
  refine lv_topE (nI_add i 1) ?_
  refine va_sld hx hb hX hbl hbA hS (vp_in_nI (n := i + 1) (by omega) (by omega)) dL_law_892 ?_
  rw [nI_clamp (n := i + 1) (by omega)]
  refine lv_aload_n hx hb dL_law_893 rfl (lv_at hl 0 rfl) ?_
  refine lv_iload hx hb dL_law_894 (lv_at hl 4 rfl) ?_
  refine lv_iconst (v := 2) hx hb dL_law_896 (by decide) ?_
  refine lv_iadd hx hb dL_law_897 ?_
  refine lv_topE (nI_add i 2) ?_
  refine va_sld hx hb hX hbl hbA hS (vp_in_nI (n := i + 2) (by omega) (by omega)) dL_law_898 ?_
  rw [nI_clamp (n := i + 2) (by omega)]
  refine lv_aload_n hx hb dL_law_899 rfl (lv_at hl 3 rfl) ?_
  refine kT_w (vx_runSX (As := [.ref (ad 0), .int (xs (i + 1)), .int (xs (i + 2)), .ref qo]) (rest := []) CF (k_w_stock l hl9 D qo kL ad kk _ f σ (xs (i + 1)) (xs (i + 2))) (csw (n := 4) ht mw_471 mw_469 mw_470 mw_0 rfl rfl (by decide +kernel) ⟨Nat.le_of_ble_eq_true rfl, Nat.le_of_ble_eq_true rfl⟩) (preS_T hK hP hD hE hS) rfl rfl hl.1 rfl (lv_room (Nat.le_of_ble_eq_true rfl)) dL_law_900 ⟨Nat.le_trans (by omega : cells + 2 ≤ 601024) (Nat.le_of_ble_eq_true rfl), Nat.le_trans (by omega : slots + 12 ≤ 7293034) (Nat.le_of_ble_eq_true rfl)⟩) hP hD hS (fun r u H locs hw hP hD hS => ?_)
  obtain ⟨h0r, hbr, hR1⟩ := simw (by decide) hsim hw
  refine lv_istore (lv' := [(5, .int r), (0, .ref b), (1, .ref (ad 0)), (2, .ref (bd 0)), (3, .ref qo), (4, .int (nI i))]) hx hb dL_law_903 hl (by decide) rfl (fun ls hl => ?_)
  refine lv_aload_n hx hb dL_law_905 rfl (lv_at hl 3 rfl) ?_
  refine lv_aload_n hx hb dL_law_906 rfl (lv_at hl 1 rfl) ?_
  refine lv_iload hx hb dL_law_907 (lv_at hl 5 rfl) ?_
  refine lv_iconst (v := 1) hx hb dL_law_909 (by decide) ?_
  refine lv_iadd hx hb dL_law_910 ?_
  refine lv_topE (nI_add i 1) ?_
  refine va_sld hx hb hX hbl hbA hS (vp_in_nI (n := i + 1) (by omega) (by omega)) dL_law_911 ?_
  rw [nI_clamp (n := i + 1) (by omega)]
  refine lv_aload_n hx hb dL_law_912 rfl (lv_at hl 1 rfl) ?_
  refine lv_iload hx hb dL_law_913 (lv_at hl 5 rfl) ?_
  refine lv_iconst (v := 2) hx hb dL_law_915 (by decide) ?_
  refine lv_iadd hx hb dL_law_916 ?_
  refine lv_topE (nI_add i 2) ?_
  refine va_sld hx hb hX hbl hbA hS (vp_in_nI (n := i + 2) (by omega) (by omega)) dL_law_917 ?_
  rw [nI_clamp (n := i + 2) (by omega)]
  refine kT_i (va_runV (As := [.int (xs (i + 1)), .int (xs (i + 2))]) (rest := []) CF (k_m_stock l D bd kj _ μ (xs (i + 1)) (xs (i + 2)) hIM) ⟨callB_of 2 ht (gT0 mw_761) rfl rfl rfl (ht _ mw_6) (ht _ mw_758) (by decide +kernel) ⟨Nat.le_of_ble_eq_true rfl, Nat.le_of_ble_eq_true rfl⟩, (ht _ mw_759), (ht _ mw_760)⟩ (preV_N hK hP hD) rfl rfl hl.1 rfl (lv_room (Nat.le_of_ble_eq_true rfl)) dL_law_918 ⟨Nat.le_trans (by omega : cells + 2 + 0 ≤ 601024) (Nat.le_of_ble_eq_true rfl), Nat.le_trans (by omega : slots + 12 + 0 ≤ 7293034) (Nat.le_of_ble_eq_true rfl)⟩) hP hD hS (fun bv μ1 H locs hm hP hD hS => ?_)
  rw [← hm] at h0r hbr hR1
  refine lv_istore (lv' := [(6, .int bv), (5, .int r), (0, .ref b), (1, .ref (ad 0)), (2, .ref (bd 0)), (3, .ref qo), (4, .int (nI i))]) hx hb dL_law_921 hl (by decide) rfl (fun ls hl => ?_)
  refine lv_aload_n hx hb dL_law_923 rfl (lv_at hl 4 rfl) ?_
  refine kT_i (va_runV (As := []) (rest := []) CF (k_m_thrown l D bd kj _ μ1) ⟨callB_of 0 ht (gT0 mw_660) rfl rfl rfl (ht _ mw_6) (ht _ mw_657) (by decide +kernel) ⟨Nat.le_of_ble_eq_true rfl, Nat.le_of_ble_eq_true rfl⟩, (ht _ mw_658), (ht _ mw_659)⟩ (preV_N hK hP hD) rfl rfl hl.1 rfl (lv_room (Nat.le_of_ble_eq_true rfl)) dL_law_924 ⟨Nat.le_trans (by omega : cells + 2 + 0 ≤ 601024) (Nat.le_of_ble_eq_true rfl), Nat.le_trans (by omega : slots + 12 + 0 ≤ 7293034) (Nat.le_of_ble_eq_true rfl)⟩) hP hD hS (fun tv u9 H locs h9 hP hD hS => ?_)
  obtain ⟨h9, e9⟩ := h9
  rw [e9] at hP hD
  rw [show M_m_thrown μ1 = gF μ1 0 0 from rfl] at h9
  refine lv_iload hx hb dL_law_927 (lv_at hl 1 rfl) ?_
  refine lv_icmp_eq (tgt := 934) hx hb dL_law_929 (by decide) (fun c1 => ?_) (fun c1 => absurd (h9.trans h0r) c1)
  refine lv_iload hx hb dL_law_934 (lv_at hl 1 rfl) ?_
  refine lv_if_ne (tgt := 951) hx hb dL_law_936 (by decide) (fun c2 => ?_) (fun c2 => ?_)
  · skip
    refine lv_goto (tgt := 1344) hx hb dL_law_951 (by decide) ?_
    refine W.widen (k := cells + 6) (n := slots + 36) (by omega) (by omega) ?_
    exact K u.1 μ1 u.2 H locs ls hR1 hP hD hS (lv_sub hl [2, 3, 4, 5, 6] rfl)
  · have hb9 := hbr c2
    refine lv_aload_n hx hb dL_law_939 rfl (lv_at hl 5 rfl) ?_
    refine lv_iconst (v := 0) hx hb dL_law_940 (by decide) ?_
    refine va_lald (i := 0) hx hb hK hP 23 3 (out_at) rfl (vp_in_nI (n := 0) (by decide) (by decide)) dL_law_941 ?_
    refine lv_iload hx hb dL_law_942 (lv_at hl 0 rfl) ?_
    refine lv_i2l hx hb dL_law_944 rfl ?_
    have hq9 : u.2 (0 : Int32).toNatClampNeg = bv.toInt64 := hb9
    rw [hq9]
    refine W.lcmp hx hb dL_law_945 ?_
    rw [lc_eq]
    refine lv_if_eq (tgt := 951) hx hb dL_law_946 (by decide) (fun c3 => ?_) (fun c3 => absurd rfl c3)
    refine lv_goto (tgt := 1344) hx hb dL_law_951 (by decide) ?_
    refine W.widen (k := cells + 6) (n := slots + 36) (by omega) (by omega) ?_
    exact K u.1 μ1 u.2 H locs ls hR1 hP hD hS (lv_sub hl [2, 3, 4, 5, 6] rfl)
set_option maxHeartbeats 4000000 in
set_option maxRecDepth 100000 in
theorem lc_about {R : St → St → Prop} (hRB : ∀ σ μ, R σ μ → IB σ ∧ IM μ) {p : Program} {e : Env} {s : State} {m : MethodId} {below : List Frame} {meth : Method} {c : Code} (l : Launch) (hl9 : l.stackTraces = false) {b L : Nat} {xs : Nat → Int32} {Q : State → Prop} (hL : L ≤ 3072) (C0 : lw_At p s m meth c b L xs) {D : va_G} {kL : ClassId} {kk kj : Nat → ClassId} {qo : Nat} {ad bd : Nat → Nat} (hK : va_K D vwCl (tyT kj kL kk) s) (hE : EvW (LA s) s s.heap) {σ μ : St} {f : Nat → Int64} {i cells slots : Nat} {H : Heap} {locs : List Loc} {ls : Array Slot} (hR : R σ μ) (hsim : Sim R (tL σ (M_about σ (xs (i + 1)) (xs (i + 2)))) ["java/lang/IndexOutOfBoundsException"] σ (M_m_about μ (xs (i + 1)) (xs (i + 2))).1 (M_m_about μ (xs (i + 1)) (xs (i + 2))).2) (hi : i + 6 ≤ L) (hcl : cells + 6 ≤ 601024) (hsl : slots + 36 ≤ 7293034) (hP : va_P D vwCl (wT bd kj μ qo kL f ad kk σ) H) (hD : va_D (LA s) (wT bd kj μ qo kL f ad kk σ)) (hS : va_S (LA s) s.heap H locs) (hl : lv_has ls 8 [(0, .ref b), (1, .ref (ad 0)), (2, .ref (bd 0)), (3, .ref qo), (4, .int (nI i))])
    (K : ∀ (σ1 μ1 : St) (f1 : Nat → Int64) (H : Heap) (locs : List Loc) (ls : Array Slot), R σ1 μ1 → va_P D vwCl (wT bd kj μ1 qo kL f1 ad kk σ1) H → va_D (LA s) (wT bd kj μ1 qo kL f1 ad kk σ1) → va_S (LA s) s.heap H locs → lv_has ls 8 [(0, .ref b), (1, .ref (ad 0)), (2, .ref (bd 0)), (3, .ref qo), (4, .int (nI i))] → W p l e room_1 s m #[Value.ref b] below meth c H locs (cells + 6) (slots + 36) Q (F0 m 1344 ls ([]))) : W p l e room_1 s m #[Value.ref b] below meth c H locs cells slots Q (F0 m 954 ls ([])) := by
  obtain ⟨hx, hb, hr, hml, hown, hts, hX, hbl, hlocks, hgv⟩ := C0
  have ht : ∀ w ∈ T0, w.before #[Value.ref b] s = true := fun w h => hts w (T0_lw h)
  have CF : CallFix p m c code 8 s #[Value.ref b] T0 RL := ⟨hx, hb, hml, hown, ht⟩
  have hbA : ¬ LA s b := Nat.not_le.mpr hbl
  have hIB := (hRB σ μ hR).1
  have hIM := (hRB σ μ hR).2
  refine lv_aload_n hx hb dL_law_954 rfl (lv_at hl 1 rfl) ?_
  refine lv_aload_n hx hb dL_law_955 rfl (lv_at hl 0 rfl) ?_
  refine lv_iload hx hb dL_law_956 (lv_at hl 4 rfl) ?_
  refine lv_iconst (v := 1) hx hb dL_law_958 (by decide) ?_
  refine lv_iadd hx hb dL_law_959 ?_
  refine lv_topE (nI_add i 1) ?_
  refine va_sld hx hb hX hbl hbA hS (vp_in_nI (n := i + 1) (by omega) (by omega)) dL_law_960 ?_
  rw [nI_clamp (n := i + 1) (by omega)]
  refine lv_aload_n hx hb dL_law_961 rfl (lv_at hl 0 rfl) ?_
  refine lv_iload hx hb dL_law_962 (lv_at hl 4 rfl) ?_
  refine lv_iconst (v := 2) hx hb dL_law_964 (by decide) ?_
  refine lv_iadd hx hb dL_law_965 ?_
  refine lv_topE (nI_add i 2) ?_
  refine va_sld hx hb hX hbl hbA hS (vp_in_nI (n := i + 2) (by omega) (by omega)) dL_law_966 ?_
  rw [nI_clamp (n := i + 2) (by omega)]
  refine lv_aload_n hx hb dL_law_967 rfl (lv_at hl 3 rfl) ?_
  refine kT_w (vx_runSX (As := [.ref (ad 0), .int (xs (i + 1)), .int (xs (i + 2)), .ref qo]) (rest := []) CF (k_w_about l hl9 D qo kL ad kk _ f σ (xs (i + 1)) (xs (i + 2))) (csw (n := 4) ht mw_484 mw_482 mw_483 mw_0 rfl rfl (by decide +kernel) ⟨Nat.le_of_ble_eq_true rfl, Nat.le_of_ble_eq_true rfl⟩) (preS_T hK hP hD hE hS) rfl rfl hl.1 rfl (lv_room (Nat.le_of_ble_eq_true rfl)) dL_law_968 ⟨Nat.le_trans (by omega : cells + 2 ≤ 601024) (Nat.le_of_ble_eq_true rfl), Nat.le_trans (by omega : slots + 12 ≤ 7293034) (Nat.le_of_ble_eq_true rfl)⟩) hP hD hS (fun r u H locs hw hP hD hS => ?_)
  obtain ⟨h0r, hbr, hR1⟩ := simw (by decide) hsim hw
  refine lv_istore (lv' := [(5, .int r), (0, .ref b), (1, .ref (ad 0)), (2, .ref (bd 0)), (3, .ref qo), (4, .int (nI i))]) hx hb dL_law_971 hl (by decide) rfl (fun ls hl => ?_)
  refine lv_aload_n hx hb dL_law_973 rfl (lv_at hl 3 rfl) ?_
  refine lv_aload_n hx hb dL_law_974 rfl (lv_at hl 1 rfl) ?_
  refine lv_iload hx hb dL_law_975 (lv_at hl 5 rfl) ?_
  refine lv_iconst (v := 1) hx hb dL_law_977 (by decide) ?_
  refine lv_iadd hx hb dL_law_978 ?_
  refine lv_topE (nI_add i 1) ?_
  refine va_sld hx hb hX hbl hbA hS (vp_in_nI (n := i + 1) (by omega) (by omega)) dL_law_979 ?_
  rw [nI_clamp (n := i + 1) (by omega)]
  refine lv_aload_n hx hb dL_law_980 rfl (lv_at hl 1 rfl) ?_
  refine lv_iload hx hb dL_law_981 (lv_at hl 5 rfl) ?_
  refine lv_iconst (v := 2) hx hb dL_law_983 (by decide) ?_
  refine lv_iadd hx hb dL_law_984 ?_
  refine lv_topE (nI_add i 2) ?_
  refine va_sld hx hb hX hbl hbA hS (vp_in_nI (n := i + 2) (by omega) (by omega)) dL_law_985 ?_
  rw [nI_clamp (n := i + 2) (by omega)]
  refine kT_l (va_runV (As := [.int (xs (i + 1)), .int (xs (i + 2))]) (rest := []) CF (k_m_about l D bd kj _ μ (xs (i + 1)) (xs (i + 2)) hIM) ⟨callB_of 2 ht (gT0 mw_766) rfl rfl rfl (ht _ mw_6) (ht _ mw_763) (by decide +kernel) ⟨Nat.le_of_ble_eq_true rfl, Nat.le_of_ble_eq_true rfl⟩, (ht _ mw_764), (ht _ mw_765)⟩ (preV_N hK hP hD) rfl rfl hl.1 rfl (lv_room (Nat.le_of_ble_eq_true rfl)) dL_law_986 ⟨Nat.le_trans (by omega : cells + 2 + 0 ≤ 601024) (Nat.le_of_ble_eq_true rfl), Nat.le_trans (by omega : slots + 12 + 0 ≤ 7293034) (Nat.le_of_ble_eq_true rfl)⟩) hP hD hS (fun bv μ1 H locs hm hP hD hS => ?_)
  rw [← hm] at h0r hbr hR1
  refine lv_lstore (lv' := [(6, .long bv), (5, .int r), (0, .ref b), (1, .ref (ad 0)), (2, .ref (bd 0)), (3, .ref qo), (4, .int (nI i))]) hx hb dL_law_989 hl (by decide) rfl (fun ls hl => ?_)
  refine lv_aload_n hx hb dL_law_991 rfl (lv_at hl 4 rfl) ?_
  refine kT_i (va_runV (As := []) (rest := []) CF (k_m_thrown l D bd kj _ μ1) ⟨callB_of 0 ht (gT0 mw_660) rfl rfl rfl (ht _ mw_6) (ht _ mw_657) (by decide +kernel) ⟨Nat.le_of_ble_eq_true rfl, Nat.le_of_ble_eq_true rfl⟩, (ht _ mw_658), (ht _ mw_659)⟩ (preV_N hK hP hD) rfl rfl hl.1 rfl (lv_room (Nat.le_of_ble_eq_true rfl)) dL_law_992 ⟨Nat.le_trans (by omega : cells + 2 + 0 ≤ 601024) (Nat.le_of_ble_eq_true rfl), Nat.le_trans (by omega : slots + 12 + 0 ≤ 7293034) (Nat.le_of_ble_eq_true rfl)⟩) hP hD hS (fun tv u9 H locs h9 hP hD hS => ?_)
  obtain ⟨h9, e9⟩ := h9
  rw [e9] at hP hD
  rw [show M_m_thrown μ1 = gF μ1 0 0 from rfl] at h9
  refine lv_iload hx hb dL_law_995 (lv_at hl 1 rfl) ?_
  refine lv_icmp_eq (tgt := 1002) hx hb dL_law_997 (by decide) (fun c1 => ?_) (fun c1 => absurd (h9.trans h0r) c1)
  refine lv_iload hx hb dL_law_1002 (lv_at hl 1 rfl) ?_
  refine lv_if_ne (tgt := 1018) hx hb dL_law_1004 (by decide) (fun c2 => ?_) (fun c2 => ?_)
  · skip
    refine lv_goto (tgt := 1344) hx hb dL_law_1018 (by decide) ?_
    refine W.widen (k := cells + 6) (n := slots + 36) (by omega) (by omega) ?_
    exact K u.1 μ1 u.2 H locs ls hR1 hP hD hS (lv_sub hl [2, 3, 4, 5, 6] rfl)
  · have hb9 := hbr c2
    refine lv_aload_n hx hb dL_law_1007 rfl (lv_at hl 5 rfl) ?_
    refine lv_iconst (v := 0) hx hb dL_law_1008 (by decide) ?_
    refine va_lald (i := 0) hx hb hK hP 23 3 (out_at) rfl (vp_in_nI (n := 0) (by decide) (by decide)) dL_law_1009 ?_
    refine lv_lload hx hb dL_law_1010 (lv_at hl 0 rfl) ?_
    have hq9 : u.2 (0 : Int32).toNatClampNeg = bv := hb9
    rw [hq9]
    refine W.lcmp hx hb dL_law_1012 ?_
    rw [lc_eq]
    refine lv_if_eq (tgt := 1018) hx hb dL_law_1013 (by decide) (fun c3 => ?_) (fun c3 => absurd rfl c3)
    refine lv_goto (tgt := 1344) hx hb dL_law_1018 (by decide) ?_
    refine W.widen (k := cells + 6) (n := slots + 36) (by omega) (by omega) ?_
    exact K u.1 μ1 u.2 H locs ls hR1 hP hD hS (lv_sub hl [2, 3, 4, 5, 6] rfl)
set_option maxHeartbeats 4000000 in
set_option maxRecDepth 100000 in
theorem lc_apart {R : St → St → Prop} (hRB : ∀ σ μ, R σ μ → IB σ ∧ IM μ) {p : Program} {e : Env} {s : State} {m : MethodId} {below : List Frame} {meth : Method} {c : Code} (l : Launch) (hl9 : l.stackTraces = false) {b L : Nat} {xs : Nat → Int32} {Q : State → Prop} (hL : L ≤ 3072) (C0 : lw_At p s m meth c b L xs) {D : va_G} {kL : ClassId} {kk kj : Nat → ClassId} {qo : Nat} {ad bd : Nat → Nat} (hK : va_K D vwCl (tyT kj kL kk) s) (hE : EvW (LA s) s s.heap) {σ μ : St} {f : Nat → Int64} {i cells slots : Nat} {H : Heap} {locs : List Loc} {ls : Array Slot} (hR : R σ μ) (hsim : Sim R (tZ (M_apart σ (xs (i + 1)) (xs (i + 2)))) ["java/lang/IndexOutOfBoundsException"] σ (if (M_m_apart μ (xs (i + 1)) (xs (i + 2))).1 = 0 then 0 else 1) (M_m_apart μ (xs (i + 1)) (xs (i + 2))).2) (hi : i + 6 ≤ L) (hcl : cells + 6 ≤ 601024) (hsl : slots + 36 ≤ 7293034) (hP : va_P D vwCl (wT bd kj μ qo kL f ad kk σ) H) (hD : va_D (LA s) (wT bd kj μ qo kL f ad kk σ)) (hS : va_S (LA s) s.heap H locs) (hl : lv_has ls 8 [(0, .ref b), (1, .ref (ad 0)), (2, .ref (bd 0)), (3, .ref qo), (4, .int (nI i))])
    (K : ∀ (σ1 μ1 : St) (f1 : Nat → Int64) (H : Heap) (locs : List Loc) (ls : Array Slot), R σ1 μ1 → va_P D vwCl (wT bd kj μ1 qo kL f1 ad kk σ1) H → va_D (LA s) (wT bd kj μ1 qo kL f1 ad kk σ1) → va_S (LA s) s.heap H locs → lv_has ls 8 [(0, .ref b), (1, .ref (ad 0)), (2, .ref (bd 0)), (3, .ref qo), (4, .int (nI i))] → W p l e room_1 s m #[Value.ref b] below meth c H locs (cells + 6) (slots + 36) Q (F0 m 1344 ls ([]))) : W p l e room_1 s m #[Value.ref b] below meth c H locs cells slots Q (F0 m 1021 ls ([])) := by
  obtain ⟨hx, hb, hr, hml, hown, hts, hX, hbl, hlocks, hgv⟩ := C0
  have ht : ∀ w ∈ T0, w.before #[Value.ref b] s = true := fun w h => hts w (T0_lw h)
  have CF : CallFix p m c code 8 s #[Value.ref b] T0 RL := ⟨hx, hb, hml, hown, ht⟩
  have hbA : ¬ LA s b := Nat.not_le.mpr hbl
  have hIB := (hRB σ μ hR).1
  have hIM := (hRB σ μ hR).2
  refine lv_aload_n hx hb dL_law_1021 rfl (lv_at hl 1 rfl) ?_
  refine lv_aload_n hx hb dL_law_1022 rfl (lv_at hl 0 rfl) ?_
  refine lv_iload hx hb dL_law_1023 (lv_at hl 4 rfl) ?_
  refine lv_iconst (v := 1) hx hb dL_law_1025 (by decide) ?_
  refine lv_iadd hx hb dL_law_1026 ?_
  refine lv_topE (nI_add i 1) ?_
  refine va_sld hx hb hX hbl hbA hS (vp_in_nI (n := i + 1) (by omega) (by omega)) dL_law_1027 ?_
  rw [nI_clamp (n := i + 1) (by omega)]
  refine lv_aload_n hx hb dL_law_1028 rfl (lv_at hl 0 rfl) ?_
  refine lv_iload hx hb dL_law_1029 (lv_at hl 4 rfl) ?_
  refine lv_iconst (v := 2) hx hb dL_law_1031 (by decide) ?_
  refine lv_iadd hx hb dL_law_1032 ?_
  refine lv_topE (nI_add i 2) ?_
  refine va_sld hx hb hX hbl hbA hS (vp_in_nI (n := i + 2) (by omega) (by omega)) dL_law_1033 ?_
  rw [nI_clamp (n := i + 2) (by omega)]
  refine lv_aload_n hx hb dL_law_1034 rfl (lv_at hl 3 rfl) ?_
  refine kT_w (vx_runSX (As := [.ref (ad 0), .int (xs (i + 1)), .int (xs (i + 2)), .ref qo]) (rest := []) CF (k_w_apart l hl9 D qo kL ad kk _ f σ (xs (i + 1)) (xs (i + 2))) (csw (n := 4) ht mw_492 mw_490 mw_491 mw_0 rfl rfl (by decide +kernel) ⟨Nat.le_of_ble_eq_true rfl, Nat.le_of_ble_eq_true rfl⟩) (preS_T hK hP hD hE hS) rfl rfl hl.1 rfl (lv_room (Nat.le_of_ble_eq_true rfl)) dL_law_1035 ⟨Nat.le_trans (by omega : cells + 2 ≤ 601024) (Nat.le_of_ble_eq_true rfl), Nat.le_trans (by omega : slots + 12 ≤ 7293034) (Nat.le_of_ble_eq_true rfl)⟩) hP hD hS (fun r u H locs hw hP hD hS => ?_)
  obtain ⟨h0r, hbr, hR1⟩ := simw (by decide) hsim hw
  refine lv_istore (lv' := [(5, .int r), (0, .ref b), (1, .ref (ad 0)), (2, .ref (bd 0)), (3, .ref qo), (4, .int (nI i))]) hx hb dL_law_1038 hl (by decide) rfl (fun ls hl => ?_)
  refine lv_aload_n hx hb dL_law_1040 rfl (lv_at hl 3 rfl) ?_
  refine lv_aload_n hx hb dL_law_1041 rfl (lv_at hl 1 rfl) ?_
  refine lv_iload hx hb dL_law_1042 (lv_at hl 5 rfl) ?_
  refine lv_iconst (v := 1) hx hb dL_law_1044 (by decide) ?_
  refine lv_iadd hx hb dL_law_1045 ?_
  refine lv_topE (nI_add i 1) ?_
  refine va_sld hx hb hX hbl hbA hS (vp_in_nI (n := i + 1) (by omega) (by omega)) dL_law_1046 ?_
  rw [nI_clamp (n := i + 1) (by omega)]
  refine lv_aload_n hx hb dL_law_1047 rfl (lv_at hl 1 rfl) ?_
  refine lv_iload hx hb dL_law_1048 (lv_at hl 5 rfl) ?_
  refine lv_iconst (v := 2) hx hb dL_law_1050 (by decide) ?_
  refine lv_iadd hx hb dL_law_1051 ?_
  refine lv_topE (nI_add i 2) ?_
  refine va_sld hx hb hX hbl hbA hS (vp_in_nI (n := i + 2) (by omega) (by omega)) dL_law_1052 ?_
  rw [nI_clamp (n := i + 2) (by omega)]
  refine kT_i (va_runV (As := [.int (xs (i + 1)), .int (xs (i + 2))]) (rest := []) CF (k_m_apart l D bd kj _ μ (xs (i + 1)) (xs (i + 2)) hIM) ⟨callB_of 2 ht (gT0 mw_770) rfl rfl rfl (ht _ mw_6) (ht _ mw_767) (by decide +kernel) ⟨Nat.le_of_ble_eq_true rfl, Nat.le_of_ble_eq_true rfl⟩, (ht _ mw_768), (ht _ mw_769)⟩ (preV_N hK hP hD) rfl rfl hl.1 rfl (lv_room (Nat.le_of_ble_eq_true rfl)) dL_law_1053 ⟨Nat.le_trans (by omega : cells + 2 + 0 ≤ 601024) (Nat.le_of_ble_eq_true rfl), Nat.le_trans (by omega : slots + 12 + 0 ≤ 7293034) (Nat.le_of_ble_eq_true rfl)⟩) hP hD hS (fun bv μ1 H locs hm hP hD hS => ?_)
  rw [← hm] at h0r hbr hR1
  refine lv_istore (lv' := [(6, .int bv), (5, .int r), (0, .ref b), (1, .ref (ad 0)), (2, .ref (bd 0)), (3, .ref qo), (4, .int (nI i))]) hx hb dL_law_1056 hl (by decide) rfl (fun ls hl => ?_)
  refine lv_aload_n hx hb dL_law_1058 rfl (lv_at hl 4 rfl) ?_
  refine kT_i (va_runV (As := []) (rest := []) CF (k_m_thrown l D bd kj _ μ1) ⟨callB_of 0 ht (gT0 mw_660) rfl rfl rfl (ht _ mw_6) (ht _ mw_657) (by decide +kernel) ⟨Nat.le_of_ble_eq_true rfl, Nat.le_of_ble_eq_true rfl⟩, (ht _ mw_658), (ht _ mw_659)⟩ (preV_N hK hP hD) rfl rfl hl.1 rfl (lv_room (Nat.le_of_ble_eq_true rfl)) dL_law_1059 ⟨Nat.le_trans (by omega : cells + 2 + 0 ≤ 601024) (Nat.le_of_ble_eq_true rfl), Nat.le_trans (by omega : slots + 12 + 0 ≤ 7293034) (Nat.le_of_ble_eq_true rfl)⟩) hP hD hS (fun tv u9 H locs h9 hP hD hS => ?_)
  obtain ⟨h9, e9⟩ := h9
  rw [e9] at hP hD
  rw [show M_m_thrown μ1 = gF μ1 0 0 from rfl] at h9
  refine lv_iload hx hb dL_law_1062 (lv_at hl 1 rfl) ?_
  refine lv_icmp_eq (tgt := 1069) hx hb dL_law_1064 (by decide) (fun c1 => ?_) (fun c1 => absurd (h9.trans h0r) c1)
  refine lv_iload hx hb dL_law_1069 (lv_at hl 1 rfl) ?_
  refine lv_if_ne (tgt := 1093) hx hb dL_law_1071 (by decide) (fun c2 => ?_) (fun c2 => ?_)
  · skip
    refine lv_goto (tgt := 1344) hx hb dL_law_1093 (by decide) ?_
    refine W.widen (k := cells + 6) (n := slots + 36) (by omega) (by omega) ?_
    exact K u.1 μ1 u.2 H locs ls hR1 hP hD hS (lv_sub hl [2, 3, 4, 5, 6] rfl)
  · have hb9 := hbr c2
    refine lv_aload_n hx hb dL_law_1074 rfl (lv_at hl 5 rfl) ?_
    refine lv_iconst (v := 0) hx hb dL_law_1075 (by decide) ?_
    refine va_lald (i := 0) hx hb hK hP 23 3 (out_at) rfl (vp_in_nI (n := 0) (by decide) (by decide)) dL_law_1076 ?_
    refine lv_iload hx hb dL_law_1077 (lv_at hl 0 rfl) ?_
    refine lv_if_eq (tgt := 1086) hx hb dL_law_1079 (by decide) (fun c4 => ?_) (fun c4 => ?_)
    · refine lv_lconst (v := 0) hx hb dL_law_1086 (by decide) ?_
      have hq9 : u.2 (0 : Int32).toNatClampNeg = 0 := (hb9.trans (if_pos c4))
      rw [hq9]
      refine W.lcmp hx hb dL_law_1087 ?_
      rw [lc_eq]
      refine lv_if_eq (tgt := 1093) hx hb dL_law_1088 (by decide) (fun c3 => ?_) (fun c3 => absurd rfl c3)
      refine lv_goto (tgt := 1344) hx hb dL_law_1093 (by decide) ?_
      refine W.widen (k := cells + 6) (n := slots + 36) (by omega) (by omega) ?_
      exact K u.1 μ1 u.2 H locs ls hR1 hP hD hS (lv_sub hl [2, 3, 4, 5, 6] rfl)
    · refine lv_lconst (v := 1) hx hb dL_law_1082 (by decide) ?_
      refine lv_goto (tgt := 1087) hx hb dL_law_1083 (by decide) ?_
      have hq9 : u.2 (0 : Int32).toNatClampNeg = 1 := (hb9.trans (if_neg c4))
      rw [hq9]
      refine W.lcmp hx hb dL_law_1087 ?_
      rw [lc_eq]
      refine lv_if_eq (tgt := 1093) hx hb dL_law_1088 (by decide) (fun c3 => ?_) (fun c3 => absurd rfl c3)
      refine lv_goto (tgt := 1344) hx hb dL_law_1093 (by decide) ?_
      refine W.widen (k := cells + 6) (n := slots + 36) (by omega) (by omega) ?_
      exact K u.1 μ1 u.2 H locs ls hR1 hP hD hS (lv_sub hl [2, 3, 4, 5, 6] rfl)
set_option maxHeartbeats 4000000 in
set_option maxRecDepth 100000 in
theorem lc_put {R : St → St → Prop} (hRB : ∀ σ μ, R σ μ → IB σ ∧ IM μ) {p : Program} {e : Env} {s : State} {m : MethodId} {below : List Frame} {meth : Method} {c : Code} (l : Launch) (hl9 : l.stackTraces = false) {b L : Nat} {xs : Nat → Int32} {Q : State → Prop} (hL : L ≤ 3072) (C0 : lw_At p s m meth c b L xs) {D : va_G} {kL : ClassId} {kk kj : Nat → ClassId} {qo : Nat} {ad bd : Nat → Nat} (hK : va_K D vwCl (tyT kj kL kk) s) (hE : EvW (LA s) s s.heap) {σ μ : St} {f : Nat → Int64} {i cells slots : Nat} {H : Heap} {locs : List Loc} {ls : Array Slot} (hR : R σ μ) (hsim : Sim R (tI (M_put σ (xs (i + 1)) (xs (i + 2)))) ["java/lang/IndexOutOfBoundsException"] σ (M_m_put μ (xs (i + 1)) (xs (i + 2))).1.toInt64 (M_m_put μ (xs (i + 1)) (xs (i + 2))).2) (hi : i + 6 ≤ L) (hcl : cells + 6 ≤ 601024) (hsl : slots + 36 ≤ 7293034) (hP : va_P D vwCl (wT bd kj μ qo kL f ad kk σ) H) (hD : va_D (LA s) (wT bd kj μ qo kL f ad kk σ)) (hS : va_S (LA s) s.heap H locs) (hl : lv_has ls 8 [(0, .ref b), (1, .ref (ad 0)), (2, .ref (bd 0)), (3, .ref qo), (4, .int (nI i))])
    (K : ∀ (σ1 μ1 : St) (f1 : Nat → Int64) (H : Heap) (locs : List Loc) (ls : Array Slot), R σ1 μ1 → va_P D vwCl (wT bd kj μ1 qo kL f1 ad kk σ1) H → va_D (LA s) (wT bd kj μ1 qo kL f1 ad kk σ1) → va_S (LA s) s.heap H locs → lv_has ls 8 [(0, .ref b), (1, .ref (ad 0)), (2, .ref (bd 0)), (3, .ref qo), (4, .int (nI i))] → W p l e room_1 s m #[Value.ref b] below meth c H locs (cells + 6) (slots + 36) Q (F0 m 1344 ls ([]))) : W p l e room_1 s m #[Value.ref b] below meth c H locs cells slots Q (F0 m 1096 ls ([])) := by
  obtain ⟨hx, hb, hr, hml, hown, hts, hX, hbl, hlocks, hgv⟩ := C0
  have ht : ∀ w ∈ T0, w.before #[Value.ref b] s = true := fun w h => hts w (T0_lw h)
  have CF : CallFix p m c code 8 s #[Value.ref b] T0 RL := ⟨hx, hb, hml, hown, ht⟩
  have hbA : ¬ LA s b := Nat.not_le.mpr hbl
  have hIB := (hRB σ μ hR).1
  have hIM := (hRB σ μ hR).2
  refine lv_aload_n hx hb dL_law_1096 rfl (lv_at hl 1 rfl) ?_
  refine lv_aload_n hx hb dL_law_1097 rfl (lv_at hl 0 rfl) ?_
  refine lv_iload hx hb dL_law_1098 (lv_at hl 4 rfl) ?_
  refine lv_iconst (v := 1) hx hb dL_law_1100 (by decide) ?_
  refine lv_iadd hx hb dL_law_1101 ?_
  refine lv_topE (nI_add i 1) ?_
  refine va_sld hx hb hX hbl hbA hS (vp_in_nI (n := i + 1) (by omega) (by omega)) dL_law_1102 ?_
  rw [nI_clamp (n := i + 1) (by omega)]
  refine lv_aload_n hx hb dL_law_1103 rfl (lv_at hl 0 rfl) ?_
  refine lv_iload hx hb dL_law_1104 (lv_at hl 4 rfl) ?_
  refine lv_iconst (v := 2) hx hb dL_law_1106 (by decide) ?_
  refine lv_iadd hx hb dL_law_1107 ?_
  refine lv_topE (nI_add i 2) ?_
  refine va_sld hx hb hX hbl hbA hS (vp_in_nI (n := i + 2) (by omega) (by omega)) dL_law_1108 ?_
  rw [nI_clamp (n := i + 2) (by omega)]
  refine lv_aload_n hx hb dL_law_1109 rfl (lv_at hl 3 rfl) ?_
  refine kT_w (vx_runSX (As := [.ref (ad 0), .int (xs (i + 1)), .int (xs (i + 2)), .ref qo]) (rest := []) CF (k_w_put l hl9 D qo kL ad kk _ f σ (xs (i + 1)) (xs (i + 2))) (csw (n := 4) ht mw_499 mw_497 mw_498 mw_0 rfl rfl (by decide +kernel) ⟨Nat.le_of_ble_eq_true rfl, Nat.le_of_ble_eq_true rfl⟩) (preS_T hK hP hD hE hS) rfl rfl hl.1 rfl (lv_room (Nat.le_of_ble_eq_true rfl)) dL_law_1110 ⟨Nat.le_trans (by omega : cells + 2 ≤ 601024) (Nat.le_of_ble_eq_true rfl), Nat.le_trans (by omega : slots + 12 ≤ 7293034) (Nat.le_of_ble_eq_true rfl)⟩) hP hD hS (fun r u H locs hw hP hD hS => ?_)
  obtain ⟨h0r, hbr, hR1⟩ := simw (by decide) hsim hw
  refine lv_istore (lv' := [(5, .int r), (0, .ref b), (1, .ref (ad 0)), (2, .ref (bd 0)), (3, .ref qo), (4, .int (nI i))]) hx hb dL_law_1113 hl (by decide) rfl (fun ls hl => ?_)
  refine lv_aload_n hx hb dL_law_1115 rfl (lv_at hl 3 rfl) ?_
  refine lv_aload_n hx hb dL_law_1116 rfl (lv_at hl 1 rfl) ?_
  refine lv_iload hx hb dL_law_1117 (lv_at hl 5 rfl) ?_
  refine lv_iconst (v := 1) hx hb dL_law_1119 (by decide) ?_
  refine lv_iadd hx hb dL_law_1120 ?_
  refine lv_topE (nI_add i 1) ?_
  refine va_sld hx hb hX hbl hbA hS (vp_in_nI (n := i + 1) (by omega) (by omega)) dL_law_1121 ?_
  rw [nI_clamp (n := i + 1) (by omega)]
  refine lv_aload_n hx hb dL_law_1122 rfl (lv_at hl 1 rfl) ?_
  refine lv_iload hx hb dL_law_1123 (lv_at hl 5 rfl) ?_
  refine lv_iconst (v := 2) hx hb dL_law_1125 (by decide) ?_
  refine lv_iadd hx hb dL_law_1126 ?_
  refine lv_topE (nI_add i 2) ?_
  refine va_sld hx hb hX hbl hbA hS (vp_in_nI (n := i + 2) (by omega) (by omega)) dL_law_1127 ?_
  rw [nI_clamp (n := i + 2) (by omega)]
  refine kT_i (va_runV (As := [.int (xs (i + 1)), .int (xs (i + 2))]) (rest := []) CF (k_m_put l D bd kj _ μ (xs (i + 1)) (xs (i + 2)) hIM) ⟨callB_of 2 ht (gT0 mw_774) rfl rfl rfl (ht _ mw_6) (ht _ mw_771) (by decide +kernel) ⟨Nat.le_of_ble_eq_true rfl, Nat.le_of_ble_eq_true rfl⟩, (ht _ mw_772), (ht _ mw_773)⟩ (preV_N hK hP hD) rfl rfl hl.1 rfl (lv_room (Nat.le_of_ble_eq_true rfl)) dL_law_1128 ⟨Nat.le_trans (by omega : cells + 2 + 0 ≤ 601024) (Nat.le_of_ble_eq_true rfl), Nat.le_trans (by omega : slots + 12 + 0 ≤ 7293034) (Nat.le_of_ble_eq_true rfl)⟩) hP hD hS (fun bv μ1 H locs hm hP hD hS => ?_)
  rw [← hm] at h0r hbr hR1
  refine lv_istore (lv' := [(6, .int bv), (5, .int r), (0, .ref b), (1, .ref (ad 0)), (2, .ref (bd 0)), (3, .ref qo), (4, .int (nI i))]) hx hb dL_law_1131 hl (by decide) rfl (fun ls hl => ?_)
  refine lv_aload_n hx hb dL_law_1133 rfl (lv_at hl 4 rfl) ?_
  refine kT_i (va_runV (As := []) (rest := []) CF (k_m_thrown l D bd kj _ μ1) ⟨callB_of 0 ht (gT0 mw_660) rfl rfl rfl (ht _ mw_6) (ht _ mw_657) (by decide +kernel) ⟨Nat.le_of_ble_eq_true rfl, Nat.le_of_ble_eq_true rfl⟩, (ht _ mw_658), (ht _ mw_659)⟩ (preV_N hK hP hD) rfl rfl hl.1 rfl (lv_room (Nat.le_of_ble_eq_true rfl)) dL_law_1134 ⟨Nat.le_trans (by omega : cells + 2 + 0 ≤ 601024) (Nat.le_of_ble_eq_true rfl), Nat.le_trans (by omega : slots + 12 + 0 ≤ 7293034) (Nat.le_of_ble_eq_true rfl)⟩) hP hD hS (fun tv u9 H locs h9 hP hD hS => ?_)
  obtain ⟨h9, e9⟩ := h9
  rw [e9] at hP hD
  rw [show M_m_thrown μ1 = gF μ1 0 0 from rfl] at h9
  refine lv_iload hx hb dL_law_1137 (lv_at hl 1 rfl) ?_
  refine lv_icmp_eq (tgt := 1144) hx hb dL_law_1139 (by decide) (fun c1 => ?_) (fun c1 => absurd (h9.trans h0r) c1)
  refine lv_iload hx hb dL_law_1144 (lv_at hl 1 rfl) ?_
  refine lv_if_ne (tgt := 1161) hx hb dL_law_1146 (by decide) (fun c2 => ?_) (fun c2 => ?_)
  · skip
    refine lv_goto (tgt := 1344) hx hb dL_law_1161 (by decide) ?_
    refine W.widen (k := cells + 6) (n := slots + 36) (by omega) (by omega) ?_
    exact K u.1 μ1 u.2 H locs ls hR1 hP hD hS (lv_sub hl [2, 3, 4, 5, 6] rfl)
  · have hb9 := hbr c2
    refine lv_aload_n hx hb dL_law_1149 rfl (lv_at hl 5 rfl) ?_
    refine lv_iconst (v := 0) hx hb dL_law_1150 (by decide) ?_
    refine va_lald (i := 0) hx hb hK hP 23 3 (out_at) rfl (vp_in_nI (n := 0) (by decide) (by decide)) dL_law_1151 ?_
    refine lv_iload hx hb dL_law_1152 (lv_at hl 0 rfl) ?_
    refine lv_i2l hx hb dL_law_1154 rfl ?_
    have hq9 : u.2 (0 : Int32).toNatClampNeg = bv.toInt64 := hb9
    rw [hq9]
    refine W.lcmp hx hb dL_law_1155 ?_
    rw [lc_eq]
    refine lv_if_eq (tgt := 1161) hx hb dL_law_1156 (by decide) (fun c3 => ?_) (fun c3 => absurd rfl c3)
    refine lv_goto (tgt := 1344) hx hb dL_law_1161 (by decide) ?_
    refine W.widen (k := cells + 6) (n := slots + 36) (by omega) (by omega) ?_
    exact K u.1 μ1 u.2 H locs ls hR1 hP hD hS (lv_sub hl [2, 3, 4, 5, 6] rfl)
set_option maxHeartbeats 4000000 in
set_option maxRecDepth 100000 in
theorem lc_plan {R : St → St → Prop} (hRB : ∀ σ μ, R σ μ → IB σ ∧ IM μ) {p : Program} {e : Env} {s : State} {m : MethodId} {below : List Frame} {meth : Method} {c : Code} (l : Launch) (hl9 : l.stackTraces = false) {b L : Nat} {xs : Nat → Int32} {Q : State → Prop} (hL : L ≤ 3072) (C0 : lw_At p s m meth c b L xs) {D : va_G} {kL : ClassId} {kk kj : Nat → ClassId} {qo : Nat} {ad bd : Nat → Nat} (hK : va_K D vwCl (tyT kj kL kk) s) (hE : EvW (LA s) s s.heap) {σ μ : St} {f : Nat → Int64} {i cells slots : Nat} {H : Heap} {locs : List Loc} {ls : Array Slot} (hR : R σ μ) (hsim : Sim R (tI (M_plan σ (xs (i + 1)) (xs (i + 2)))) ["java/lang/IndexOutOfBoundsException"] σ (M_m_plan μ (xs (i + 1)) (xs (i + 2))).1.toInt64 (M_m_plan μ (xs (i + 1)) (xs (i + 2))).2) (hi : i + 6 ≤ L) (hcl : cells + 6 ≤ 601024) (hsl : slots + 36 ≤ 7293034) (hP : va_P D vwCl (wT bd kj μ qo kL f ad kk σ) H) (hD : va_D (LA s) (wT bd kj μ qo kL f ad kk σ)) (hS : va_S (LA s) s.heap H locs) (hl : lv_has ls 8 [(0, .ref b), (1, .ref (ad 0)), (2, .ref (bd 0)), (3, .ref qo), (4, .int (nI i))])
    (K : ∀ (σ1 μ1 : St) (f1 : Nat → Int64) (H : Heap) (locs : List Loc) (ls : Array Slot), R σ1 μ1 → va_P D vwCl (wT bd kj μ1 qo kL f1 ad kk σ1) H → va_D (LA s) (wT bd kj μ1 qo kL f1 ad kk σ1) → va_S (LA s) s.heap H locs → lv_has ls 8 [(0, .ref b), (1, .ref (ad 0)), (2, .ref (bd 0)), (3, .ref qo), (4, .int (nI i))] → W p l e room_1 s m #[Value.ref b] below meth c H locs (cells + 6) (slots + 36) Q (F0 m 1344 ls ([]))) : W p l e room_1 s m #[Value.ref b] below meth c H locs cells slots Q (F0 m 1164 ls ([])) := by
  obtain ⟨hx, hb, hr, hml, hown, hts, hX, hbl, hlocks, hgv⟩ := C0
  have ht : ∀ w ∈ T0, w.before #[Value.ref b] s = true := fun w h => hts w (T0_lw h)
  have CF : CallFix p m c code 8 s #[Value.ref b] T0 RL := ⟨hx, hb, hml, hown, ht⟩
  have hbA : ¬ LA s b := Nat.not_le.mpr hbl
  have hIB := (hRB σ μ hR).1
  have hIM := (hRB σ μ hR).2
  refine lv_aload_n hx hb dL_law_1164 rfl (lv_at hl 1 rfl) ?_
  refine lv_aload_n hx hb dL_law_1165 rfl (lv_at hl 0 rfl) ?_
  refine lv_iload hx hb dL_law_1166 (lv_at hl 4 rfl) ?_
  refine lv_iconst (v := 1) hx hb dL_law_1168 (by decide) ?_
  refine lv_iadd hx hb dL_law_1169 ?_
  refine lv_topE (nI_add i 1) ?_
  refine va_sld hx hb hX hbl hbA hS (vp_in_nI (n := i + 1) (by omega) (by omega)) dL_law_1170 ?_
  rw [nI_clamp (n := i + 1) (by omega)]
  refine lv_aload_n hx hb dL_law_1171 rfl (lv_at hl 0 rfl) ?_
  refine lv_iload hx hb dL_law_1172 (lv_at hl 4 rfl) ?_
  refine lv_iconst (v := 2) hx hb dL_law_1174 (by decide) ?_
  refine lv_iadd hx hb dL_law_1175 ?_
  refine lv_topE (nI_add i 2) ?_
  refine va_sld hx hb hX hbl hbA hS (vp_in_nI (n := i + 2) (by omega) (by omega)) dL_law_1176 ?_
  rw [nI_clamp (n := i + 2) (by omega)]
  refine lv_aload_n hx hb dL_law_1177 rfl (lv_at hl 3 rfl) ?_
  refine kT_w (vx_runSX (As := [.ref (ad 0), .int (xs (i + 1)), .int (xs (i + 2)), .ref qo]) (rest := []) CF (k_w_plan l hl9 D qo kL ad kk _ f σ (xs (i + 1)) (xs (i + 2)) hIB) (csw (n := 4) ht mw_510 mw_508 mw_509 mw_0 rfl rfl (by decide +kernel) ⟨Nat.le_of_ble_eq_true rfl, Nat.le_of_ble_eq_true rfl⟩) (preS_T hK hP hD hE hS) rfl rfl hl.1 rfl (lv_room (Nat.le_of_ble_eq_true rfl)) dL_law_1178 ⟨Nat.le_trans (by omega : cells + 2 ≤ 601024) (Nat.le_of_ble_eq_true rfl), Nat.le_trans (by omega : slots + 12 ≤ 7293034) (Nat.le_of_ble_eq_true rfl)⟩) hP hD hS (fun r u H locs hw hP hD hS => ?_)
  obtain ⟨h0r, hbr, hR1⟩ := simw (by decide) hsim hw
  refine lv_istore (lv' := [(5, .int r), (0, .ref b), (1, .ref (ad 0)), (2, .ref (bd 0)), (3, .ref qo), (4, .int (nI i))]) hx hb dL_law_1181 hl (by decide) rfl (fun ls hl => ?_)
  refine lv_aload_n hx hb dL_law_1183 rfl (lv_at hl 3 rfl) ?_
  refine lv_aload_n hx hb dL_law_1184 rfl (lv_at hl 1 rfl) ?_
  refine lv_iload hx hb dL_law_1185 (lv_at hl 5 rfl) ?_
  refine lv_iconst (v := 1) hx hb dL_law_1187 (by decide) ?_
  refine lv_iadd hx hb dL_law_1188 ?_
  refine lv_topE (nI_add i 1) ?_
  refine va_sld hx hb hX hbl hbA hS (vp_in_nI (n := i + 1) (by omega) (by omega)) dL_law_1189 ?_
  rw [nI_clamp (n := i + 1) (by omega)]
  refine lv_aload_n hx hb dL_law_1190 rfl (lv_at hl 1 rfl) ?_
  refine lv_iload hx hb dL_law_1191 (lv_at hl 5 rfl) ?_
  refine lv_iconst (v := 2) hx hb dL_law_1193 (by decide) ?_
  refine lv_iadd hx hb dL_law_1194 ?_
  refine lv_topE (nI_add i 2) ?_
  refine va_sld hx hb hX hbl hbA hS (vp_in_nI (n := i + 2) (by omega) (by omega)) dL_law_1195 ?_
  rw [nI_clamp (n := i + 2) (by omega)]
  refine kT_i (va_runV (As := [.int (xs (i + 1)), .int (xs (i + 2))]) (rest := []) CF (k_m_plan l D bd kj _ μ (xs (i + 1)) (xs (i + 2)) hIM) ⟨callB_of 2 ht (gT0 mw_778) rfl rfl rfl (ht _ mw_6) (ht _ mw_775) (by decide +kernel) ⟨Nat.le_of_ble_eq_true rfl, Nat.le_of_ble_eq_true rfl⟩, (ht _ mw_776), (ht _ mw_777)⟩ (preV_N hK hP hD) rfl rfl hl.1 rfl (lv_room (Nat.le_of_ble_eq_true rfl)) dL_law_1196 ⟨Nat.le_trans (by omega : cells + 2 + 0 ≤ 601024) (Nat.le_of_ble_eq_true rfl), Nat.le_trans (by omega : slots + 12 + 0 ≤ 7293034) (Nat.le_of_ble_eq_true rfl)⟩) hP hD hS (fun bv μ1 H locs hm hP hD hS => ?_)
  rw [← hm] at h0r hbr hR1
  refine lv_istore (lv' := [(6, .int bv), (5, .int r), (0, .ref b), (1, .ref (ad 0)), (2, .ref (bd 0)), (3, .ref qo), (4, .int (nI i))]) hx hb dL_law_1199 hl (by decide) rfl (fun ls hl => ?_)
  refine lv_aload_n hx hb dL_law_1201 rfl (lv_at hl 4 rfl) ?_
  refine kT_i (va_runV (As := []) (rest := []) CF (k_m_thrown l D bd kj _ μ1) ⟨callB_of 0 ht (gT0 mw_660) rfl rfl rfl (ht _ mw_6) (ht _ mw_657) (by decide +kernel) ⟨Nat.le_of_ble_eq_true rfl, Nat.le_of_ble_eq_true rfl⟩, (ht _ mw_658), (ht _ mw_659)⟩ (preV_N hK hP hD) rfl rfl hl.1 rfl (lv_room (Nat.le_of_ble_eq_true rfl)) dL_law_1202 ⟨Nat.le_trans (by omega : cells + 2 + 0 ≤ 601024) (Nat.le_of_ble_eq_true rfl), Nat.le_trans (by omega : slots + 12 + 0 ≤ 7293034) (Nat.le_of_ble_eq_true rfl)⟩) hP hD hS (fun tv u9 H locs h9 hP hD hS => ?_)
  obtain ⟨h9, e9⟩ := h9
  rw [e9] at hP hD
  rw [show M_m_thrown μ1 = gF μ1 0 0 from rfl] at h9
  refine lv_iload hx hb dL_law_1205 (lv_at hl 1 rfl) ?_
  refine lv_icmp_eq (tgt := 1212) hx hb dL_law_1207 (by decide) (fun c1 => ?_) (fun c1 => absurd (h9.trans h0r) c1)
  refine lv_iload hx hb dL_law_1212 (lv_at hl 1 rfl) ?_
  refine lv_if_ne (tgt := 1229) hx hb dL_law_1214 (by decide) (fun c2 => ?_) (fun c2 => ?_)
  · skip
    refine lv_goto (tgt := 1344) hx hb dL_law_1229 (by decide) ?_
    refine W.widen (k := cells + 6) (n := slots + 36) (by omega) (by omega) ?_
    exact K u.1 μ1 u.2 H locs ls hR1 hP hD hS (lv_sub hl [2, 3, 4, 5, 6] rfl)
  · have hb9 := hbr c2
    refine lv_aload_n hx hb dL_law_1217 rfl (lv_at hl 5 rfl) ?_
    refine lv_iconst (v := 0) hx hb dL_law_1218 (by decide) ?_
    refine va_lald (i := 0) hx hb hK hP 23 3 (out_at) rfl (vp_in_nI (n := 0) (by decide) (by decide)) dL_law_1219 ?_
    refine lv_iload hx hb dL_law_1220 (lv_at hl 0 rfl) ?_
    refine lv_i2l hx hb dL_law_1222 rfl ?_
    have hq9 : u.2 (0 : Int32).toNatClampNeg = bv.toInt64 := hb9
    rw [hq9]
    refine W.lcmp hx hb dL_law_1223 ?_
    rw [lc_eq]
    refine lv_if_eq (tgt := 1229) hx hb dL_law_1224 (by decide) (fun c3 => ?_) (fun c3 => absurd rfl c3)
    refine lv_goto (tgt := 1344) hx hb dL_law_1229 (by decide) ?_
    refine W.widen (k := cells + 6) (n := slots + 36) (by omega) (by omega) ?_
    exact K u.1 μ1 u.2 H locs ls hR1 hP hD hS (lv_sub hl [2, 3, 4, 5, 6] rfl)
set_option maxHeartbeats 4000000 in
set_option maxRecDepth 100000 in
theorem lc_step {R : St → St → Prop} (hRB : ∀ σ μ, R σ μ → IB σ ∧ IM μ) {p : Program} {e : Env} {s : State} {m : MethodId} {below : List Frame} {meth : Method} {c : Code} (l : Launch) (hl9 : l.stackTraces = false) {b L : Nat} {xs : Nat → Int32} {Q : State → Prop} (hL : L ≤ 3072) (C0 : lw_At p s m meth c b L xs) {D : va_G} {kL : ClassId} {kk kj : Nat → ClassId} {qo : Nat} {ad bd : Nat → Nat} (hK : va_K D vwCl (tyT kj kL kk) s) (hE : EvW (LA s) s s.heap) {σ μ : St} {f : Nat → Int64} {i cells slots : Nat} {H : Heap} {locs : List Loc} {ls : Array Slot} (hR : R σ μ) (hsim : Sim R (tR σ (M_step σ (xs (i + 1)))) ["java/lang/IndexOutOfBoundsException"] σ (M_m_step μ (xs (i + 1))).1.toInt64 (M_m_step μ (xs (i + 1))).2) (hi : i + 6 ≤ L) (hcl : cells + 6 ≤ 601024) (hsl : slots + 36 ≤ 7293034) (hP : va_P D vwCl (wT bd kj μ qo kL f ad kk σ) H) (hD : va_D (LA s) (wT bd kj μ qo kL f ad kk σ)) (hS : va_S (LA s) s.heap H locs) (hl : lv_has ls 8 [(0, .ref b), (1, .ref (ad 0)), (2, .ref (bd 0)), (3, .ref qo), (4, .int (nI i))])
    (K : ∀ (σ1 μ1 : St) (f1 : Nat → Int64) (H : Heap) (locs : List Loc) (ls : Array Slot), R σ1 μ1 → va_P D vwCl (wT bd kj μ1 qo kL f1 ad kk σ1) H → va_D (LA s) (wT bd kj μ1 qo kL f1 ad kk σ1) → va_S (LA s) s.heap H locs → lv_has ls 8 [(0, .ref b), (1, .ref (ad 0)), (2, .ref (bd 0)), (3, .ref qo), (4, .int (nI i))] → W p l e room_1 s m #[Value.ref b] below meth c H locs (cells + 6) (slots + 36) Q (F0 m 1344 ls ([]))) : W p l e room_1 s m #[Value.ref b] below meth c H locs cells slots Q (F0 m 1232 ls ([])) := by
  obtain ⟨hx, hb, hr, hml, hown, hts, hX, hbl, hlocks, hgv⟩ := C0
  have ht : ∀ w ∈ T0, w.before #[Value.ref b] s = true := fun w h => hts w (T0_lw h)
  have CF : CallFix p m c code 8 s #[Value.ref b] T0 RL := ⟨hx, hb, hml, hown, ht⟩
  have hbA : ¬ LA s b := Nat.not_le.mpr hbl
  have hIB := (hRB σ μ hR).1
  have hIM := (hRB σ μ hR).2
  refine lv_aload_n hx hb dL_law_1232 rfl (lv_at hl 1 rfl) ?_
  refine lv_aload_n hx hb dL_law_1233 rfl (lv_at hl 0 rfl) ?_
  refine lv_iload hx hb dL_law_1234 (lv_at hl 4 rfl) ?_
  refine lv_iconst (v := 1) hx hb dL_law_1236 (by decide) ?_
  refine lv_iadd hx hb dL_law_1237 ?_
  refine lv_topE (nI_add i 1) ?_
  refine va_sld hx hb hX hbl hbA hS (vp_in_nI (n := i + 1) (by omega) (by omega)) dL_law_1238 ?_
  rw [nI_clamp (n := i + 1) (by omega)]
  refine lv_aload_n hx hb dL_law_1239 rfl (lv_at hl 3 rfl) ?_
  refine kT_w (vx_runSX (As := [.ref (ad 0), .int (xs (i + 1)), .ref qo]) (rest := []) CF (k_w_step l hl9 D qo kL ad kk _ f σ (xs (i + 1)) hIB) (csw (n := 3) ht mw_551 mw_549 mw_550 mw_0 rfl rfl (by decide +kernel) ⟨Nat.le_of_ble_eq_true rfl, Nat.le_of_ble_eq_true rfl⟩) (preS_T hK hP hD hE hS) rfl rfl hl.1 rfl (lv_room (Nat.le_of_ble_eq_true rfl)) dL_law_1240 ⟨Nat.le_trans (by omega : cells + 1 ≤ 601024) (Nat.le_of_ble_eq_true rfl), Nat.le_trans (by omega : slots + 6 ≤ 7293034) (Nat.le_of_ble_eq_true rfl)⟩) hP hD hS (fun r u H locs hw hP hD hS => ?_)
  obtain ⟨h0r, hbr, hR1⟩ := simw (by decide) hsim hw
  refine lv_istore (lv' := [(5, .int r), (0, .ref b), (1, .ref (ad 0)), (2, .ref (bd 0)), (3, .ref qo), (4, .int (nI i))]) hx hb dL_law_1243 hl (by decide) rfl (fun ls hl => ?_)
  refine lv_aload_n hx hb dL_law_1245 rfl (lv_at hl 3 rfl) ?_
  refine lv_aload_n hx hb dL_law_1246 rfl (lv_at hl 1 rfl) ?_
  refine lv_iload hx hb dL_law_1247 (lv_at hl 5 rfl) ?_
  refine lv_iconst (v := 1) hx hb dL_law_1249 (by decide) ?_
  refine lv_iadd hx hb dL_law_1250 ?_
  refine lv_topE (nI_add i 1) ?_
  refine va_sld hx hb hX hbl hbA hS (vp_in_nI (n := i + 1) (by omega) (by omega)) dL_law_1251 ?_
  rw [nI_clamp (n := i + 1) (by omega)]
  refine kT_i (va_runV (As := [.int (xs (i + 1))]) (rest := []) CF (k_m_step l D bd kj _ μ (xs (i + 1)) hIM) ⟨callB_of 1 ht (gT0 mw_798) rfl rfl rfl (ht _ mw_6) (ht _ mw_795) (by decide +kernel) ⟨Nat.le_of_ble_eq_true rfl, Nat.le_of_ble_eq_true rfl⟩, (ht _ mw_796), (ht _ mw_797)⟩ (preV_N hK hP hD) rfl rfl hl.1 rfl (lv_room (Nat.le_of_ble_eq_true rfl)) dL_law_1252 ⟨Nat.le_trans (by omega : cells + 1 + 0 ≤ 601024) (Nat.le_of_ble_eq_true rfl), Nat.le_trans (by omega : slots + 6 + 0 ≤ 7293034) (Nat.le_of_ble_eq_true rfl)⟩) hP hD hS (fun bv μ1 H locs hm hP hD hS => ?_)
  rw [← hm] at h0r hbr hR1
  refine lv_istore (lv' := [(6, .int bv), (5, .int r), (0, .ref b), (1, .ref (ad 0)), (2, .ref (bd 0)), (3, .ref qo), (4, .int (nI i))]) hx hb dL_law_1255 hl (by decide) rfl (fun ls hl => ?_)
  refine lv_aload_n hx hb dL_law_1257 rfl (lv_at hl 4 rfl) ?_
  refine kT_i (va_runV (As := []) (rest := []) CF (k_m_thrown l D bd kj _ μ1) ⟨callB_of 0 ht (gT0 mw_660) rfl rfl rfl (ht _ mw_6) (ht _ mw_657) (by decide +kernel) ⟨Nat.le_of_ble_eq_true rfl, Nat.le_of_ble_eq_true rfl⟩, (ht _ mw_658), (ht _ mw_659)⟩ (preV_N hK hP hD) rfl rfl hl.1 rfl (lv_room (Nat.le_of_ble_eq_true rfl)) dL_law_1258 ⟨Nat.le_trans (by omega : cells + 1 + 0 ≤ 601024) (Nat.le_of_ble_eq_true rfl), Nat.le_trans (by omega : slots + 6 + 0 ≤ 7293034) (Nat.le_of_ble_eq_true rfl)⟩) hP hD hS (fun tv u9 H locs h9 hP hD hS => ?_)
  obtain ⟨h9, e9⟩ := h9
  rw [e9] at hP hD
  rw [show M_m_thrown μ1 = gF μ1 0 0 from rfl] at h9
  refine lv_iload hx hb dL_law_1261 (lv_at hl 1 rfl) ?_
  refine lv_icmp_eq (tgt := 1268) hx hb dL_law_1263 (by decide) (fun c1 => ?_) (fun c1 => absurd (h9.trans h0r) c1)
  refine lv_iload hx hb dL_law_1268 (lv_at hl 1 rfl) ?_
  refine lv_if_ne (tgt := 1285) hx hb dL_law_1270 (by decide) (fun c2 => ?_) (fun c2 => ?_)
  · skip
    refine lv_goto (tgt := 1344) hx hb dL_law_1285 (by decide) ?_
    refine W.widen (k := cells + 6) (n := slots + 36) (by omega) (by omega) ?_
    exact K u.1 μ1 u.2 H locs ls hR1 hP hD hS (lv_sub hl [2, 3, 4, 5, 6] rfl)
  · have hb9 := hbr c2
    refine lv_aload_n hx hb dL_law_1273 rfl (lv_at hl 5 rfl) ?_
    refine lv_iconst (v := 0) hx hb dL_law_1274 (by decide) ?_
    refine va_lald (i := 0) hx hb hK hP 23 3 (out_at) rfl (vp_in_nI (n := 0) (by decide) (by decide)) dL_law_1275 ?_
    refine lv_iload hx hb dL_law_1276 (lv_at hl 0 rfl) ?_
    refine lv_i2l hx hb dL_law_1278 rfl ?_
    have hq9 : u.2 (0 : Int32).toNatClampNeg = bv.toInt64 := hb9
    rw [hq9]
    refine W.lcmp hx hb dL_law_1279 ?_
    rw [lc_eq]
    refine lv_if_eq (tgt := 1285) hx hb dL_law_1280 (by decide) (fun c3 => ?_) (fun c3 => absurd rfl c3)
    refine lv_goto (tgt := 1344) hx hb dL_law_1285 (by decide) ?_
    refine W.widen (k := cells + 6) (n := slots + 36) (by omega) (by omega) ?_
    exact K u.1 μ1 u.2 H locs ls hR1 hP hD hS (lv_sub hl [2, 3, 4, 5, 6] rfl)
set_option maxHeartbeats 4000000 in
set_option maxRecDepth 100000 in
theorem lc_count {R : St → St → Prop} (hRB : ∀ σ μ, R σ μ → IB σ ∧ IM μ) {p : Program} {e : Env} {s : State} {m : MethodId} {below : List Frame} {meth : Method} {c : Code} (l : Launch) (hl9 : l.stackTraces = false) {b L : Nat} {xs : Nat → Int32} {Q : State → Prop} (hL : L ≤ 3072) (C0 : lw_At p s m meth c b L xs) {D : va_G} {kL : ClassId} {kk kj : Nat → ClassId} {qo : Nat} {ad bd : Nat → Nat} (hK : va_K D vwCl (tyT kj kL kk) s) (hE : EvW (LA s) s s.heap) {σ μ : St} {f : Nat → Int64} {i cells slots : Nat} {H : Heap} {locs : List Loc} {ls : Array Slot} (hR : R σ μ) (hsim : Sim R (tR σ (M_count σ (xs (i + 1)))) ["java/lang/IndexOutOfBoundsException"] σ (M_m_count μ (xs (i + 1))).1.toInt64 (M_m_count μ (xs (i + 1))).2) (hi : i + 6 ≤ L) (hcl : cells + 6 ≤ 601024) (hsl : slots + 36 ≤ 7293034) (hP : va_P D vwCl (wT bd kj μ qo kL f ad kk σ) H) (hD : va_D (LA s) (wT bd kj μ qo kL f ad kk σ)) (hS : va_S (LA s) s.heap H locs) (hl : lv_has ls 8 [(0, .ref b), (1, .ref (ad 0)), (2, .ref (bd 0)), (3, .ref qo), (4, .int (nI i))])
    (K : ∀ (σ1 μ1 : St) (f1 : Nat → Int64) (H : Heap) (locs : List Loc) (ls : Array Slot), R σ1 μ1 → va_P D vwCl (wT bd kj μ1 qo kL f1 ad kk σ1) H → va_D (LA s) (wT bd kj μ1 qo kL f1 ad kk σ1) → va_S (LA s) s.heap H locs → lv_has ls 8 [(0, .ref b), (1, .ref (ad 0)), (2, .ref (bd 0)), (3, .ref qo), (4, .int (nI i))] → W p l e room_1 s m #[Value.ref b] below meth c H locs (cells + 6) (slots + 36) Q (F0 m 1344 ls ([]))) : W p l e room_1 s m #[Value.ref b] below meth c H locs cells slots Q (F0 m 1288 ls ([])) := by
  obtain ⟨hx, hb, hr, hml, hown, hts, hX, hbl, hlocks, hgv⟩ := C0
  have ht : ∀ w ∈ T0, w.before #[Value.ref b] s = true := fun w h => hts w (T0_lw h)
  have CF : CallFix p m c code 8 s #[Value.ref b] T0 RL := ⟨hx, hb, hml, hown, ht⟩
  have hbA : ¬ LA s b := Nat.not_le.mpr hbl
  have hIB := (hRB σ μ hR).1
  have hIM := (hRB σ μ hR).2
  refine lv_aload_n hx hb dL_law_1288 rfl (lv_at hl 1 rfl) ?_
  refine lv_aload_n hx hb dL_law_1289 rfl (lv_at hl 0 rfl) ?_
  refine lv_iload hx hb dL_law_1290 (lv_at hl 4 rfl) ?_
  refine lv_iconst (v := 1) hx hb dL_law_1292 (by decide) ?_
  refine lv_iadd hx hb dL_law_1293 ?_
  refine lv_topE (nI_add i 1) ?_
  refine va_sld hx hb hX hbl hbA hS (vp_in_nI (n := i + 1) (by omega) (by omega)) dL_law_1294 ?_
  rw [nI_clamp (n := i + 1) (by omega)]
  refine lv_aload_n hx hb dL_law_1295 rfl (lv_at hl 3 rfl) ?_
  refine kT_w (vx_runSX (As := [.ref (ad 0), .int (xs (i + 1)), .ref qo]) (rest := []) CF (k_w_count l hl9 D qo kL ad kk _ f σ (xs (i + 1)) hIB) (csw (n := 3) ht mw_558 mw_556 mw_557 mw_0 rfl rfl (by decide +kernel) ⟨Nat.le_of_ble_eq_true rfl, Nat.le_of_ble_eq_true rfl⟩) (preS_T hK hP hD hE hS) rfl rfl hl.1 rfl (lv_room (Nat.le_of_ble_eq_true rfl)) dL_law_1296 ⟨Nat.le_trans (by omega : cells + 1 ≤ 601024) (Nat.le_of_ble_eq_true rfl), Nat.le_trans (by omega : slots + 6 ≤ 7293034) (Nat.le_of_ble_eq_true rfl)⟩) hP hD hS (fun r u H locs hw hP hD hS => ?_)
  obtain ⟨h0r, hbr, hR1⟩ := simw (by decide) hsim hw
  refine lv_istore (lv' := [(5, .int r), (0, .ref b), (1, .ref (ad 0)), (2, .ref (bd 0)), (3, .ref qo), (4, .int (nI i))]) hx hb dL_law_1299 hl (by decide) rfl (fun ls hl => ?_)
  refine lv_aload_n hx hb dL_law_1301 rfl (lv_at hl 3 rfl) ?_
  refine lv_aload_n hx hb dL_law_1302 rfl (lv_at hl 1 rfl) ?_
  refine lv_iload hx hb dL_law_1303 (lv_at hl 5 rfl) ?_
  refine lv_iconst (v := 1) hx hb dL_law_1305 (by decide) ?_
  refine lv_iadd hx hb dL_law_1306 ?_
  refine lv_topE (nI_add i 1) ?_
  refine va_sld hx hb hX hbl hbA hS (vp_in_nI (n := i + 1) (by omega) (by omega)) dL_law_1307 ?_
  rw [nI_clamp (n := i + 1) (by omega)]
  refine kT_i (va_runV (As := [.int (xs (i + 1))]) (rest := []) CF (k_m_count l D bd kj _ μ (xs (i + 1)) hIM) ⟨callB_of 1 ht (gT0 mw_802) rfl rfl rfl (ht _ mw_6) (ht _ mw_799) (by decide +kernel) ⟨Nat.le_of_ble_eq_true rfl, Nat.le_of_ble_eq_true rfl⟩, (ht _ mw_800), (ht _ mw_801)⟩ (preV_N hK hP hD) rfl rfl hl.1 rfl (lv_room (Nat.le_of_ble_eq_true rfl)) dL_law_1308 ⟨Nat.le_trans (by omega : cells + 1 + 0 ≤ 601024) (Nat.le_of_ble_eq_true rfl), Nat.le_trans (by omega : slots + 6 + 0 ≤ 7293034) (Nat.le_of_ble_eq_true rfl)⟩) hP hD hS (fun bv μ1 H locs hm hP hD hS => ?_)
  rw [← hm] at h0r hbr hR1
  refine lv_istore (lv' := [(6, .int bv), (5, .int r), (0, .ref b), (1, .ref (ad 0)), (2, .ref (bd 0)), (3, .ref qo), (4, .int (nI i))]) hx hb dL_law_1311 hl (by decide) rfl (fun ls hl => ?_)
  refine lv_aload_n hx hb dL_law_1313 rfl (lv_at hl 4 rfl) ?_
  refine kT_i (va_runV (As := []) (rest := []) CF (k_m_thrown l D bd kj _ μ1) ⟨callB_of 0 ht (gT0 mw_660) rfl rfl rfl (ht _ mw_6) (ht _ mw_657) (by decide +kernel) ⟨Nat.le_of_ble_eq_true rfl, Nat.le_of_ble_eq_true rfl⟩, (ht _ mw_658), (ht _ mw_659)⟩ (preV_N hK hP hD) rfl rfl hl.1 rfl (lv_room (Nat.le_of_ble_eq_true rfl)) dL_law_1314 ⟨Nat.le_trans (by omega : cells + 1 + 0 ≤ 601024) (Nat.le_of_ble_eq_true rfl), Nat.le_trans (by omega : slots + 6 + 0 ≤ 7293034) (Nat.le_of_ble_eq_true rfl)⟩) hP hD hS (fun tv u9 H locs h9 hP hD hS => ?_)
  obtain ⟨h9, e9⟩ := h9
  rw [e9] at hP hD
  rw [show M_m_thrown μ1 = gF μ1 0 0 from rfl] at h9
  refine lv_iload hx hb dL_law_1317 (lv_at hl 1 rfl) ?_
  refine lv_icmp_eq (tgt := 1324) hx hb dL_law_1319 (by decide) (fun c1 => ?_) (fun c1 => absurd (h9.trans h0r) c1)
  refine lv_iload hx hb dL_law_1324 (lv_at hl 1 rfl) ?_
  refine lv_if_ne (tgt := 1341) hx hb dL_law_1326 (by decide) (fun c2 => ?_) (fun c2 => ?_)
  · skip
    refine lv_goto (tgt := 1344) hx hb dL_law_1341 (by decide) ?_
    refine W.widen (k := cells + 6) (n := slots + 36) (by omega) (by omega) ?_
    exact K u.1 μ1 u.2 H locs ls hR1 hP hD hS (lv_sub hl [2, 3, 4, 5, 6] rfl)
  · have hb9 := hbr c2
    refine lv_aload_n hx hb dL_law_1329 rfl (lv_at hl 5 rfl) ?_
    refine lv_iconst (v := 0) hx hb dL_law_1330 (by decide) ?_
    refine va_lald (i := 0) hx hb hK hP 23 3 (out_at) rfl (vp_in_nI (n := 0) (by decide) (by decide)) dL_law_1331 ?_
    refine lv_iload hx hb dL_law_1332 (lv_at hl 0 rfl) ?_
    refine lv_i2l hx hb dL_law_1334 rfl ?_
    have hq9 : u.2 (0 : Int32).toNatClampNeg = bv.toInt64 := hb9
    rw [hq9]
    refine W.lcmp hx hb dL_law_1335 ?_
    rw [lc_eq]
    refine lv_if_eq (tgt := 1341) hx hb dL_law_1336 (by decide) (fun c3 => ?_) (fun c3 => absurd rfl c3)
    refine lv_goto (tgt := 1344) hx hb dL_law_1341 (by decide) ?_
    refine W.widen (k := cells + 6) (n := slots + 36) (by omega) (by omega) ?_
    exact K u.1 μ1 u.2 H locs ls hR1 hP hD hS (lv_sub hl [2, 3, 4, 5, 6] rfl)

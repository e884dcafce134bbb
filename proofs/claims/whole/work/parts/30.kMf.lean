def M_m_plan_h53 : Nat → Nat → Int32 → Int32 → Int32 → St → Int32 → Int32 × St
  | 0, _, _, _, _, τ53, _ => (0, τ53)
  | n + 1, i153, x53_3, x53_4, x53_5, τ53, p1 => (if 12 ≤ (nI i153) then (if x53_4 ≤ 10 then (if x53_5 = 0 then ((-1), τ53) else (pb (M_m_orders τ53 p1 x53_4) (fun r11 σ12 => (if r11 = 0 then ((-1), σ12) else (T_plan σ12 p1 x53_4))))) else ((-2), τ53)) else (if ((x53_3 >>> ((nI i153) &&& 31)) &&& 1) = 1 then (if (M_m_latest τ53 p1 (nI i153)) = (-1) then (vb ((if x53_5 = 0 then 0 else (if (gF τ53 0 3) ≤ (nI i153) then 0 else (if (M_m_barred τ53 p1 (nI i153)) = (-1) then 1 else 0)))) (fun (y16 : Int32) => (if 10 ≤ x53_4 then (M_m_plan_h53 n (i153 + 1) x53_3 (x53_4 + 1) y16 τ53 p1) else (M_m_plan_h53 n (i153 + 1) x53_3 (x53_4 + 1) y16 (sA τ53 21 x53_4.toNatClampNeg (nI i153)) p1)))) else (M_m_plan_h53 n (i153 + 1) x53_3 x53_4 x53_5 τ53 p1)) else (M_m_plan_h53 n (i153 + 1) x53_3 x53_4 x53_5 τ53 p1)))
def M_m_plan (σ : St) (p1 : Int32) (p2 : Int32) : Int32 × St := (vb ((if (M_m_isObject σ p1) = 0 then 0 else (if p2 < 0 then 0 else (if ((1 : Int32) <<< ((gF σ 0 3) &&& 31)) ≤ p2 then 0 else 1)))) (fun (y1 : Int32) => (pb (M_m_goes σ y1 1 1) (fun r5 σ6 => (if r5 = 0 then (0, σ6) else (M_m_plan_h53 13 0 (M_m_closed σ6 p2) 0 1 σ6 p1))))))
set_option maxHeartbeats 4000000 in
set_option maxRecDepth 100000 in
theorem k_m_plan (l : Launch) (D : va_G) (ad : Nat → Nat) (kk : Nat → ClassId) (sz : Nat) (σ : St) (p1 : Int32) (p2 : Int32) (hI : IM σ) : Met l yX5_plan wsX5_plan { frames := 3, cells := 0, slots := 0, locals := 76 } (va_Pc [.ref (ad 0), .int p1, .int p2] (PM D ad kk sz σ)) (va_Qi (fun r u => (r, u) = M_m_plan σ p1 p2) (QM D ad kk sz) (aL 23 ad sz)) 0 0 (aL 23 ad sz) := by
  refine Met.ofW (cc := cX5_plan) (maxL := 9) (ret := (some .int)) (by decide) rfl ?_
  intro p e s m args below meth c s₁ B hml hv
  obtain ⟨rfl, hsz, hP, hK, hD0⟩ := hv
  have hx := B.exec
  have hb := B.bytes
  have hr := B.returns
  have hts := atoms_spec (ws := wsX5_plan) B.pre
  have hown : s.vm.findClass RX5 = some m.cls := findClass_of_methodNamed B.named
  have hlocks := B.notSynchronized
  subst hsz
  have hD : va_D (aL 23 ad s.heap.size) (wM ad kk σ) := aL_D hD0
  have hS : va_S (aL 23 ad s.heap.size) s.heap s.heap [] := va_S.rf
  have hl := lv_entry ([.ref (ad 0), .int p1, .int p2]) (n := 9) (Nat.le_of_ble_eq_true rfl)
  rw [lg_entry_eq]
  generalize (lg_sl ([.ref (ad 0), .int p1, .int p2]) ++ List.replicate (9 - (lg_sl ([.ref (ad 0), .int p1, .int p2])).length) Slot.unset).toArray = ls at hl ⊢
  have hl : lv_has ls 9 [(0, .ref (ad 0)), (1, .int p1), (2, .int p2)] := hl
  have CF : CallFix p m c cX5_plan 9 s ([.ref (ad 0), .int p1, .int p2] : List Value).toArray wsX5_plan RX5 := ⟨hx, hb, hml, hown, hts⟩
  have ht : ∀ w ∈ T0, w.before ([.ref (ad 0), .int p1, .int p2] : List Value).toArray s = true := fun w h => hts w (List.mem_cons_of_mem _ h)
  generalize hT : M_m_plan σ p1 p2 = T
  refine namedQ (fun Q eQ => ?_)
  have I_181 : ∀ (j1 j2 z s7 : Nat) (τ : St), j1 < 10 → j2 < 11 → z < 1024 → IM τ → (∀ k, k < j2 → vp_in (gA τ 21 k) 12) → ∀ (n k : Nat) (H : Heap) (locs : List Loc) (ls : Array Slot), (∃ K, k ≤ K ∧ K < j2 ∧ K < k + n ∧ nxt τ j1 j2 z K) → va_P D vwCl (wM ad kk τ) H → va_D (aL 23 ad s.heap.size) (wM ad kk τ) → va_S (aL 23 ad s.heap.size) s.heap H locs → lv_has ls 9 [(0, .ref (ad 0)), (1, .int (nI j1)), (4, .int (nI j2)), (6, .int (nI z)), (7, .int (nI s7)), (8, .int (nI k))] → (∀ (k1 : Nat) (H : Heap) (locs : List Loc) (ls : Array Slot), k1 = pl181 n k τ j1 j2 z → k1 < j2 → nxt τ j1 j2 z k1 → va_P D vwCl (wM ad kk τ) H → va_D (aL 23 ad s.heap.size) (wM ad kk τ) → va_S (aL 23 ad s.heap.size) s.heap H locs → lv_has ls 9 [(0, .ref (ad 0)), (1, .int (nI j1)), (4, .int (nI j2)), (6, .int (nI z)), (7, .int (nI s7)), (8, .int (nI k1))] → W p l e (headSpec wsX5_plan { frames := 3, cells := 0, slots := 0, locals := 76 }).room s m ([.ref (ad 0), .int p1, .int p2] : List Value).toArray below meth c H locs 0 0 Q (F0 m 236 ls [])) → W p l e (headSpec wsX5_plan { frames := 3, cells := 0, slots := 0, locals := 76 }).room s m ([.ref (ad 0), .int p1, .int p2] : List Value).toArray below meth c H locs 0 0 Q (F0 m 181 ls []) := by
    intro j1 j2 z s7 τ hj1 hj2 hz hI0 hc n
    induction n with
    | zero => intro k H locs ls hK0; obtain ⟨K, a, b, c9, _⟩ := hK0; omega
    | succ n ih =>
      intro k H locs ls hK0 hP hD hS hl Kc
      obtain ⟨K, hK1, hK2, hK3, hK4⟩ := hK0
      have hk10 : k < 10 := by omega
      have hskip : ¬ nxt τ j1 j2 z k → ∀ (H : Heap) (locs : List Loc), va_P D vwCl (wM ad kk τ) H → va_D (aL 23 ad s.heap.size) (wM ad kk τ) → va_S (aL 23 ad s.heap.size) s.heap H locs → W p l e (headSpec wsX5_plan { frames := 3, cells := 0, slots := 0, locals := 76 }).room s m ([.ref (ad 0), .int p1, .int p2] : List Value).toArray below meth c H locs 0 0 Q (F0 m 230 ls []) := by
        intro hn H locs hP hD hS
        refine lv_iinc (v := nI (k + 1)) (lv' := [(8, .int (nI (k + 1))), (0, .ref (ad 0)), (1, .int (nI j1)), (4, .int (nI j2)), (6, .int (nI z)), (7, .int (nI s7))]) hx hb dX5_plan_230 hl (k := 5) rfl (nI_1 k) (by decide) rfl (fun ls hl => ?_)
        refine lv_goto (tgt := 181) hx hb dX5_plan_233 (by decide) ?_
        have hKk : K ≠ k := fun q => hn (by rw [← q]; exact hK4)
        exact ih (k + 1) _ _ ls ⟨K, by omega, hK2, by omega, hK4⟩ hP hD hS (lv_sub hl [1, 2, 3, 4, 5, 0] rfl) (fun k1 H locs ls e1 => Kc k1 H locs ls (by rw [pl181_n hn]; exact e1))
      refine lv_iload hx hb dX5_plan_181 (lv_at hl 3 rfl) ?_
      refine lv_iload hx hb dX5_plan_183 (lv_at hl 5 rfl) ?_
      refine lv_ishr hx hb dX5_plan_185 ?_
      refine lv_iconst (v := 1) hx hb dX5_plan_186 (by decide) ?_
      refine lv_iand hx hb dX5_plan_187 ?_
      refine lv_iconst (v := 1) hx hb dX5_plan_188 (by decide) ?_
      refine lv_icmp_eq (tgt := 230) hx hb dX5_plan_189 (by decide) (fun c1 => hskip (fun q => by rw [q.1] at c1; exact absurd c1 (by decide)) _ _ hP hD hS) (fun c1 => ?_)
      have b0 := bit_0 (by omega) (by omega) c1
      refine lv_aload_n hx hb dX5_plan_192 rfl (lv_at hl 0 rfl) ?_
      refine va_get (D := D) (ci := 5) (v := .ref (ad 22)) (C := RX5) (T := TX5) (N := 27) hx hb ht inX5 hown hK hP 0 g_Md rfl 26 (by decide) (ht _ mw_599) (fun _ h9 => h9) rfl dX5_plan_193 ?_
      refine lv_iload hx hb dX5_plan_196 (lv_at hl 3 rfl) ?_
      refine lv_iconst (v := 1) hx hb dX5_plan_198 (by decide) ?_
      refine lv_iload hx hb dX5_plan_199 (lv_at hl 5 rfl) ?_
      refine lv_ishl hx hb dX5_plan_201 ?_
      refine lv_ior hx hb dX5_plan_202 ?_
      refine lv_topE (or_nI (by omega)) ?_
      refine va_zald (i := nI (z ||| 2 ^ k)) hx hb hK hP 22 1 g_m_ends rfl (vp_in_nI (or_lt hz hk10) (by decide)) dX5_plan_203 ?_
      rw [nI_clamp (n := (z ||| 2 ^ k)) (Nat.lt_trans (or_lt hz hk10) (by decide))]
      refine lv_if_eq (tgt := 230) hx hb dX5_plan_204 (by decide) (fun c2 => hskip (fun q => q.2.1 c2) _ _ hP hD hS) (fun c2 => ?_)
      refine lv_aload_n hx hb dX5_plan_207 rfl (lv_at hl 0 rfl) ?_
      refine lv_iload_n hx hb dX5_plan_208 rfl (lv_at hl 1 rfl) ?_
      refine lv_aload_n hx hb dX5_plan_209 rfl (lv_at hl 0 rfl) ?_
      refine va_get (D := D) (ci := 5) (v := .ref (ad 21)) (C := RX5) (T := TX5) (N := 27) hx hb ht inX5 hown hK hP 0 g_Md rfl 25 (by decide) (ht _ mw_598) (fun _ h9 => h9) rfl dX5_plan_210 ?_
      refine lv_iload hx hb dX5_plan_213 (lv_at hl 5 rfl) ?_
      refine va_iald (i := nI k) hx hb hK hP 21 0 g_m_chosen rfl (vp_in_nI hk10 (by decide)) dX5_plan_215 ?_
      rw [nI_clamp (n := k) (by omega)]
      refine lv_aload_n hx hb dX5_plan_216 rfl (lv_at hl 0 rfl) ?_
      refine lv_iload hx hb dX5_plan_217 (lv_at hl 3 rfl) ?_
      refine lv_iload hx hb dX5_plan_219 (lv_at hl 2 rfl) ?_
      refine kM_r (va_runV (As := [.int (nI z), .int (nI j2)]) (rest := [.int (gA τ 21 k), .int (nI j1), .ref (ad 0)]) CF (k_m_methodsOf l D ad kk _ τ (nI z) (nI j2) (by rw [nI_toInt (by omega)]; omega)) ⟨callB_of 2 hts (gT mw_790) rfl rfl rfl (ht _ mw_6) (ht _ mw_787) (by decide +kernel) ⟨Nat.le_of_ble_eq_true rfl, Nat.le_of_ble_eq_true rfl⟩, (ht _ mw_789), (ht _ ms_36)⟩ (preV_M hK hP hD hS (ci := 5) rfl rfl g_Md) rfl rfl hl.1 rfl (lv_room (Nat.le_of_ble_eq_true rfl)) dX5_plan_221 ⟨Nat.le_of_ble_eq_true rfl, Nat.le_of_ble_eq_true rfl⟩) hS (fun H locs hP hD hS => ?_)
      refine kM_r (va_runV (As := [.int (nI j1), .int (gA τ 21 k), .int (M_m_methodsOf τ (nI z) (nI j2))]) (rest := []) CF (k_m_mayCome l D ad kk _ τ (nI j1) (gA τ 21 k) (M_m_methodsOf τ (nI z) (nI j2)) (vp_in_nI (n := j1) (by omega) (by decide)) (hc _ (by omega)) hI0) ⟨callB_of 3 hts (gT mw_794) rfl rfl rfl (ht _ mw_6) (ht _ mw_791) (by decide +kernel) ⟨Nat.le_of_ble_eq_true rfl, Nat.le_of_ble_eq_true rfl⟩, (ht _ mw_793), (ht _ ms_37)⟩ (preV_M hK hP hD hS (ci := 5) rfl rfl g_Md) rfl rfl hl.1 rfl (lv_room (Nat.le_of_ble_eq_true rfl)) dX5_plan_224 ⟨Nat.le_of_ble_eq_true rfl, Nat.le_of_ble_eq_true rfl⟩) hS (fun H locs hP hD hS => ?_)
      refine lv_if_ne (tgt := 236) hx hb dX5_plan_227 (by decide) (fun c3 => ?_) (fun c3 => hskip (fun q => q.2.2 c3) _ _ hP hD hS)
      exact Kc k _ _ ls (pl181_y ⟨b0, c2, c3⟩).symm (by omega) ⟨b0, c2, c3⟩ hP hD hS hl
  have L_171 : ∀ (j1 j2 : Nat), j1 < 10 → j2 < 11 → ∀ (n s7 z : Nat) (τ : St) (H : Heap) (locs : List Loc) (ls : Array Slot), s7 ≤ j2 → j2 < s7 + n → IM τ → (∀ k, k < j2 → vp_in (gA τ 21 k) 12) → DP τ j1 j2 → z < 2 ^ j2 → gA τ 22 z ≠ 0 → cnt z = s7 → va_P D vwCl (wM ad kk τ) H → va_D (aL 23 ad s.heap.size) (wM ad kk τ) → va_S (aL 23 ad s.heap.size) s.heap H locs → lv_has ls 9 [(0, .ref (ad 0)), (1, .int (nI j1)), (4, .int (nI j2)), (6, .int (nI z)), (7, .int (nI s7))] → (nI j2, sF (pl171 n s7 z τ j1 j2) 0 23 (nI j2)) = T → W p l e (headSpec wsX5_plan { frames := 3, cells := 0, slots := 0, locals := 76 }).room s m ([.ref (ad 0), .int p1, .int p2] : List Value).toArray below meth c H locs 0 0 Q (F0 m 171 ls []) := by
    intro j1 j2 hj1 hj2 n
    induction n with
    | zero => intro s7 z τ H locs ls a b; omega
    | succ n ih =>
      intro s7 z τ H locs ls hs1 hs2 hI0 hc hdp hz hz2 hz3 hP hD hS hl hT
      have hpw : 2 ^ j2 ≤ 1024 := pw_le hj2
      rw [pl171] at hT
      refine lv_iload hx hb dX5_plan_171 (lv_at hl 4 rfl) ?_
      refine lv_iload hx hb dX5_plan_173 (lv_at hl 2 rfl) ?_
      refine lv_icmp_ge (tgt := 265) hx hb dX5_plan_175 (by decide) (fun c1 => ?_) (fun c1 => ?_)
      · rw [if_pos (nI_le' c1 (by omega) (by omega))] at hT
        refine lv_aload_n hx hb dX5_plan_265 rfl (lv_at hl 0 rfl) ?_
        refine lv_iload hx hb dX5_plan_266 (lv_at hl 2 rfl) ?_
        refine va_put (D := D) (ci := 5) (v := .int (nI j2)) (ty := .int) (C := RX5) (T := TX5) (N := 27) hx hb ht inX5 tyX5 tyX5_ok nmX5 hown hK hP hD hS 0 g_Md rfl 23 (by decide) (ht _ mw_596) (fun _ h9 => h9) rfl (by decide +kernel) rfl rfl (Nat.le_of_ble_eq_true rfl) dX5_plan_268 (fun H locs hP hD hS => ?_)
        rw [s_Md_23] at hP hD
        refine lv_iload hx hb dX5_plan_271 (lv_at hl 2 rfl) ?_
        rw [eQ]
        exact W.iret (v := nI j2) hx hb hr (fun t ht hW => ⟨⟨nI j2, (sF τ 0 23 (nI j2)), rfl, hT, by rw [ht]; exact hP, va_K.moved hW.alike hK, hD⟩, hS.F ht⟩) hS.2.2 dX5_plan_273
      · have hlt := nI_ngt c1 (by omega) (by omega)
        rw [if_neg (by omega)] at hT
        obtain ⟨K, hK1, hK2⟩ := hdp z hz (fun q => by have := cnt_all j2 (by omega); rw [← q, hz3] at this; omega) hz2
        refine lv_iconst (v := 0) hx hb dX5_plan_178 (by decide) ?_
        refine lv_istore (lv' := [(8, .int 0), (0, .ref (ad 0)), (1, .int (nI j1)), (4, .int (nI j2)), (6, .int (nI z)), (7, .int (nI s7))]) hx hb dX5_plan_179 hl (by decide) rfl (fun ls hl => ?_)
        refine I_181 j1 j2 z s7 τ hj1 hj2 (by omega) hI0 hc 11 0 _ _ ls ⟨K, Nat.zero_le _, hK1, by omega, hK2⟩ hP hD hS (lv_sub hl [1, 2, 3, 4, 5, 0] rfl) (fun k H locs ls ek hk hnx hP hD hS hl => ?_)
        rw [← ek] at hT
        refine lv_aload_n hx hb dX5_plan_236 rfl (lv_at hl 0 rfl) ?_
        refine va_get (D := D) (ci := 5) (v := .ref (ad 20)) (C := RX5) (T := TX5) (N := 27) hx hb ht inX5 hown hK hP 0 g_Md rfl 24 (by decide) (ht _ mw_597) (fun _ h9 => h9) rfl dX5_plan_237 ?_
        refine lv_iload hx hb dX5_plan_240 (lv_at hl 4 rfl) ?_
        refine lv_aload_n hx hb dX5_plan_242 rfl (lv_at hl 0 rfl) ?_
        refine va_get (D := D) (ci := 5) (v := .ref (ad 21)) (C := RX5) (T := TX5) (N := 27) hx hb ht inX5 hown hK hP 0 g_Md rfl 25 (by decide) (ht _ mw_598) (fun _ h9 => h9) rfl dX5_plan_243 ?_
        refine lv_iload hx hb dX5_plan_246 (lv_at hl 5 rfl) ?_
        refine va_iald (i := nI k) hx hb hK hP 21 0 g_m_chosen rfl (vp_in_nI (by omega) (by decide)) dX5_plan_248 ?_
        rw [nI_clamp (n := k) (by omega)]
        refine va_iast (i := nI s7) (x := gA τ 21 k) hx hb hK hP hD hS 20 0 g_m_plan rfl (vp_in_nI (by omega) (by decide)) dX5_plan_249 (fun H locs hP hD hS => ?_)
        rw [nI_clamp (n := s7) (by omega)] at hP hD
        rw [s_m_plan] at hP hD
        refine lv_iload hx hb dX5_plan_250 (lv_at hl 3 rfl) ?_
        refine lv_iconst (v := 1) hx hb dX5_plan_252 (by decide) ?_
        refine lv_iload hx hb dX5_plan_253 (lv_at hl 5 rfl) ?_
        refine lv_ishl hx hb dX5_plan_255 ?_
        refine lv_ior hx hb dX5_plan_256 ?_
        refine lv_topE (or_nI (by omega)) ?_
        refine lv_istore (lv' := [(6, .int (nI (z ||| 2 ^ k))), (0, .ref (ad 0)), (1, .int (nI j1)), (4, .int (nI j2)), (7, .int (nI s7)), (8, .int (nI k))]) hx hb dX5_plan_257 hl (by decide) rfl (fun ls hl => ?_)
        refine lv_iinc (v := nI (s7 + 1)) (lv' := [(7, .int (nI (s7 + 1))), (6, .int (nI (z ||| 2 ^ k))), (0, .ref (ad 0)), (1, .int (nI j1)), (4, .int (nI j2)), (8, .int (nI k))]) hx hb dX5_plan_259 hl (k := 4) rfl (nI_1 s7) (by decide) rfl (fun ls hl => ?_)
        refine lv_goto (tgt := 171) hx hb dX5_plan_262 (by decide) ?_
        have hbit := nxt_bit (by omega) (by omega) hnx
        exact ih (s7 + 1) (z ||| 2 ^ k) (sA τ 20 s7 (gA τ 21 k)) _ _ ls (by omega) (by omega) (hI0.kA (by decide) (by decide) (by decide) (by decide) (by decide)) (fun q hq => by rw [gA_sA, if_neg (fun w => absurd w.1 (by decide))]; exact hc q hq) hdp.set (Nat.or_lt_two_pow hz (Nat.pow_lt_pow_right (by decide) hk)) (by rw [gA_sA, if_neg (fun w => absurd w.1 (by decide))]; exact hnx.2.1) (by rw [cnt_up z (by omega) k (by omega) hbit, hz3]) hP hD hS (lv_sub hl [2, 3, 4, 1, 0] rfl) hT
  have L_53 : ∀ (n i153 : Nat) (x53_3 : Int32) (x53_4 : Int32) (x53_5 : Int32) (τ53 : St) (H : Heap) (locs : List Loc) (ls : Array Slot), i153 ≤ 12 → 13 ≤ i153 + n → IM τ53 → vp_in p1 10 → (0 ≤ x53_4.toInt ∧ x53_4.toInt ≤ ((i153 : Nat) : Int)) → (∀ k : Nat, k < 10 → (k : Int) < x53_4.toInt → vp_in (gA τ53 21 k) 12) → va_P D vwCl (wM ad kk τ53) H → va_D (aL 23 ad s.heap.size) (wM ad kk τ53) → va_S (aL 23 ad s.heap.size) s.heap H locs → lv_has ls 9 [(0, .ref (ad 0)), (1, .int p1), (2, .int p2), (3, .int x53_3), (4, .int x53_4), (5, .int x53_5), (6, .int (nI i153))] → M_m_plan_h53 n i153 x53_3 x53_4 x53_5 τ53 p1 = T → W p l e (headSpec wsX5_plan { frames := 3, cells := 0, slots := 0, locals := 76 }).room s m ([.ref (ad 0), .int p1, .int p2] : List Value).toArray below meth c H locs 0 0 Q (F0 m 53 ls []) := by
    intro n
    induction n with
    | zero =>
      intro i153 x53_3 x53_4 x53_5 τ53 H locs ls h_le h_fu hv0 hv1 hv2 hv3 hP hD hS hl hT
      exact absurd h_fu (by omega)
    | succ n ih =>
      intro i153 x53_3 x53_4 x53_5 τ53 H locs ls h_le h_fu hv0 hv1 hv2 hv3 hP hD hS hl hT
      rw [M_m_plan_h53] at hT
      refine lv_iload hx hb dX5_plan_53 (lv_at hl 6 rfl) ?_
      refine lv_bipush (v := 12) hx hb dX5_plan_55 (by decide) ?_
      refine lv_icmp_ge (tgt := 138) hx hb dX5_plan_57 (by decide) (fun c8 => ?_) (fun c8 => ?_)
      · rw [if_pos c8] at hT
        refine lv_iload hx hb dX5_plan_138 (lv_at hl 4 rfl) ?_
        refine lv_bipush (v := 10) hx hb dX5_plan_140 (by decide) ?_
        refine lv_icmp_le (tgt := 148) hx hb dX5_plan_142 (by decide) (fun c9 => ?_) (fun c9 => ?_)
        · rw [if_pos c9] at hT
          have hn9 := c9
          refine lv_iload hx hb dX5_plan_148 (lv_at hl 5 rfl) ?_
          refine lv_if_eq (tgt := 163) hx hb dX5_plan_150 (by decide) (fun c10 => ?_) (fun c10 => ?_)
          · rw [if_pos c10] at hT
            refine lv_iconst (v := (-1)) hx hb dX5_plan_163 (by decide) ?_
            rw [eQ]
            exact W.iret (v := (-1)) hx hb hr (fun t ht hW => ⟨⟨(-1), τ53, rfl, hT, by rw [ht]; exact hP, va_K.moved hW.alike hK, hD⟩, hS.F ht⟩) hS.2.2 dX5_plan_164
          · rw [if_neg c10] at hT
            refine lv_aload_n hx hb dX5_plan_153 rfl (lv_at hl 0 rfl) ?_
            refine lv_iload_n hx hb dX5_plan_154 rfl (lv_at hl 1 rfl) ?_
            refine lv_iload hx hb dX5_plan_155 (lv_at hl 4 rfl) ?_
            refine kM_i (va_runV (As := [.int p1, .int x53_4]) (rest := []) CF (k_m_orders l D ad kk _ τ53 p1 x53_4 hv1 (pl_n11 hv2.1 hn9) hv0 (pl_hc hv2.1 hn9 hv3)) ⟨callB_of 2 hts (gT mw_786) rfl rfl rfl (ht _ mw_6) (ht _ mw_783) (by decide +kernel) ⟨Nat.le_of_ble_eq_true rfl, Nat.le_of_ble_eq_true rfl⟩, (ht _ mw_785), (ht _ ms_35)⟩ (preV_M hK hP hD hS (ci := 5) rfl rfl g_Md) rfl rfl hl.1 rfl (lv_room (Nat.le_of_ble_eq_true rfl)) dX5_plan_157 ⟨Nat.le_of_ble_eq_true rfl, Nat.le_of_ble_eq_true rfl⟩) hS (fun r11 σ12 H locs hw hP hD hS => ?_)
            rw [← hw, pb_mk] at hT
            have h_r11 := hw
            have ho := h_r11
            refine lv_if_ne (tgt := 165) hx hb dX5_plan_160 (by decide) (fun c13 => ?_) (fun c13 => ?_)
            · rw [if_neg c13] at hT
              have hr9 := c13
              obtain ⟨j1, hj1, e1, ec1⟩ := vin_nI hv1 (by decide)
              obtain ⟨j2, hj2, e2, ec2⟩ := vin_nI (pl_n11 hv2.1 hn9) (by decide)
              have hq := pl_ord (j1 := j1) (j2 := j2) hj1 hj2 hv0 (by rw [← e2]; exact pl_hc hv2.1 hn9 hv3) (by rw [← e1, ← e2]; exact ho) hr9
              rw [T_plan, ec1, ec2, e2] at hT
              refine lv_iconst (v := 0) hx hb dX5_plan_165 (by decide) ?_
              refine lv_istore (lv' := [(6, .int 0), (0, .ref (ad 0)), (1, .int p1), (2, .int p2), (3, .int x53_3), (4, .int x53_4), (5, .int x53_5)]) hx hb dX5_plan_166 hl (by decide) rfl (fun ls hl => ?_)
              refine lv_iconst (v := 0) hx hb dX5_plan_168 (by decide) ?_
              refine lv_istore (lv' := [(7, .int 0), (6, .int 0), (0, .ref (ad 0)), (1, .int p1), (2, .int p2), (3, .int x53_3), (4, .int x53_4), (5, .int x53_5)]) hx hb dX5_plan_169 hl (by decide) rfl (fun ls hl => ?_)
              have hl : lv_has ls 9 [(0, .ref (ad 0)), (1, .int (nI j1)), (4, .int (nI j2)), (6, .int (nI 0)), (7, .int (nI 0))] := by rw [← e1, ← e2]; exact lv_sub hl [2, 3, 6, 1, 0] rfl
              exact L_171 j1 j2 hj1 hj2 11 0 0 σ12 _ _ ls (Nat.zero_le _) (by omega) hq.1 hq.2.1 hq.2.2.1 (Nat.two_pow_pos _) hq.2.2.2 (by decide) hP hD hS hl hT
            · rw [if_pos c13] at hT
              refine lv_iconst (v := (-1)) hx hb dX5_plan_163 (by decide) ?_
              rw [eQ]
              exact W.iret (v := (-1)) hx hb hr (fun t ht hW => ⟨⟨(-1), σ12, rfl, hT, by rw [ht]; exact hP, va_K.moved hW.alike hK, hD⟩, hS.F ht⟩) hS.2.2 dX5_plan_164
        · rw [if_neg c9] at hT
          refine lv_bipush (v := (-2)) hx hb dX5_plan_145 (by decide) ?_
          rw [eQ]
          exact W.iret (v := (-2)) hx hb hr (fun t ht hW => ⟨⟨(-2), τ53, rfl, hT, by rw [ht]; exact hP, va_K.moved hW.alike hK, hD⟩, hS.F ht⟩) hS.2.2 dX5_plan_147
      · rw [if_neg c8] at hT
        have h_lt := lp_lt (N := 12) (by decide) (by decide) h_le c8
        refine lv_iload_n hx hb dX5_plan_60 rfl (lv_at hl 3 rfl) ?_
        refine lv_iload hx hb dX5_plan_61 (lv_at hl 6 rfl) ?_
        refine lv_ishr hx hb dX5_plan_63 ?_
        refine lv_iconst (v := 1) hx hb dX5_plan_64 (by decide) ?_
        refine lv_iand hx hb dX5_plan_65 ?_
        refine lv_iconst (v := 1) hx hb dX5_plan_66 (by decide) ?_
        refine lv_icmp_ne (tgt := 132) hx hb dX5_plan_67 (by decide) (fun c14 => ?_) (fun c14 => ?_)
        · rw [if_neg c14] at hT
          refine lv_iinc (v := nI (i153 + 1)) (lv' := [(6, .int (nI (i153 + 1))), (0, .ref (ad 0)), (1, .int p1), (2, .int p2), (3, .int x53_3), (4, .int x53_4), (5, .int x53_5)]) hx hb dX5_plan_132 hl (k := 6) rfl (nI_1 i153) (by decide) rfl (fun ls hl => ?_)
          refine lv_goto (tgt := 53) hx hb dX5_plan_135 (by decide) ?_
          exact ih  (i153 + 1) x53_3 x53_4 x53_5 τ53 _ _ ls h_lt (by omega) (by first | exact hv0 | exact hv0.kA (by decide) (by decide) (by decide) (by decide) (by decide)) hv1 (by first | exact pl_n hv2 h_lt | exact ⟨hv2.1, by omega⟩) (by first | exact hv3 | exact pl_ch1 hc9 hv2 h_lt hv3 | exact pl_ch2 hc9 hv2 h_lt hv3) hP hD hS (lv_sub hl [1, 2, 3, 4, 5, 6, 0] rfl) hT
        · rw [if_pos c14] at hT
          refine lv_aload_n hx hb dX5_plan_70 rfl (lv_at hl 0 rfl) ?_
          refine lv_iload_n hx hb dX5_plan_71 rfl (lv_at hl 1 rfl) ?_
          refine lv_iload hx hb dX5_plan_72 (lv_at hl 6 rfl) ?_
          refine kM_r (va_runV (As := [.int p1, .int (nI i153)]) (rest := []) CF (k_m_latest l D ad kk _ τ53 p1 (nI i153) hv1 hv0) ⟨callB_of 2 hts (gT mw_741) rfl rfl rfl (ht _ mw_6) (ht _ mw_738) (by decide +kernel) ⟨Nat.le_of_ble_eq_true rfl, Nat.le_of_ble_eq_true rfl⟩, (ht _ mw_740), (ht _ ms_31)⟩ (preV_M hK hP hD hS (ci := 5) rfl rfl g_Md) rfl rfl hl.1 rfl (lv_room (Nat.le_of_ble_eq_true rfl)) dX5_plan_74 ⟨Nat.le_of_ble_eq_true rfl, Nat.le_of_ble_eq_true rfl⟩) hS (fun H locs hP hD hS => ?_)
          refine lv_iconst (v := (-1)) hx hb dX5_plan_77 (by decide) ?_
          refine lv_icmp_ne (tgt := 132) hx hb dX5_plan_78 (by decide) (fun c15 => ?_) (fun c15 => ?_)
          · rw [if_neg c15] at hT
            refine lv_iinc (v := nI (i153 + 1)) (lv' := [(6, .int (nI (i153 + 1))), (0, .ref (ad 0)), (1, .int p1), (2, .int p2), (3, .int x53_3), (4, .int x53_4), (5, .int x53_5)]) hx hb dX5_plan_132 hl (k := 6) rfl (nI_1 i153) (by decide) rfl (fun ls hl => ?_)
            refine lv_goto (tgt := 53) hx hb dX5_plan_135 (by decide) ?_
            exact ih  (i153 + 1) x53_3 x53_4 x53_5 τ53 _ _ ls h_lt (by omega) (by first | exact hv0 | exact hv0.kA (by decide) (by decide) (by decide) (by decide) (by decide)) hv1 (by first | exact pl_n hv2 h_lt | exact ⟨hv2.1, by omega⟩) (by first | exact hv3 | exact pl_ch1 hc9 hv2 h_lt hv3 | exact pl_ch2 hc9 hv2 h_lt hv3) hP hD hS (lv_sub hl [1, 2, 3, 4, 5, 6, 0] rfl) hT
          · rw [if_pos c15] at hT
            refine lv_iload hx hb dX5_plan_81 (lv_at hl 5 rfl) ?_
            refine jn (α := Int32) (E := (if x53_5 = 0 then 0 else (if (gF τ53 0 3) ≤ (nI i153) then 0 else (if (M_m_barred τ53 p1 (nI i153)) = (-1) then 1 else 0)))) (Kp := fun y => ∀ (H : Heap) (locs : List Loc), va_P D vwCl (wM ad kk τ53) H → va_D (aL 23 ad s.heap.size) (wM ad kk τ53) → va_S (aL 23 ad s.heap.size) s.heap H locs → W p l e (headSpec wsX5_plan { frames := 3, cells := 0, slots := 0, locals := 76 }).room s m ([.ref (ad 0), .int p1, .int p2] : List Value).toArray below meth c H locs 0 0 Q (F0 m 111 ls (.int y :: []))) (fun Vy16 hVy16 Ky16 => ?_) (fun y16 hy_y16 => ?_)
            · refine lv_if_eq (tgt := 110) hx hb dX5_plan_83 (by decide) (fun c17 => ?_) (fun c17 => ?_)
              · rw [if_pos c17] at hVy16
                refine lv_iconst (v := 0) hx hb dX5_plan_110 (by decide) ?_
                exact Ky16 0 hVy16 _ _ hP hD hS
              · rw [if_neg c17] at hVy16
                refine lv_iload hx hb dX5_plan_86 (lv_at hl 6 rfl) ?_
                refine lv_aload_n hx hb dX5_plan_88 rfl (lv_at hl 0 rfl) ?_
                refine va_get (D := D) (ci := 5) (v := .int (gF τ53 0 3)) (C := RX5) (T := TX5) (N := 27) hx hb ht inX5 hown hK hP 0 g_Md rfl 3 (by decide) (ht _ mw_576) (fun _ h9 => h9) rfl dX5_plan_89 ?_
                refine lv_icmp_ge (tgt := 110) hx hb dX5_plan_92 (by decide) (fun c18 => ?_) (fun c18 => ?_)
                · rw [if_pos c18] at hVy16
                  refine lv_iconst (v := 0) hx hb dX5_plan_110 (by decide) ?_
                  exact Ky16 0 hVy16 _ _ hP hD hS
                · rw [if_neg c18] at hVy16
                  refine lv_aload_n hx hb dX5_plan_95 rfl (lv_at hl 0 rfl) ?_
                  refine lv_iload_n hx hb dX5_plan_96 rfl (lv_at hl 1 rfl) ?_
                  refine lv_iload hx hb dX5_plan_97 (lv_at hl 6 rfl) ?_
                  refine kM_r (va_runV (As := [.int p1, .int (nI i153)]) (rest := []) CF (k_m_barred l D ad kk _ τ53 p1 (nI i153) hv1 (vp_in_nI (n := i153) (by omega) (by decide)) hv0) ⟨callB_of 2 hts (gT mw_733) rfl rfl rfl (ht _ mw_6) (ht _ mw_730) (by decide +kernel) ⟨Nat.le_of_ble_eq_true rfl, Nat.le_of_ble_eq_true rfl⟩, (ht _ mw_732), (ht _ ms_29)⟩ (preV_M hK hP hD hS (ci := 5) rfl rfl g_Md) rfl rfl hl.1 rfl (lv_room (Nat.le_of_ble_eq_true rfl)) dX5_plan_99 ⟨Nat.le_of_ble_eq_true rfl, Nat.le_of_ble_eq_true rfl⟩) hS (fun H locs hP hD hS => ?_)
                  refine lv_iconst (v := (-1)) hx hb dX5_plan_102 (by decide) ?_
                  refine lv_icmp_ne (tgt := 110) hx hb dX5_plan_103 (by decide) (fun c19 => ?_) (fun c19 => ?_)
                  · rw [if_neg c19] at hVy16
                    refine lv_iconst (v := 0) hx hb dX5_plan_110 (by decide) ?_
                    exact Ky16 0 hVy16 _ _ hP hD hS
                  · rw [if_pos c19] at hVy16
                    refine lv_iconst (v := 1) hx hb dX5_plan_106 (by decide) ?_
                    refine lv_goto (tgt := 111) hx hb dX5_plan_107 (by decide) ?_
                    exact Ky16 1 hVy16 _ _ hP hD hS
            · intro H locs hP hD hS
              rw [← hy_y16, vb_eq] at hT
              have b_y16 : y16 = 0 ∨ y16 = 1 := by rw [hy_y16]; (repeat' split) <;> first | exact Or.inl rfl | exact Or.inr rfl
              refine lv_istore (lv' := [(5, .int y16), (0, .ref (ad 0)), (1, .int p1), (2, .int p2), (3, .int x53_3), (4, .int x53_4), (6, .int (nI i153))]) hx hb dX5_plan_111 hl (by decide) rfl (fun ls hl => ?_)
              refine lv_iload hx hb dX5_plan_113 (lv_at hl 5 rfl) ?_
              refine lv_bipush (v := 10) hx hb dX5_plan_115 (by decide) ?_
              refine lv_icmp_ge (tgt := 129) hx hb dX5_plan_117 (by decide) (fun c20 => ?_) (fun c20 => ?_)
              · rw [if_pos c20] at hT
                have hc9 := c20
                refine lv_iinc (v := x53_4 + 1) (lv' := [(4, .int (x53_4 + 1)), (5, .int y16), (0, .ref (ad 0)), (1, .int p1), (2, .int p2), (3, .int x53_3), (6, .int (nI i153))]) hx hb dX5_plan_129 hl (k := 5) rfl rfl (by decide) rfl (fun ls hl => ?_)
                refine lv_iinc (v := nI (i153 + 1)) (lv' := [(6, .int (nI (i153 + 1))), (4, .int (x53_4 + 1)), (5, .int y16), (0, .ref (ad 0)), (1, .int p1), (2, .int p2), (3, .int x53_3)]) hx hb dX5_plan_132 hl (k := 6) rfl (nI_1 i153) (by decide) rfl (fun ls hl => ?_)
                refine lv_goto (tgt := 53) hx hb dX5_plan_135 (by decide) ?_
                exact ih  (i153 + 1) x53_3 (x53_4 + 1) y16 τ53 _ _ ls h_lt (by omega) (by first | exact hv0 | exact hv0.kA (by decide) (by decide) (by decide) (by decide) (by decide)) hv1 (by first | exact pl_n hv2 h_lt | exact ⟨hv2.1, by omega⟩) (by first | exact hv3 | exact pl_ch1 hc9 hv2 h_lt hv3 | exact pl_ch2 hc9 hv2 h_lt hv3) hP hD hS (lv_sub hl [3, 4, 5, 6, 1, 2, 0] rfl) hT
              · rw [if_neg c20] at hT
                have hc9 := c20
                refine lv_aload_n hx hb dX5_plan_120 rfl (lv_at hl 1 rfl) ?_
                refine va_get (D := D) (ci := 5) (v := .ref (ad 21)) (C := RX5) (T := TX5) (N := 27) hx hb ht inX5 hown hK hP 0 g_Md rfl 25 (by decide) (ht _ mw_598) (fun _ h9 => h9) rfl dX5_plan_121 ?_
                refine lv_iload hx hb dX5_plan_124 (lv_at hl 5 rfl) ?_
                refine lv_iload hx hb dX5_plan_126 (lv_at hl 6 rfl) ?_
                refine va_iast (i := x53_4) (x := nI i153) hx hb hK hP hD hS 21 0 g_m_chosen rfl (pl_ob hc9 hv2) dX5_plan_128 (fun H locs hP hD hS => ?_)
                rw [s_m_chosen] at hP hD
                refine lv_iinc (v := x53_4 + 1) (lv' := [(4, .int (x53_4 + 1)), (5, .int y16), (0, .ref (ad 0)), (1, .int p1), (2, .int p2), (3, .int x53_3), (6, .int (nI i153))]) hx hb dX5_plan_129 hl (k := 5) rfl rfl (by decide) rfl (fun ls hl => ?_)
                refine lv_iinc (v := nI (i153 + 1)) (lv' := [(6, .int (nI (i153 + 1))), (4, .int (x53_4 + 1)), (5, .int y16), (0, .ref (ad 0)), (1, .int p1), (2, .int p2), (3, .int x53_3)]) hx hb dX5_plan_132 hl (k := 6) rfl (nI_1 i153) (by decide) rfl (fun ls hl => ?_)
                refine lv_goto (tgt := 53) hx hb dX5_plan_135 (by decide) ?_
                exact ih  (i153 + 1) x53_3 (x53_4 + 1) y16 (sA τ53 21 x53_4.toNatClampNeg (nI i153)) _ _ ls h_lt (by omega) (by first | exact hv0 | exact hv0.kA (by decide) (by decide) (by decide) (by decide) (by decide)) hv1 (by first | exact pl_n hv2 h_lt | exact ⟨hv2.1, by omega⟩) (by first | exact hv3 | exact pl_ch1 hc9 hv2 h_lt hv3 | exact pl_ch2 hc9 hv2 h_lt hv3) hP hD hS (lv_sub hl [3, 4, 5, 6, 1, 2, 0] rfl) hT
  rw [M_m_plan] at hT
  refine lv_aload_n hx hb dX5_plan_0 rfl (lv_at hl 0 rfl) ?_
  refine lv_aload_n hx hb dX5_plan_1 rfl (lv_at hl 0 rfl) ?_
  refine lv_iload_n hx hb dX5_plan_2 rfl (lv_at hl 1 rfl) ?_
  refine kM_r (va_runV (As := [.int p1]) (rest := [.ref (ad 0)]) CF (k_m_isObject l D ad kk _ σ p1) ⟨callB_of 1 hts (gT mw_709) rfl rfl rfl (ht _ mw_6) (ht _ mw_706) (by decide +kernel) ⟨Nat.le_of_ble_eq_true rfl, Nat.le_of_ble_eq_true rfl⟩, (ht _ mw_708), (ht _ ms_27)⟩ (preV_M hK hP hD hS (ci := 5) rfl rfl g_Md) rfl rfl hl.1 rfl (lv_room (Nat.le_of_ble_eq_true rfl)) dX5_plan_3 ⟨Nat.le_of_ble_eq_true rfl, Nat.le_of_ble_eq_true rfl⟩) hS (fun H locs hP hD hS => ?_)
  refine jn (α := Int32) (E := (if (M_m_isObject σ p1) = 0 then 0 else (if p2 < 0 then 0 else (if ((1 : Int32) <<< ((gF σ 0 3) &&& 31)) ≤ p2 then 0 else 1)))) (Kp := fun y => ∀ (H : Heap) (locs : List Loc), va_P D vwCl (wM ad kk σ) H → va_D (aL 23 ad s.heap.size) (wM ad kk σ) → va_S (aL 23 ad s.heap.size) s.heap H locs → W p l e (headSpec wsX5_plan { frames := 3, cells := 0, slots := 0, locals := 76 }).room s m ([.ref (ad 0), .int p1, .int p2] : List Value).toArray below meth c H locs 0 0 Q (F0 m 28 ls (.int y :: .ref (ad 0) :: []))) (fun Vy1 hVy1 Ky1 => ?_) (fun y1 hy_y1 => ?_)
  · refine lv_if_eq (tgt := 27) hx hb dX5_plan_6 (by decide) (fun c2 => ?_) (fun c2 => ?_)
    · rw [if_pos c2] at hVy1
      refine lv_iconst (v := 0) hx hb dX5_plan_27 (by decide) ?_
      exact Ky1 0 hVy1 _ _ hP hD hS
    · rw [if_neg c2] at hVy1
      refine lv_iload_n hx hb dX5_plan_9 rfl (lv_at hl 2 rfl) ?_
      refine lv_if_lt (tgt := 27) hx hb dX5_plan_10 (by decide) (fun c3 => ?_) (fun c3 => ?_)
      · rw [if_pos c3] at hVy1
        refine lv_iconst (v := 0) hx hb dX5_plan_27 (by decide) ?_
        exact Ky1 0 hVy1 _ _ hP hD hS
      · rw [if_neg c3] at hVy1
        refine lv_iload_n hx hb dX5_plan_13 rfl (lv_at hl 2 rfl) ?_
        refine lv_iconst (v := 1) hx hb dX5_plan_14 (by decide) ?_
        refine lv_aload_n hx hb dX5_plan_15 rfl (lv_at hl 0 rfl) ?_
        refine va_get (D := D) (ci := 5) (v := .int (gF σ 0 3)) (C := RX5) (T := TX5) (N := 27) hx hb ht inX5 hown hK hP 0 g_Md rfl 3 (by decide) (ht _ mw_576) (fun _ h9 => h9) rfl dX5_plan_16 ?_
        refine lv_ishl hx hb dX5_plan_19 ?_
        refine lv_icmp_ge (tgt := 27) hx hb dX5_plan_20 (by decide) (fun c4 => ?_) (fun c4 => ?_)
        · rw [if_pos c4] at hVy1
          refine lv_iconst (v := 0) hx hb dX5_plan_27 (by decide) ?_
          exact Ky1 0 hVy1 _ _ hP hD hS
        · rw [if_neg c4] at hVy1
          refine lv_iconst (v := 1) hx hb dX5_plan_23 (by decide) ?_
          refine lv_goto (tgt := 28) hx hb dX5_plan_24 (by decide) ?_
          exact Ky1 1 hVy1 _ _ hP hD hS
  · intro H locs hP hD hS
    rw [← hy_y1, vb_eq] at hT
    have h1 := hy_y1
    have b_y1 : y1 = 0 ∨ y1 = 1 := by rw [hy_y1]; (repeat' split) <;> first | exact Or.inl rfl | exact Or.inr rfl
    refine lv_iconst (v := 1) hx hb dX5_plan_28 (by decide) ?_
    refine lv_iconst (v := 1) hx hb dX5_plan_29 (by decide) ?_
    refine kM_i (va_runV (As := [.int y1, .int 1, .int 1]) (rest := []) CF (k_m_goes l D ad kk _ σ y1 1 1) ⟨callB_of 3 hts (gT mw_668) rfl rfl rfl (ht _ mw_6) (ht _ mw_665) (by decide +kernel) ⟨Nat.le_of_ble_eq_true rfl, Nat.le_of_ble_eq_true rfl⟩, (ht _ mw_667), (ht _ ms_23)⟩ (preV_M hK hP hD hS (ci := 5) rfl rfl g_Md) rfl rfl hl.1 rfl (lv_room (Nat.le_of_ble_eq_true rfl)) dX5_plan_30 ⟨Nat.le_of_ble_eq_true rfl, Nat.le_of_ble_eq_true rfl⟩) hS (fun r5 σ6 H locs hw hP hD hS => ?_)
    rw [← hw, pb_mk] at hT
    have h_r5 := hw
    have hg := h_r5
    have hI1 := IM.goes hI h_r5
    refine lv_if_ne (tgt := 38) hx hb dX5_plan_33 (by decide) (fun c7 => ?_) (fun c7 => ?_)
    · rw [if_neg c7] at hT
      have hv := and1 h1 (goes_ok hg c7).1
      refine lv_aload_n hx hb dX5_plan_38 rfl (lv_at hl 0 rfl) ?_
      refine lv_iload_n hx hb dX5_plan_39 rfl (lv_at hl 2 rfl) ?_
      refine kM_r (va_runV (As := [.int p2]) (rest := []) CF (k_m_closed l D ad kk _ σ6 p2 hI1) ⟨callB_of 1 hts (gT mw_782) rfl rfl rfl (ht _ mw_6) (ht _ mw_779) (by decide +kernel) ⟨Nat.le_of_ble_eq_true rfl, Nat.le_of_ble_eq_true rfl⟩, (ht _ mw_781), (ht _ ms_34)⟩ (preV_M hK hP hD hS (ci := 5) rfl rfl g_Md) rfl rfl hl.1 rfl (lv_room (Nat.le_of_ble_eq_true rfl)) dX5_plan_40 ⟨Nat.le_of_ble_eq_true rfl, Nat.le_of_ble_eq_true rfl⟩) hS (fun H locs hP hD hS => ?_)
      refine lv_istore_n (lv' := [(3, .int (M_m_closed σ6 p2)), (0, .ref (ad 0)), (1, .int p1), (2, .int p2)]) hx hb dX5_plan_43 rfl hl (by decide) rfl (fun ls hl => ?_)
      refine lv_iconst (v := 0) hx hb dX5_plan_44 (by decide) ?_
      refine lv_istore (lv' := [(4, .int 0), (3, .int (M_m_closed σ6 p2)), (0, .ref (ad 0)), (1, .int p1), (2, .int p2)]) hx hb dX5_plan_45 hl (by decide) rfl (fun ls hl => ?_)
      refine lv_iconst (v := 1) hx hb dX5_plan_47 (by decide) ?_
      refine lv_istore (lv' := [(5, .int 1), (4, .int 0), (3, .int (M_m_closed σ6 p2)), (0, .ref (ad 0)), (1, .int p1), (2, .int p2)]) hx hb dX5_plan_48 hl (by decide) rfl (fun ls hl => ?_)
      refine lv_iconst (v := 0) hx hb dX5_plan_50 (by decide) ?_
      refine lv_istore (lv' := [(6, .int 0), (5, .int 1), (4, .int 0), (3, .int (M_m_closed σ6 p2)), (0, .ref (ad 0)), (1, .int p1), (2, .int p2)]) hx hb dX5_plan_51 hl (by decide) rfl (fun ls hl => ?_)
      exact L_53 13 0 (M_m_closed σ6 p2) 0 1 σ6 _ _ ls (Nat.zero_le _) (by decide) hI1 (isO_in hI hv) (by decide) (fun k _ h9 => absurd h9 (by rw [show (0 : Int32).toInt = 0 by decide]; omega)) hP hD hS (lv_sub hl [4, 5, 6, 3, 2, 1, 0] rfl) hT
    · rw [if_pos c7] at hT
      refine lv_iconst (v := 0) hx hb dX5_plan_36 (by decide) ?_
      rw [eQ]
      exact W.iret (v := 0) hx hb hr (fun t ht hW => ⟨⟨0, σ6, rfl, hT, by rw [ht]; exact hP, va_K.moved hW.alike hK, hD⟩, hS.F ht⟩) hS.2.2 dX5_plan_37

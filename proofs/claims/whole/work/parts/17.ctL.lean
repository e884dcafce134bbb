/-! The component's constructor: worlds that grow. -/
def σ0 : St := (fun p j => if (82 ≤ p ∧ p < 94) ∧ j = 3 then -1 else 0, fun _ _ => 0, fun _ _ => 0)
abbrev rfA (g : Nat → Option Nat) : (Nat → Int32) ⊕ (Nat → Int64) ⊕ (Nat → UInt32) ⊕ (Nat → UInt64) ⊕ (Nat → Option Nat) := .inr (.inr (.inr (.inr g)))
def cS (F : List Value) (kI kM kP kG : ClassId) (gm gp gg : Nat → Option Nat) (ad : Nat → Nat) (i : Nat) : va_E :=
  if i = 0 then .inr (4, F) else if i = 3 then .inl (kM, 12, rfA gm) else if i = 40 then .inl (kP, 10, rfA gp) else if i = 81 then .inl (kG, 12, rfA gg) else ctB ad (fun _ => kI) σ0 i
theorem wL_ext {n k : Nat} {ad ad' : Nat → Nat} {ct ct' : Nat → va_E} {l : va_W} (h : ∀ i, i < n → ad' i = ad i ∧ ct' i = ct i) (hl : l.length = k) (h2 : ∀ j, j < k → l[j]? = some (ad' (n + j), ct' (n + j))) : wL n ad ct ++ l = wL (n + k) ad' ct' := by
  apply List.ext_getElem?
  intro i
  rcases Nat.lt_or_ge i n with h1 | h1
  · rw [List.getElem?_append_left (by rw [wL_len]; exact h1), wL_get h1, wL_get (by omega), (h i h1).1, (h i h1).2]
  · rw [List.getElem?_append_right (by rw [wL_len]; exact h1), wL_len]
    rcases Nat.lt_or_ge (i - n) k with h3 | h3
    · rw [h2 _ h3, wL_get (by omega), show n + (i - n) = i by omega]
    · rw [List.getElem?_eq_none (by omega), wL_out (by omega)]
/-- new addresses from place n on -/
def ax (ad : Nat → Nat) (n q0 q1 q2 q3 : Nat) : Nat → Nat := fun i => if i = n then q0 else if i = n + 1 then q1 else if i = n + 2 then q2 else if i = n + 3 then q3 else ad i
theorem ax_lt {ad : Nat → Nat} {n q0 q1 q2 q3 i : Nat} (h : i < n) : ax ad n q0 q1 q2 q3 i = ad i := by
  unfold ax; rw [if_neg (by omega), if_neg (by omega), if_neg (by omega), if_neg (by omega)]
theorem ax_0 {ad : Nat → Nat} {n q0 q1 q2 q3 : Nat} : ax ad n q0 q1 q2 q3 n = q0 := by unfold ax; rw [if_pos rfl]
theorem ax_1 {ad : Nat → Nat} {n q0 q1 q2 q3 : Nat} : ax ad n q0 q1 q2 q3 (n + 1) = q1 := by unfold ax; rw [if_neg (by omega), if_pos rfl]
theorem ax_2 {ad : Nat → Nat} {n q0 q1 q2 q3 : Nat} : ax ad n q0 q1 q2 q3 (n + 2) = q2 := by unfold ax; rw [if_neg (by omega), if_neg (by omega), if_pos rfl]
theorem ax_3 {ad : Nat → Nat} {n q0 q1 q2 q3 : Nat} : ax ad n q0 q1 q2 q3 (n + 3) = q3 := by unfold ax; rw [if_neg (by omega), if_neg (by omega), if_neg (by omega), if_pos rfl]
/-- places below n speak of places below n alone -/
def okN (n : Nat) : Bool := (List.range n).all (fun i => (kdB i != 4 || decide (i + 2 < n)) && (kdB i != 7 || decide (i + 3 < n)) && (i == 0 || i == 3 || i == 40 || i == 81 || (kdB i != 0 && kdB i != 3 && kdB i != 6 && kdB i != 10)))
theorem ok_Me : ∀ k, k ≤ 12 → okN (4 + 3 * k) = true := by decide +kernel
theorem ok_Pi : ∀ k, k ≤ 10 → okN (41 + 4 * k) = true := by decide +kernel
theorem ok_Go : ∀ k, k ≤ 12 → okN (82 + k) = true := by decide +kernel
theorem ctB_ad {ad ad' : Nat → Nat} {kk : Nat → ClassId} {σ : St} {i : Nat} (hk : kdB i ≠ 0 ∧ kdB i ≠ 3 ∧ kdB i ≠ 6 ∧ kdB i ≠ 10) (h1 : kdB i = 1 → ad' 2 = ad 2) (h4 : kdB i = 4 → ad' (i + 1) = ad (i + 1) ∧ ad' (i + 2) = ad (i + 2)) (h7 : kdB i = 7 → ad' (i + 1) = ad (i + 1) ∧ ad' (i + 2) = ad (i + 2) ∧ ad' (i + 3) = ad (i + 3)) : ctB ad' kk σ i = ctB ad kk σ i := by
  unfold ctB
  generalize kdB i = q at hk h1 h4 h7
  split
  · exact absurd rfl hk.1
  · simp only [fPad, h1 rfl]
  · simp only [fMe, (h4 rfl).1, (h4 rfl).2]
  · simp only [fPi, (h7 rfl).1, (h7 rfl).2.1, (h7 rfl).2.2]
  · rfl
  · rfl
  · rfl
  · rfl
  · rfl
  · rfl
  · exact absurd rfl hk.2.1
  · exact absurd rfl hk.2.2.1
  · exact absurd rfl hk.2.2.2
  · rfl
theorem cS_keep {F : List Value} {kI kM kP kG : ClassId} {gm gp gg : Nat → Option Nat} {ad ad' : Nat → Nat} {n : Nat} (ok : okN n = true) (hn : 2 < n) (h : ∀ j, j < n → ad' j = ad j) : ∀ i, i < n → cS F kI kM kP kG gm gp gg ad' i = cS F kI kM kP kG gm gp gg ad i := by
  intro i hi
  have h9 := List.all_eq_true.mp ok i (List.mem_range.mpr hi)
  simp only [Bool.and_eq_true, Bool.or_eq_true, bne_iff_ne, ne_eq, decide_eq_true_eq, beq_iff_eq] at h9
  obtain ⟨⟨a4, a7⟩, ak⟩ := h9
  unfold cS
  by_cases e0 : i = 0
  · rw [if_pos e0, if_pos e0]
  rw [if_neg e0, if_neg e0]
  by_cases e3 : i = 3
  · rw [if_pos e3, if_pos e3]
  rw [if_neg e3, if_neg e3]
  by_cases e4 : i = 40
  · rw [if_pos e4, if_pos e4]
  rw [if_neg e4, if_neg e4]
  by_cases e8 : i = 81
  · rw [if_pos e8, if_pos e8]
  rw [if_neg e8, if_neg e8]
  have ak2 : (¬kdB i = 0 ∧ ¬kdB i = 3) ∧ ¬kdB i = 6 ∧ ¬kdB i = 10 := by
    rcases ak with (((h | h) | h) | h) | h
    · exact absurd h e0
    · exact absurd h e3
    · exact absurd h e4
    · exact absurd h e8
    · exact ⟨h.1.1, h.1.2, h.2⟩
  exact ctB_ad ⟨ak2.1.1, ak2.1.2, ak2.2.1, ak2.2.2⟩ (fun _ => h 2 hn) (fun e => by
    rcases a4 with h' | h'
    · exact absurd e h'
    · exact ⟨h _ (by omega), h _ (by omega)⟩) (fun e => by
    rcases a7 with h' | h'
    · exact absurd e h'
    · exact ⟨h _ (by omega), h _ (by omega), h _ (by omega)⟩)
theorem subR {D : va_G} {cl : List vw_C} {w1 w2 : va_W} {H : Heap} (hP : va_P D cl (w2 ++ w1) H) : va_P D cl w1 H := fun k q hq => hP (w2.length + k) q (by rw [List.getElem?_append_right (Nat.le_add_right _ _), Nat.add_sub_cancel_left]; exact hq)
theorem subRD {A : Nat → Prop} {w1 w2 : va_W} (hD : va_D A (w2 ++ w1)) : va_D A w1 :=
  ⟨fun i j p q hp hq e => by
    have := hD.1 (w2.length + i) (w2.length + j) p q (by rw [List.getElem?_append_right (Nat.le_add_right _ _), Nat.add_sub_cancel_left]; exact hp) (by rw [List.getElem?_append_right (Nat.le_add_right _ _), Nat.add_sub_cancel_left]; exact hq) e
    omega, fun k q hq => hD.2 (w2.length + k) q (by rw [List.getElem?_append_right (Nat.le_add_right _ _), Nat.add_sub_cancel_left]; exact hq)⟩
theorem freeR {A : Nat → Prop} {w1 w2 : va_W} {H0 H : Heap} {locs : List Loc} (hD : va_D A (w2 ++ w1)) (hS : va_S A H0 H locs) (hA : ∀ q, H0.size ≤ q → A q) : ∀ q, va_A w1 H.size q → A q := fun q hq => by
  rcases hq with ⟨k, e, hk⟩ | h
  · exact (subRD hD).2 k _ hk
  · exact hA q (Nat.le_trans hS.1 h)
theorem kI_eq {D : va_G} {cl : List vw_C} {t1 t2 : List (ClassId × FieldType)} {U : State} (h1 : va_K D cl t1 U) (h2 : va_K D cl t2 U) {i j : Nat} {a b : ClassId} (e1 : t1[i]? = some (a, .int)) (e2 : t2[j]? = some (b, .int)) : a = b := by
  have q1 := (h1.2 _ _ e1).2
  have q2 := (h2.2 _ _ e2).2
  exact Option.some.inj (q1.symm.trans q2)
/-- what the constructor needs of the start beside words -/
def En (U : State) : Prop := (∀ q ∈ evM, va_Nw (.methodLinkNest q.1 q.2.1 q.2.2.1 q.2.2.2) U) ∧ va_AO "MaterialBars$Method" U ∧ va_AO "MaterialBars$Piece" U ∧ va_AO "MaterialBars$Good" U
theorem En.same {u U : State} (hv : U.vm = u.vm) (h : En u) : En U := ⟨fun q hq => va_Nw.same rfl hv.symm (h.1 q hq), va_AO.moved (by rw [hv]; exact Vm.Alike.refl _) h.2.1, va_AO.moved (by rw [hv]; exact Vm.Alike.refl _) h.2.2.1, va_AO.moved (by rw [hv]; exact Vm.Alike.refl _) h.2.2.2⟩
abbrev ctRm : Room := { frames := 2, cells := 95, slots := 2043, locals := 34 }
def CtC (p : Program) (s : State) (m : MethodId) (meth : Method) (c : Code) (h0 : Nat) : Prop := p.tables.exec = Jvm.exec ∧ c.code = cX4_init ∧ meth.sig.returnType = none ∧ c.maxLocals = 2 ∧ s.vm.findClass RX4 = some m.cls ∧ (∀ w ∈ wsX4_init, w.before ([.ref h0] : List Value).toArray s = true) ∧ meth.name = "<init>" ∧ meth.locks = false ∧ En s
def gk (pl : Nat → Nat) (ad : Nat → Nat) (k : Nat) : Nat → Option Nat := fun j => if j < k then some (ad (pl j)) else none
theorem gk_keep {pl ad ad' : Nat → Nat} {k : Nat} (h : ∀ j, j < k → ad' (pl j) = ad (pl j)) : gk pl ad' k = gk pl ad k := by
  funext j
  unfold gk
  by_cases hj : j < k
  · rw [if_pos hj, if_pos hj, h j hj]
  · rw [if_neg hj, if_neg hj]
theorem gk_up {pl ad : Nat → Nat} {k q : Nat} (h : ad (pl k) = q) : va_up (gk pl ad k) k (some q) = gk pl ad (k + 1) := by
  funext j
  unfold gk va_up
  by_cases e : j = k
  · subst e; rw [if_pos rfl, if_pos (by omega), h]
  · rw [if_neg e]
    show (if j < k then some (ad (pl j)) else none) = _
    by_cases hj : j < k
    · rw [if_pos hj, if_pos (by omega)]
    · rw [if_neg hj, if_neg (by omega)]
theorem σ0_F {p : Nat} (h : p < 82 ∨ 94 ≤ p) (j : Nat) : gF σ0 p j = 0 := by
  show (if (82 ≤ p ∧ p < 94) ∧ j = 3 then (-1 : Int32) else 0) = 0
  rw [if_neg (by omega)]
theorem σ0_G {p : Nat} (h : 82 ≤ p ∧ p < 94) (j : Nat) : gF σ0 p j = if j = 3 then -1 else 0 := by
  show (if (82 ≤ p ∧ p < 94) ∧ j = 3 then (-1 : Int32) else 0) = _
  by_cases e : j = 3
  · rw [if_pos ⟨h, e⟩, if_pos e]
  · rw [if_neg (fun q => e q.2), if_neg e]
theorem σ0_L (p j : Nat) : gL σ0 p j = 0 := rfl
theorem σ0_A (p : Nat) : gA σ0 p = fun _ => 0 := rfl
set_option maxHeartbeats 4000000 in
set_option maxRecDepth 100000 in
theorem cl_Me {p : Program} {l : Launch} {e : Env} {s : State} {m : MethodId} {below : List Frame} {meth : Method} {c : Code} {Q : State → Prop} {h0 : Nat} {D : va_G} {A : Nat → Prop} {F : List Value} {kI kM kP kG : ClassId} {gm gp gg : Nat → Option Nat} {tys : List (ClassId × FieldType)} {aa : Nat} {ad0 : Nat → Nat} (C : CtC p s m meth c h0) (hA : ∀ q, s.heap.size ≤ q → A q) (hK : va_K D vwCl tys s) (hI : tys[0]? = some (kI, .int)) (hR : tys[1]? = some (kM, .object "MaterialBars$Method")) (hF : F[1]? = some (.ref aa))
    (K : ∀ (ad : Nat → Nat) (H : Heap) (locs : List Loc) (ls : Array Slot), ad 0 = h0 → (∀ i, i < 4 → ad i = ad0 i) → va_P D vwCl (wL 40 ad (cS F kI kM kP kG (gk pMe ad 12) gp gg ad)) H → va_D A (wL 40 ad (cS F kI kM kP kG (gk pMe ad 12) gp gg ad)) → va_S A s.heap H locs → lv_has ls 2 [(0, .ref h0)] → W p l e (headSpec wsX4_init ctRm).room s m ([.ref h0] : List Value).toArray below meth c H locs 39 461 Q (F0 m 51 ls [])) :
    ∀ (n k : Nat) (ad : Nat → Nat) (H : Heap) (locs : List Loc) (ls : Array Slot), k ≤ 12 → 13 ≤ k + n → ad 0 = h0 → ad 3 = aa → (∀ i, i < 4 → ad i = ad0 i) → va_P D vwCl (wL (4 + 3 * k) ad (cS F kI kM kP kG (gk pMe ad k) gp gg ad)) H → va_D A (wL (4 + 3 * k) ad (cS F kI kM kP kG (gk pMe ad k) gp gg ad)) → va_S A s.heap H locs → lv_has ls 2 [(0, .ref h0), (1, .int (nI k))] → W p l e (headSpec wsX4_init ctRm).room s m ([.ref h0] : List Value).toArray below meth c H locs (3 + 3 * k) (65 + 33 * k) Q (F0 m 26 ls []) := by
  obtain ⟨hx, hb, hr, hml, hown, hts, hin, hlocks, hE⟩ := C
  have ht : ∀ w ∈ T0, w.before ([.ref h0] : List Value).toArray s = true := fun w h => hts w (List.mem_cons_of_mem _ h)
  have CF : CallFix p m c cX4_init 2 s ([.ref h0] : List Value).toArray wsX4_init RX4 := ⟨hx, hb, hml, hown, hts⟩
  intro n
  induction n with
  | zero =>
    intro k ad H locs ls h1 h2
    exact absurd h2 (by omega)
  | succ n ih =>
    intro k ad H locs ls hk hfu ha0 ha3 hag hP hD hS hl
    refine lv_iload_n hx hb dX4_init_26 rfl (lv_at hl 1 rfl) ?_
    refine lv_bipush (v := 12) hx hb dX4_init_27 (by decide) ?_
    refine lv_icmp_ge (tgt := 51) hx hb dX4_init_29 (by decide) (fun c1 => ?_) (fun c1 => ?_)
    · have e : k = 12 := by
        have h9 := le_toInt c1
        rw [nI_toInt (by omega), show (12 : Int32).toInt = 12 by decide] at h9
        omega
      subst e
      exact K ad H locs ls ha0 hag hP hD hS (lv_sub hl [0] rfl)
    · have hlt := lp_lt (N := 12) (by decide) (by decide) hk c1
      have he : (wL (4 + 3 * k) ad (cS F kI kM kP kG (gk pMe ad k) gp gg ad))[0]? = some (h0, .inr (4, F)) := by rw [wL_get (by omega), ha0]; rfl
      refine lv_aload_n hx hb dX4_init_32 rfl (lv_at hl 0 rfl) ?_
      refine va_get (D := D) (ci := 4) (v := .ref aa) (C := RX4) (T := TX4) (N := 9) hx hb ht inX4 hown hK hP 0 he rfl 1 (by decide) (ht _ mw_160) (fun _ h9 => h9) hF dX4_init_33 ?_
      refine lv_iload_n hx hb dX4_init_36 rfl (lv_at hl 1 rfl) ?_
      refine va_new (ci := 1) (fs := [.null, .null, .int 0, .int 0, .int 0, .int 0, .int 0, .int 0, .int 0]) (C := RX1) (T := TX1) (N := 9) hx hb ht inX1 tyX1 tyX1_ok hown (ht _ mw_44) (ht _ mw_46) (ht _ mw_3) hK hP hD hS hA rfl (fun j hj => by match j, hj with | 0, _ => rfl | 1, _ => rfl | 2, _ => rfl | 3, _ => rfl | 4, _ => rfl | 5, _ => rfl | 6, _ => rfl | 7, _ => rfl | 8, _ => rfl | j + 9, h => exact absurd h (by omega)) (Nat.le_trans (by omega : 3 + 3 * k + 1 ≤ 95) (Nat.le_of_ble_eq_true rfl)) (Nat.le_trans (by omega : 65 + 33 * k + 9 ≤ 2043) (Nat.le_of_ble_eq_true rfl)) dX4_init_37 (fun q0 H hP hD hS => ?_)
      refine lv_dup hx hb dX4_init_40 rfl ?_
      have hFc := freeR hD hS hA
      refine va_callv (va_runIN (As := []) (rest := [.ref q0, .int (nI k), .ref aa]) CF (k_Me_init l D q0 H.size) ⟨va_cnB (host := "MaterialBars") 0 hts (gT mw_49) rfl rfl rfl (hE.1 ("MaterialBars", 22, yX1_init, "MaterialBars") (by decide +kernel)) (ht _ mw_3) (by decide +kernel) ⟨Nat.le_of_ble_eq_true rfl, Nat.le_of_ble_eq_true rfl⟩, rfl, (ht _ mw_48)⟩ ⟨fun a U g mk q => by obtain ⟨z0, z1, zP, zK, zD⟩ := q; exact ⟨z0, z1, zP, va_K.moved (u := U) (U := U.calling g mk a) (Vm.Alike.refl U.vm) zK, zD⟩, fun U hU hW => ⟨rfl, by rw [hU], by rw [hU]; exact subR hP, va_K.moved hW.alike (hK.sub (tys' := []) [] rfl), (subRD hD).weaken (fun _ _ _ _ => trivial)⟩⟩ rfl rfl hl.1 rfl (lv_room (Nat.le_of_ble_eq_true rfl)) dX4_init_41 ⟨Nat.le_trans (by omega : 3 + 3 * k + 1 + 2 ≤ 95) (Nat.le_of_ble_eq_true rfl), Nat.le_trans (by omega : 65 + 33 * k + 9 + 24 ≤ 2043) (Nat.le_of_ble_eq_true rfl)⟩) hS (fun q _ h => hFc q h) hFc (fun u t H1 locs ht1 hvm hw hB hz1 hk1 hS => ?_)
      obtain ⟨hP1, hK1, hD1⟩ := hB
      rw [ht1] at hP1
      have hK1 := va_K.moved hvm.symm hK1
      obtain ⟨hP, hD⟩ := join_R hP hD (fun q h => h) hFc hk1 hP1 hD1
      have ek0 : u.2 0 = kI := kI_eq hK1 hK (i := 0) rfl hI
      have ek1 : u.2 1 = kI := kI_eq hK1 hK (i := 1) rfl hI
      have hax : ∀ i, i < (4 + 3 * k) → (ax ad (4 + 3 * k) q0 (u.1 0) (u.1 1) (0)) i = ad i := fun i hi => ax_lt hi
      have hg : (gk pMe (ax ad (4 + 3 * k) q0 (u.1 0) (u.1 1) (0)) k) = (gk pMe ad k) := gk_keep (fun j hj => hax _ (by unfold pMe; omega))
      have hw9 : wL (4 + 3 * k) ad (cS F kI kM kP kG (gk pMe ad k) gp gg ad) ++ [(q0, .inr (1, [.ref (u.1 0), .ref (u.1 1), .int 0, .int 0, .int 0, .int 0, .int 0, .int 0, .int 0])), (u.1 0, .inl (u.2 0, 12, .inl (fun _ => 0))), (u.1 1, .inl (u.2 1, 12, .inl (fun _ => 0)))] = wL ((4 + 3 * k) + 3) (ax ad (4 + 3 * k) q0 (u.1 0) (u.1 1) (0)) (cS F kI kM kP kG (gk pMe ad k) gp gg (ax ad (4 + 3 * k) q0 (u.1 0) (u.1 1) (0))) := by
        refine wL_ext (fun i hi => ⟨hax i hi, cS_keep (ok_Me k (by omega)) (by omega) hax i hi⟩) rfl (fun j hj => ?_)
        have hz : ∀ i, (4 + 3 * k) ≤ i → i < (4 + 3 * k) + 3 → cS F kI kM kP kG (gk pMe ad k) gp gg  (ax ad (4 + 3 * k) q0 (u.1 0) (u.1 1) (0)) i = ctB (ax ad (4 + 3 * k) q0 (u.1 0) (u.1 1) (0)) (fun _ => kI) σ0 i := fun i h1 h2 => by unfold cS; rw [if_neg (by omega), if_neg (by omega), if_neg (by omega), if_neg (by omega)]
        match j, hj with
        | 0, _ =>
          rw [hz _ (by omega) (by omega), show (4 + 3 * k) + 0 = pMe k by unfold pMe; omega, ct_Me (by omega)]
          rw [show (ax ad (4 + 3 * k) q0 (u.1 0) (u.1 1) (0)) (pMe k) = q0 by rw [show pMe k = (4 + 3 * k) by unfold pMe; omega]; exact ax_0]
          have r1 : ∀ x, (ax ad (4 + 3 * k) q0 (u.1 0) (u.1 1) (0)) (pMe k + (x + 1)) = (ax ad (4 + 3 * k) q0 (u.1 0) (u.1 1) (0)) ((4 + 3 * k) + (x + 1)) := fun x => by rw [show pMe k + (x + 1) = (4 + 3 * k) + (x + 1) by unfold pMe; omega]
          simp only [fMe, σ0_F (show pMe k < 82 ∨ 94 ≤ pMe k by unfold pMe; omega)]
          rw [r1 0, r1 1]
          rw [show (ax ad (4 + 3 * k) q0 (u.1 0) (u.1 1) (0)) ((4 + 3 * k) + (0 + 1)) = u.1 0 from ax_1, show (ax ad (4 + 3 * k) q0 (u.1 0) (u.1 1) (0)) ((4 + 3 * k) + (1 + 1)) = u.1 1 from ax_2]
          rfl
        | 1, _ =>
          rw [hz _ (by omega) (by omega), show (4 + 3 * k) + 1 = pMe k + 1 by unfold pMe; omega, ct_Ma (by omega)]
          rw [show (ax ad (4 + 3 * k) q0 (u.1 0) (u.1 1) (0)) (pMe k + 1) = u.1 0 by rw [show pMe k + 1 = (4 + 3 * k) + 1 by unfold pMe; omega]; exact ax_1, σ0_A, ← ek0]
          rfl
        | 2, _ =>
          rw [hz _ (by omega) (by omega), show (4 + 3 * k) + 2 = pMe k + 2 by unfold pMe; omega, ct_Mh (by omega)]
          rw [show (ax ad (4 + 3 * k) q0 (u.1 0) (u.1 1) (0)) (pMe k + 2) = u.1 1 by rw [show pMe k + 2 = (4 + 3 * k) + 2 by unfold pMe; omega]; exact ax_2, σ0_A, ← ek1]
          rfl
        | j + 3, h => exact absurd h (by omega)
      rw [hw9] at hP hD
      have hra : (wL ((4 + 3 * k) + 3) (ax ad (4 + 3 * k) q0 (u.1 0) (u.1 1) (0)) (cS F kI kM kP kG (gk pMe ad k) gp gg (ax ad (4 + 3 * k) q0 (u.1 0) (u.1 1) (0))))[3]? = some (aa, .inl (kM, 12, rfA (gk pMe (ax ad (4 + 3 * k) q0 (u.1 0) (u.1 1) (0)) k))) := by rw [wL_get (by omega), hax _ (by omega), ha3, hg]; rfl
      have hrk : (wL ((4 + 3 * k) + 3) (ax ad (4 + 3 * k) q0 (u.1 0) (u.1 1) (0)) (cS F kI kM kP kG (gk pMe ad k) gp gg (ax ad (4 + 3 * k) q0 (u.1 0) (u.1 1) (0))))[(4 + 3 * k)]? = some (q0, .inr (1, fMe (ax ad (4 + 3 * k) q0 (u.1 0) (u.1 1) (0)) σ0 (pMe k))) := by
        rw [wL_get (by omega), ax_0]
        unfold cS; rw [if_neg (by omega), if_neg (by omega), if_neg (by omega), if_neg (by omega), show (4 + 3 * k) = pMe k by unfold pMe; omega, ct_Me (by omega)]
      refine va_astq (i := nI k) hx hb hK hP hD hS 3 1 (4 + 3 * k) 1 hra hR hrk rfl (vp_in_nI hlt (by decide)) dX4_init_44 (fun H locs hP hD hS => ?_)
      rw [nI_clamp (n := k) (by omega)] at hP hD
      have hw8 : (wL ((4 + 3 * k) + 3) (ax ad (4 + 3 * k) q0 (u.1 0) (u.1 1) (0)) (cS F kI kM kP kG (gk pMe ad k) gp gg (ax ad (4 + 3 * k) q0 (u.1 0) (u.1 1) (0)))).set 3 (aa, .inl (kM, 12, rfA (va_up (gk pMe (ax ad (4 + 3 * k) q0 (u.1 0) (u.1 1) (0)) k) k (some q0)))) = wL ((4 + 3 * k) + 3) (ax ad (4 + 3 * k) q0 (u.1 0) (u.1 1) (0)) (cS F kI kM kP kG (gk pMe (ax ad (4 + 3 * k) q0 (u.1 0) (u.1 1) (0)) (k + 1)) gp gg (ax ad (4 + 3 * k) q0 (u.1 0) (u.1 1) (0))) := by
        have hge : va_up (gk pMe (ax ad (4 + 3 * k) q0 (u.1 0) (u.1 1) (0)) k) k (some q0) = (gk pMe (ax ad (4 + 3 * k) q0 (u.1 0) (u.1 1) (0)) (k + 1)) := gk_up (by rw [show pMe k = (4 + 3 * k) by unfold pMe; omega]; exact ax_0)
        rw [hge]
        have h3 : (ax ad (4 + 3 * k) q0 (u.1 0) (u.1 1) (0)) 3 = aa := by rw [hax _ (by omega), ha3]
        rw [← h3]
        refine wL_set (by omega) (by unfold cS; rfl) (fun j hj hne => ?_)
        unfold cS
        (repeat' split) <;> first | rfl | (exact absurd (by assumption) hne)
      rw [hw8] at hP hD
      refine lv_iinc (v := nI (k + 1)) (lv' := [(1, .int (nI (k + 1))), (0, .ref h0)]) hx hb dX4_init_45 hl (k := 1) rfl (nI_1 k) (by decide) rfl (fun ls hl => ?_)
      refine lv_goto (tgt := 26) hx hb dX4_init_48 (by decide) ?_
      have hn1 : (4 + 3 * k) + 3 = (4 + 3 * (k + 1)) := by omega
      rw [hn1] at hP hD
      refine W.widen (k := 3 + 3 * (k + 1)) (n := 65 + 33 * (k + 1)) (by omega) (by omega) ?_
      exact ih (k + 1) (ax ad (4 + 3 * k) q0 (u.1 0) (u.1 1) (0)) H locs ls (by omega) (by omega) (by rw [hax _ (by omega), ha0]) (by rw [hax _ (by omega), ha3]) (fun i hi => by rw [hax _ (by omega)]; exact hag i hi) hP hD hS (lv_sub hl [1, 0] rfl)
set_option maxHeartbeats 4000000 in
set_option maxRecDepth 100000 in
theorem cl_Pi {p : Program} {l : Launch} {e : Env} {s : State} {m : MethodId} {below : List Frame} {meth : Method} {c : Code} {Q : State → Prop} {h0 : Nat} {D : va_G} {A : Nat → Prop} {F : List Value} {kI kM kP kG : ClassId} {gm gp gg : Nat → Option Nat} {tys : List (ClassId × FieldType)} {aa : Nat} {ad0 : Nat → Nat} (C : CtC p s m meth c h0) (hA : ∀ q, s.heap.size ≤ q → A q) (hK : va_K D vwCl tys s) (hI : tys[0]? = some (kI, .int)) (hR : tys[2]? = some (kP, .object "MaterialBars$Piece")) (hF : F[2]? = some (.ref aa))
    (K : ∀ (ad : Nat → Nat) (H : Heap) (locs : List Loc) (ls : Array Slot), ad 0 = h0 → (∀ i, i < 41 → ad i = ad0 i) → va_P D vwCl (wL 81 ad (cS F kI kM kP kG gm (gk pPi ad 10) gg ad)) H → va_D A (wL 81 ad (cS F kI kM kP kG gm (gk pPi ad 10) gg ad)) → va_S A s.heap H locs → lv_has ls 2 [(0, .ref h0)] → W p l e (headSpec wsX4_init ctRm).room s m ([.ref h0] : List Value).toArray below meth c H locs 80 1951 Q (F0 m 87 ls [])) :
    ∀ (n k : Nat) (ad : Nat → Nat) (H : Heap) (locs : List Loc) (ls : Array Slot), k ≤ 10 → 11 ≤ k + n → ad 0 = h0 → ad 40 = aa → (∀ i, i < 41 → ad i = ad0 i) → va_P D vwCl (wL (41 + 4 * k) ad (cS F kI kM kP kG gm (gk pPi ad k) gg ad)) H → va_D A (wL (41 + 4 * k) ad (cS F kI kM kP kG gm (gk pPi ad k) gg ad)) → va_S A s.heap H locs → lv_has ls 2 [(0, .ref h0), (1, .int (nI k))] → W p l e (headSpec wsX4_init ctRm).room s m ([.ref h0] : List Value).toArray below meth c H locs (40 + 4 * k) (471 + 148 * k) Q (F0 m 62 ls []) := by
  obtain ⟨hx, hb, hr, hml, hown, hts, hin, hlocks, hE⟩ := C
  have ht : ∀ w ∈ T0, w.before ([.ref h0] : List Value).toArray s = true := fun w h => hts w (List.mem_cons_of_mem _ h)
  have CF : CallFix p m c cX4_init 2 s ([.ref h0] : List Value).toArray wsX4_init RX4 := ⟨hx, hb, hml, hown, hts⟩
  intro n
  induction n with
  | zero =>
    intro k ad H locs ls h1 h2
    exact absurd h2 (by omega)
  | succ n ih =>
    intro k ad H locs ls hk hfu ha0 ha3 hag hP hD hS hl
    refine lv_iload_n hx hb dX4_init_62 rfl (lv_at hl 1 rfl) ?_
    refine lv_bipush (v := 10) hx hb dX4_init_63 (by decide) ?_
    refine lv_icmp_ge (tgt := 87) hx hb dX4_init_65 (by decide) (fun c1 => ?_) (fun c1 => ?_)
    · have e : k = 10 := by
        have h9 := le_toInt c1
        rw [nI_toInt (by omega), show (10 : Int32).toInt = 10 by decide] at h9
        omega
      subst e
      exact K ad H locs ls ha0 hag hP hD hS (lv_sub hl [0] rfl)
    · have hlt := lp_lt (N := 10) (by decide) (by decide) hk c1
      have he : (wL (41 + 4 * k) ad (cS F kI kM kP kG gm (gk pPi ad k) gg ad))[0]? = some (h0, .inr (4, F)) := by rw [wL_get (by omega), ha0]; rfl
      refine lv_aload_n hx hb dX4_init_68 rfl (lv_at hl 0 rfl) ?_
      refine va_get (D := D) (ci := 4) (v := .ref aa) (C := RX4) (T := TX4) (N := 9) hx hb ht inX4 hown hK hP 0 he rfl 2 (by decide) (ht _ mw_161) (fun _ h9 => h9) hF dX4_init_69 ?_
      refine lv_iload_n hx hb dX4_init_72 rfl (lv_at hl 1 rfl) ?_
      refine va_new (ci := 3) (fs := [.null, .null, .null, .int 0, .int 0, .int 0, .int 0, .int 0]) (C := RX3) (T := TX3) (N := 8) hx hb ht inX3 tyX3 tyX3_ok hown (ht _ mw_93) (ht _ mw_95) (ht _ mw_4) hK hP hD hS hA rfl (fun j hj => by match j, hj with | 0, _ => rfl | 1, _ => rfl | 2, _ => rfl | 3, _ => rfl | 4, _ => rfl | 5, _ => rfl | 6, _ => rfl | 7, _ => rfl | j + 8, h => exact absurd h (by omega)) (Nat.le_trans (by omega : 40 + 4 * k + 1 ≤ 95) (Nat.le_of_ble_eq_true rfl)) (Nat.le_trans (by omega : 471 + 148 * k + 8 ≤ 2043) (Nat.le_of_ble_eq_true rfl)) dX4_init_73 (fun q0 H hP hD hS => ?_)
      refine lv_dup hx hb dX4_init_76 rfl ?_
      have hFc := freeR hD hS hA
      refine va_callv (va_runIN (As := []) (rest := [.ref q0, .int (nI k), .ref aa]) CF (k_Pi_init l D q0 H.size) ⟨va_cnB (host := "MaterialBars") 0 hts (gT mw_98) rfl rfl rfl (hE.1 ("MaterialBars", 29, yX3_init, "MaterialBars") (by decide +kernel)) (ht _ mw_4) (by decide +kernel) ⟨Nat.le_of_ble_eq_true rfl, Nat.le_of_ble_eq_true rfl⟩, rfl, (ht _ mw_97)⟩ ⟨fun a U g mk q => by obtain ⟨z0, z1, zP, zK, zD⟩ := q; exact ⟨z0, z1, zP, va_K.moved (u := U) (U := U.calling g mk a) (Vm.Alike.refl U.vm) zK, zD⟩, fun U hU hW => ⟨rfl, by rw [hU], by rw [hU]; exact subR hP, va_K.moved hW.alike (hK.sub (tys' := []) [] rfl), (subRD hD).weaken (fun _ _ _ _ => trivial)⟩⟩ rfl rfl hl.1 rfl (lv_room (Nat.le_of_ble_eq_true rfl)) dX4_init_77 ⟨Nat.le_trans (by omega : 40 + 4 * k + 1 + 3 ≤ 95) (Nat.le_of_ble_eq_true rfl), Nat.le_trans (by omega : 471 + 148 * k + 8 + 140 ≤ 2043) (Nat.le_of_ble_eq_true rfl)⟩) hS (fun q _ h => hFc q h) hFc (fun u t H1 locs ht1 hvm hw hB hz1 hk1 hS => ?_)
      obtain ⟨hP1, hK1, hD1⟩ := hB
      rw [ht1] at hP1
      have hK1 := va_K.moved hvm.symm hK1
      obtain ⟨hP, hD⟩ := join_R hP hD (fun q h => h) hFc hk1 hP1 hD1
      have ek0 : u.2 0 = kI := kI_eq hK1 hK (i := 0) rfl hI
      have ek1 : u.2 1 = kI := kI_eq hK1 hK (i := 1) rfl hI
      have ek2 : u.2 2 = kI := kI_eq hK1 hK (i := 2) rfl hI
      have hax : ∀ i, i < (41 + 4 * k) → (ax ad (41 + 4 * k) q0 (u.1 0) (u.1 1) (u.1 2)) i = ad i := fun i hi => ax_lt hi
      have hg : (gk pPi (ax ad (41 + 4 * k) q0 (u.1 0) (u.1 1) (u.1 2)) k) = (gk pPi ad k) := gk_keep (fun j hj => hax _ (by unfold pPi; omega))
      have hw9 : wL (41 + 4 * k) ad (cS F kI kM kP kG gm (gk pPi ad k) gg ad) ++ [(q0, .inr (3, [.ref (u.1 0), .ref (u.1 1), .ref (u.1 2), .int 0, .int 0, .int 0, .int 0, .int 0])), (u.1 0, .inl (u.2 0, 8, .inl (fun _ => 0))), (u.1 1, .inl (u.2 1, 120, .inl (fun _ => 0))), (u.1 2, .inl (u.2 2, 12, .inl (fun _ => 0)))] = wL ((41 + 4 * k) + 4) (ax ad (41 + 4 * k) q0 (u.1 0) (u.1 1) (u.1 2)) (cS F kI kM kP kG gm (gk pPi ad k) gg (ax ad (41 + 4 * k) q0 (u.1 0) (u.1 1) (u.1 2))) := by
        refine wL_ext (fun i hi => ⟨hax i hi, cS_keep (ok_Pi k (by omega)) (by omega) hax i hi⟩) rfl (fun j hj => ?_)
        have hz : ∀ i, (41 + 4 * k) ≤ i → i < (41 + 4 * k) + 4 → cS F kI kM kP kG gm (gk pPi ad k) gg  (ax ad (41 + 4 * k) q0 (u.1 0) (u.1 1) (u.1 2)) i = ctB (ax ad (41 + 4 * k) q0 (u.1 0) (u.1 1) (u.1 2)) (fun _ => kI) σ0 i := fun i h1 h2 => by unfold cS; rw [if_neg (by omega), if_neg (by omega), if_neg (by omega), if_neg (by omega)]
        match j, hj with
        | 0, _ =>
          rw [hz _ (by omega) (by omega), show (41 + 4 * k) + 0 = pPi k by unfold pPi; omega, ct_Pi (by omega)]
          rw [show (ax ad (41 + 4 * k) q0 (u.1 0) (u.1 1) (u.1 2)) (pPi k) = q0 by rw [show pPi k = (41 + 4 * k) by unfold pPi; omega]; exact ax_0]
          have r1 : ∀ x, (ax ad (41 + 4 * k) q0 (u.1 0) (u.1 1) (u.1 2)) (pPi k + (x + 1)) = (ax ad (41 + 4 * k) q0 (u.1 0) (u.1 1) (u.1 2)) ((41 + 4 * k) + (x + 1)) := fun x => by rw [show pPi k + (x + 1) = (41 + 4 * k) + (x + 1) by unfold pPi; omega]
          simp only [fPi, σ0_F (show pPi k < 82 ∨ 94 ≤ pPi k by unfold pPi; omega)]
          rw [r1 0, r1 1, r1 2]
          rw [show (ax ad (41 + 4 * k) q0 (u.1 0) (u.1 1) (u.1 2)) ((41 + 4 * k) + (0 + 1)) = u.1 0 from ax_1, show (ax ad (41 + 4 * k) q0 (u.1 0) (u.1 1) (u.1 2)) ((41 + 4 * k) + (1 + 1)) = u.1 1 from ax_2, show (ax ad (41 + 4 * k) q0 (u.1 0) (u.1 1) (u.1 2)) ((41 + 4 * k) + (2 + 1)) = u.1 2 from ax_3]
          rfl
        | 1, _ =>
          rw [hz _ (by omega) (by omega), show (41 + 4 * k) + 1 = pPi k + 1 by unfold pPi; omega, ct_Pp (by omega)]
          rw [show (ax ad (41 + 4 * k) q0 (u.1 0) (u.1 1) (u.1 2)) (pPi k + 1) = u.1 0 by rw [show pPi k + 1 = (41 + 4 * k) + 1 by unfold pPi; omega]; exact ax_1, σ0_A, ← ek0]
          rfl
        | 2, _ =>
          rw [hz _ (by omega) (by omega), show (41 + 4 * k) + 2 = pPi k + 2 by unfold pPi; omega, ct_Pr (by omega)]
          rw [show (ax ad (41 + 4 * k) q0 (u.1 0) (u.1 1) (u.1 2)) (pPi k + 2) = u.1 1 by rw [show pPi k + 2 = (41 + 4 * k) + 2 by unfold pPi; omega]; exact ax_2, σ0_A, ← ek1]
          rfl
        | 3, _ =>
          rw [hz _ (by omega) (by omega), show (41 + 4 * k) + 3 = pPi k + 3 by unfold pPi; omega, ct_Pl (by omega)]
          rw [show (ax ad (41 + 4 * k) q0 (u.1 0) (u.1 1) (u.1 2)) (pPi k + 3) = u.1 2 by rw [show pPi k + 3 = (41 + 4 * k) + 3 by unfold pPi; omega]; exact ax_3, σ0_A, ← ek2]
          rfl
        | j + 4, h => exact absurd h (by omega)
      rw [hw9] at hP hD
      have hra : (wL ((41 + 4 * k) + 4) (ax ad (41 + 4 * k) q0 (u.1 0) (u.1 1) (u.1 2)) (cS F kI kM kP kG gm (gk pPi ad k) gg (ax ad (41 + 4 * k) q0 (u.1 0) (u.1 1) (u.1 2))))[40]? = some (aa, .inl (kP, 10, rfA (gk pPi (ax ad (41 + 4 * k) q0 (u.1 0) (u.1 1) (u.1 2)) k))) := by rw [wL_get (by omega), hax _ (by omega), ha3, hg]; rfl
      have hrk : (wL ((41 + 4 * k) + 4) (ax ad (41 + 4 * k) q0 (u.1 0) (u.1 1) (u.1 2)) (cS F kI kM kP kG gm (gk pPi ad k) gg (ax ad (41 + 4 * k) q0 (u.1 0) (u.1 1) (u.1 2))))[(41 + 4 * k)]? = some (q0, .inr (3, fPi (ax ad (41 + 4 * k) q0 (u.1 0) (u.1 1) (u.1 2)) σ0 (pPi k))) := by
        rw [wL_get (by omega), ax_0]
        unfold cS; rw [if_neg (by omega), if_neg (by omega), if_neg (by omega), if_neg (by omega), show (41 + 4 * k) = pPi k by unfold pPi; omega, ct_Pi (by omega)]
      refine va_astq (i := nI k) hx hb hK hP hD hS 40 2 (41 + 4 * k) 3 hra hR hrk rfl (vp_in_nI hlt (by decide)) dX4_init_80 (fun H locs hP hD hS => ?_)
      rw [nI_clamp (n := k) (by omega)] at hP hD
      have hw8 : (wL ((41 + 4 * k) + 4) (ax ad (41 + 4 * k) q0 (u.1 0) (u.1 1) (u.1 2)) (cS F kI kM kP kG gm (gk pPi ad k) gg (ax ad (41 + 4 * k) q0 (u.1 0) (u.1 1) (u.1 2)))).set 40 (aa, .inl (kP, 10, rfA (va_up (gk pPi (ax ad (41 + 4 * k) q0 (u.1 0) (u.1 1) (u.1 2)) k) k (some q0)))) = wL ((41 + 4 * k) + 4) (ax ad (41 + 4 * k) q0 (u.1 0) (u.1 1) (u.1 2)) (cS F kI kM kP kG gm (gk pPi (ax ad (41 + 4 * k) q0 (u.1 0) (u.1 1) (u.1 2)) (k + 1)) gg (ax ad (41 + 4 * k) q0 (u.1 0) (u.1 1) (u.1 2))) := by
        have hge : va_up (gk pPi (ax ad (41 + 4 * k) q0 (u.1 0) (u.1 1) (u.1 2)) k) k (some q0) = (gk pPi (ax ad (41 + 4 * k) q0 (u.1 0) (u.1 1) (u.1 2)) (k + 1)) := gk_up (by rw [show pPi k = (41 + 4 * k) by unfold pPi; omega]; exact ax_0)
        rw [hge]
        have h3 : (ax ad (41 + 4 * k) q0 (u.1 0) (u.1 1) (u.1 2)) 40 = aa := by rw [hax _ (by omega), ha3]
        rw [← h3]
        refine wL_set (by omega) (by unfold cS; rfl) (fun j hj hne => ?_)
        unfold cS
        (repeat' split) <;> first | rfl | (exact absurd (by assumption) hne)
      rw [hw8] at hP hD
      refine lv_iinc (v := nI (k + 1)) (lv' := [(1, .int (nI (k + 1))), (0, .ref h0)]) hx hb dX4_init_81 hl (k := 1) rfl (nI_1 k) (by decide) rfl (fun ls hl => ?_)
      refine lv_goto (tgt := 62) hx hb dX4_init_84 (by decide) ?_
      have hn1 : (41 + 4 * k) + 4 = (41 + 4 * (k + 1)) := by omega
      rw [hn1] at hP hD
      refine W.widen (k := 40 + 4 * (k + 1)) (n := 471 + 148 * (k + 1)) (by omega) (by omega) ?_
      exact ih (k + 1) (ax ad (41 + 4 * k) q0 (u.1 0) (u.1 1) (u.1 2)) H locs ls (by omega) (by omega) (by rw [hax _ (by omega), ha0]) (by rw [hax _ (by omega), ha3]) (fun i hi => by rw [hax _ (by omega)]; exact hag i hi) hP hD hS (lv_sub hl [1, 0] rfl)
set_option maxHeartbeats 4000000 in
set_option maxRecDepth 100000 in
theorem cl_Go {p : Program} {l : Launch} {e : Env} {s : State} {m : MethodId} {below : List Frame} {meth : Method} {c : Code} {Q : State → Prop} {h0 : Nat} {D : va_G} {A : Nat → Prop} {F : List Value} {kI kM kP kG : ClassId} {gm gp gg : Nat → Option Nat} {tys : List (ClassId × FieldType)} {aa : Nat} {ad0 : Nat → Nat} (C : CtC p s m meth c h0) (hA : ∀ q, s.heap.size ≤ q → A q) (hK : va_K D vwCl tys s) (hI : tys[0]? = some (kI, .int)) (hR : tys[3]? = some (kG, .object "MaterialBars$Good")) (hF : F[3]? = some (.ref aa))
    (K : ∀ (ad : Nat → Nat) (H : Heap) (locs : List Loc) (ls : Array Slot), ad 0 = h0 → (∀ i, i < 82 → ad i = ad0 i) → va_P D vwCl (wL 94 ad (cS F kI kM kP kG gm gp (gk pGo ad 12) ad)) H → va_D A (wL 94 ad (cS F kI kM kP kG gm gp (gk pGo ad 12) ad)) → va_S A s.heap H locs → lv_has ls 2 [(0, .ref h0)] → W p l e (headSpec wsX4_init ctRm).room s m ([.ref h0] : List Value).toArray below meth c H locs 93 2023 Q (F0 m 123 ls [])) :
    ∀ (n k : Nat) (ad : Nat → Nat) (H : Heap) (locs : List Loc) (ls : Array Slot), k ≤ 12 → 13 ≤ k + n → ad 0 = h0 → ad 81 = aa → (∀ i, i < 82 → ad i = ad0 i) → va_P D vwCl (wL (82 + k) ad (cS F kI kM kP kG gm gp (gk pGo ad k) ad)) H → va_D A (wL (82 + k) ad (cS F kI kM kP kG gm gp (gk pGo ad k) ad)) → va_S A s.heap H locs → lv_has ls 2 [(0, .ref h0), (1, .int (nI k))] → W p l e (headSpec wsX4_init ctRm).room s m ([.ref h0] : List Value).toArray below meth c H locs (81 + 1 * k) (1963 + 5 * k) Q (F0 m 98 ls []) := by
  obtain ⟨hx, hb, hr, hml, hown, hts, hin, hlocks, hE⟩ := C
  have ht : ∀ w ∈ T0, w.before ([.ref h0] : List Value).toArray s = true := fun w h => hts w (List.mem_cons_of_mem _ h)
  have CF : CallFix p m c cX4_init 2 s ([.ref h0] : List Value).toArray wsX4_init RX4 := ⟨hx, hb, hml, hown, hts⟩
  intro n
  induction n with
  | zero =>
    intro k ad H locs ls h1 h2
    exact absurd h2 (by omega)
  | succ n ih =>
    intro k ad H locs ls hk hfu ha0 ha3 hag hP hD hS hl
    refine lv_iload_n hx hb dX4_init_98 rfl (lv_at hl 1 rfl) ?_
    refine lv_bipush (v := 12) hx hb dX4_init_99 (by decide) ?_
    refine lv_icmp_ge (tgt := 123) hx hb dX4_init_101 (by decide) (fun c1 => ?_) (fun c1 => ?_)
    · have e : k = 12 := by
        have h9 := le_toInt c1
        rw [nI_toInt (by omega), show (12 : Int32).toInt = 12 by decide] at h9
        omega
      subst e
      exact K ad H locs ls ha0 hag hP hD hS (lv_sub hl [0] rfl)
    · have hlt := lp_lt (N := 12) (by decide) (by decide) hk c1
      have he : (wL (82 + k) ad (cS F kI kM kP kG gm gp (gk pGo ad k) ad))[0]? = some (h0, .inr (4, F)) := by rw [wL_get (by omega), ha0]; rfl
      refine lv_aload_n hx hb dX4_init_104 rfl (lv_at hl 0 rfl) ?_
      refine va_get (D := D) (ci := 4) (v := .ref aa) (C := RX4) (T := TX4) (N := 9) hx hb ht inX4 hown hK hP 0 he rfl 3 (by decide) (ht _ mw_162) (fun _ h9 => h9) hF dX4_init_105 ?_
      refine lv_iload_n hx hb dX4_init_108 rfl (lv_at hl 1 rfl) ?_
      refine va_new (ci := 0) (fs := [.int 0, .long 0, .long 0, .int 0, .int 0]) (C := RX0) (T := TX0) (N := 5) hx hb ht inX0 tyX0 tyX0_ok hown (ht _ mw_132) (ht _ mw_134) (ht _ mw_5) hK hP hD hS hA rfl (fun j hj => by match j, hj with | 0, _ => rfl | 1, _ => rfl | 2, _ => rfl | 3, _ => rfl | 4, _ => rfl | j + 5, h => exact absurd h (by omega)) (Nat.le_trans (by omega : 81 + 1 * k + 1 ≤ 95) (Nat.le_of_ble_eq_true rfl)) (Nat.le_trans (by omega : 1963 + 5 * k + 5 ≤ 2043) (Nat.le_of_ble_eq_true rfl)) dX4_init_109 (fun q0 H hP hD hS => ?_)
      refine lv_dup hx hb dX4_init_112 rfl ?_
      have hFc := freeR hD hS hA
      refine va_callv (va_runIN (As := []) (rest := [.ref q0, .int (nI k), .ref aa]) CF (k_Go_init l D q0 H.size) ⟨va_cnB (host := "MaterialBars") 0 hts (gT mw_137) rfl rfl rfl (hE.1 ("MaterialBars", 36, yX0_init, "MaterialBars") (by decide +kernel)) (ht _ mw_5) (by decide +kernel) ⟨Nat.le_of_ble_eq_true rfl, Nat.le_of_ble_eq_true rfl⟩, rfl, (ht _ mw_136)⟩ ⟨fun a U g mk q => by obtain ⟨z0, z1, zP, zK, zD⟩ := q; exact ⟨z0, z1, zP, va_K.moved (u := U) (U := U.calling g mk a) (Vm.Alike.refl U.vm) zK, zD⟩, fun U hU hW => ⟨rfl, by rw [hU], by rw [hU]; exact subR hP, va_K.moved hW.alike (hK.sub (tys' := []) [] rfl), (subRD hD).weaken (fun _ _ _ _ => trivial)⟩⟩ rfl rfl hl.1 rfl (lv_room (Nat.le_of_ble_eq_true rfl)) dX4_init_113 ⟨Nat.le_trans (by omega : 81 + 1 * k + 1 + 0 ≤ 95) (Nat.le_of_ble_eq_true rfl), Nat.le_trans (by omega : 1963 + 5 * k + 5 + 0 ≤ 2043) (Nat.le_of_ble_eq_true rfl)⟩) hS (fun q _ h => hFc q h) hFc (fun u t H1 locs ht1 hvm hw hB hz1 hk1 hS => ?_)
      obtain ⟨hP1, hK1, hD1⟩ := hB
      rw [ht1] at hP1
      have hK1 := va_K.moved hvm.symm hK1
      obtain ⟨hP, hD⟩ := join_R hP hD (fun q h => h) hFc hk1 hP1 hD1
      have hax : ∀ i, i < (82 + k) → (ax ad (82 + k) q0 (0) (0) (0)) i = ad i := fun i hi => ax_lt hi
      have hg : (gk pGo (ax ad (82 + k) q0 (0) (0) (0)) k) = (gk pGo ad k) := gk_keep (fun j hj => hax _ (by unfold pGo; omega))
      have hw9 : wL (82 + k) ad (cS F kI kM kP kG gm gp (gk pGo ad k) ad) ++ [(q0, .inr (0, [.int 0, .long 0, .long 0, .int (-1), .int 0]))] = wL ((82 + k) + 1) (ax ad (82 + k) q0 (0) (0) (0)) (cS F kI kM kP kG gm gp (gk pGo ad k) (ax ad (82 + k) q0 (0) (0) (0))) := by
        refine wL_ext (fun i hi => ⟨hax i hi, cS_keep (ok_Go k (by omega)) (by omega) hax i hi⟩) rfl (fun j hj => ?_)
        have hz : ∀ i, (82 + k) ≤ i → i < (82 + k) + 1 → cS F kI kM kP kG gm gp (gk pGo ad k)  (ax ad (82 + k) q0 (0) (0) (0)) i = ctB (ax ad (82 + k) q0 (0) (0) (0)) (fun _ => kI) σ0 i := fun i h1 h2 => by unfold cS; rw [if_neg (by omega), if_neg (by omega), if_neg (by omega), if_neg (by omega)]
        match j, hj with
        | 0, _ =>
          rw [hz _ (by omega) (by omega), show (82 + k) + 0 = pGo k by unfold pGo; omega, ct_Go (by omega)]
          rw [show (ax ad (82 + k) q0 (0) (0) (0)) (pGo k) = q0 by rw [show pGo k = (82 + k) by unfold pGo; omega]; exact ax_0]
          simp only [fGo, σ0_L, σ0_G (show 82 ≤ pGo k ∧ pGo k < 94 by unfold pGo; omega)]
          rfl
        | j + 1, h => exact absurd h (by omega)
      rw [hw9] at hP hD
      have hra : (wL ((82 + k) + 1) (ax ad (82 + k) q0 (0) (0) (0)) (cS F kI kM kP kG gm gp (gk pGo ad k) (ax ad (82 + k) q0 (0) (0) (0))))[81]? = some (aa, .inl (kG, 12, rfA (gk pGo (ax ad (82 + k) q0 (0) (0) (0)) k))) := by rw [wL_get (by omega), hax _ (by omega), ha3, hg]; rfl
      have hrk : (wL ((82 + k) + 1) (ax ad (82 + k) q0 (0) (0) (0)) (cS F kI kM kP kG gm gp (gk pGo ad k) (ax ad (82 + k) q0 (0) (0) (0))))[(82 + k)]? = some (q0, .inr (0, fGo (ax ad (82 + k) q0 (0) (0) (0)) σ0 (pGo k))) := by
        rw [wL_get (by omega), ax_0]
        unfold cS; rw [if_neg (by omega), if_neg (by omega), if_neg (by omega), if_neg (by omega), show (82 + k) = pGo k by unfold pGo; omega, ct_Go (by omega)]
      refine va_astq (i := nI k) hx hb hK hP hD hS 81 3 (82 + k) 0 hra hR hrk rfl (vp_in_nI hlt (by decide)) dX4_init_116 (fun H locs hP hD hS => ?_)
      rw [nI_clamp (n := k) (by omega)] at hP hD
      have hw8 : (wL ((82 + k) + 1) (ax ad (82 + k) q0 (0) (0) (0)) (cS F kI kM kP kG gm gp (gk pGo ad k) (ax ad (82 + k) q0 (0) (0) (0)))).set 81 (aa, .inl (kG, 12, rfA (va_up (gk pGo (ax ad (82 + k) q0 (0) (0) (0)) k) k (some q0)))) = wL ((82 + k) + 1) (ax ad (82 + k) q0 (0) (0) (0)) (cS F kI kM kP kG gm gp (gk pGo (ax ad (82 + k) q0 (0) (0) (0)) (k + 1)) (ax ad (82 + k) q0 (0) (0) (0))) := by
        have hge : va_up (gk pGo (ax ad (82 + k) q0 (0) (0) (0)) k) k (some q0) = (gk pGo (ax ad (82 + k) q0 (0) (0) (0)) (k + 1)) := gk_up (by rw [show pGo k = (82 + k) by unfold pGo; omega]; exact ax_0)
        rw [hge]
        have h3 : (ax ad (82 + k) q0 (0) (0) (0)) 81 = aa := by rw [hax _ (by omega), ha3]
        rw [← h3]
        refine wL_set (by omega) (by unfold cS; rfl) (fun j hj hne => ?_)
        unfold cS
        (repeat' split) <;> first | rfl | (exact absurd (by assumption) hne)
      rw [hw8] at hP hD
      refine lv_iinc (v := nI (k + 1)) (lv' := [(1, .int (nI (k + 1))), (0, .ref h0)]) hx hb dX4_init_117 hl (k := 1) rfl (nI_1 k) (by decide) rfl (fun ls hl => ?_)
      refine lv_goto (tgt := 98) hx hb dX4_init_120 (by decide) ?_
      have hn1 : (82 + k) + 1 = (82 + (k + 1)) := by omega
      rw [hn1] at hP hD
      refine W.widen (k := 81 + 1 * (k + 1)) (n := 1963 + 5 * (k + 1)) (by omega) (by omega) ?_
      exact ih (k + 1) (ax ad (82 + k) q0 (0) (0) (0)) H locs ls (by omega) (by omega) (by rw [hax _ (by omega), ha0]) (by rw [hax _ (by omega), ha3]) (fun i hi => by rw [hax _ (by omega)]; exact hag i hi) hP hD hS (lv_sub hl [1, 0] rfl)

/-! THE CLAIM OUT OF ONE WALK OF THE LAW'S BODY. Your part is whole_start (and what it stands on); all else here is the same for every law, but numbers. -/
def R_law : String := "MaterialBarsLaw"
def lw_P (b : Addr) (xs : List Int32) (args : Array Value) (s : State) : Prop := args = #[.ref b] ∧ s.IntsAt b xs ∧ xs.length ≤ 3072 ∧ (Jvm.Cond.and given_1 narrow_1).before args s = true
def lw_Q (_ : Array Value) (s : State) (o : Outcome) (t : State) : Prop := o = .returned (some (.int 1)) ∧ Framed s o t [] 601024 7293034
def lw_Z (below : List Frame) (a : Array Value) (s : State) : State → Prop := fun t => ∃ o, t.status = .running ∧ Ended t below o ∧ lw_Q a s o t
/-- the law's own end, with 1 on the stack, nothing written that was there before, its room as the claim has it -/
theorem lw_ret {p : Program} {l : Launch} {e : Env} {s : State} {m : MethodId} {below : List Frame} {meth : Method} {c : Code} {b : Nat} (hx : p.tables.exec = Jvm.exec) (hb : c.code = code) (hr : meth.sig.returnType = ret) (hlocks : meth.locks = false) {pc : Nat} {H : Heap} {ls : Array Slot} (hdg : decode code pc = .ok (.ireturn, 1)) : W p l e room_1 s m #[Value.ref b] below meth c H [] 601024 7293034 (lw_Z below #[Value.ref b] s) (F0 m pc ls [.int 1]) := by
  intro T hT X
  obtain ⟨fs, hret, hrun, hended, hW, hframe⟩ := X.leave (v := some (.int 1)) (hlocks := hlocks) (fun h => by rw [hr] at h; cases h)
  have hmeth' : T.vm.method? m = some meth := X.method'
  refine ⟨T.setFrames fs, ?_, .returned (some (.int 1)), hrun, hended, rfl, ⟨_, rfl⟩, hW, hframe⟩
  jvm_step X.here [X.here.top, hx, hb, hdg, hmeth', hr, ret, narrow_b1]
  (try refine ⟨rfl, ?_⟩); (try refine ⟨rfl, ?_⟩)
  first | (intro acts; rw [hret _ acts rfl rfl rfl]) | rw [hret _ _ rfl rfl rfl]
  exact Steps.refl _
/-- what holds at the law's entry: the machine, the code, the tables' words (any of lw_tbl by 'hts w (by decide +kernel)'), the script of L ints xs at the cell b, what the Statement gives of the start (any of its parts by flat_of_before) -/
def lw_At (p : Program) (s : State) (m : MethodId) (meth : Method) (c : Code) (b L : Nat) (xs : Nat → Int32) : Prop :=
  p.tables.exec = Jvm.exec ∧ c.code = code ∧ meth.sig.returnType = ret ∧ c.maxLocals = 8 ∧ s.vm.findClass R_law = some m.cls ∧ (∀ w ∈ lw_tbl, w.before #[Value.ref b] s = true) ∧ va_X b L xs s s.heap ∧ b < s.heap.size ∧ meth.locks = false ∧ (Jvm.Cond.and given_1 narrow_1).before #[Value.ref b] s = true
/-! The law: the reference's world, then out and the component's. R: the relation that is kept. -/
def Sim (R : St → St → Prop) (T : Except String (Int64 × St)) (cs : List String) (σ : St) (b : Int64) (μ1 : St) : Prop := match T with
  | .ok x => gF μ1 0 0 = 0 ∧ x.1 = b ∧ R x.2 μ1
  | .error E => gF μ1 0 0 = nI (cs.idxOf E + 1) ∧ R σ μ1
theorem simw {R : St → St → Prop} {T : Except String (Int64 × St)} {cs : List String} {σ μ1 : St} {b : Int64} {f : Nat → Int64} {r : Int32} {u : St × (Nat → Int64)} (hc : cs.length ≤ 3) (h : Sim R T cs σ b μ1) (hw : wrP T cs σ f r u) : gF μ1 0 0 = r ∧ (r = 0 → u.2 0 = b) ∧ R u.1 μ1 := by
  cases T with
  | ok x =>
    obtain ⟨h1, h2, h3⟩ := h
    obtain ⟨w1, w2, w3⟩ := hw
    exact ⟨h1.trans w1.symm, fun _ => w3.trans h2, by rw [w2]; exact h3⟩
  | error E =>
    obtain ⟨h1, h2⟩ := h
    obtain ⟨w1, w2⟩ := hw
    refine ⟨h1.trans w1.symm, fun e => ?_, by rw [w2]; exact h2⟩
    have hx := List.idxOf_le_length (l := cs) (a := E)
    rw [w1] at e
    exact absurd e (nI_ne0 (by omega) (by omega))
def wT (bd : Nat → Nat) (kj : Nat → ClassId) (μ : St) (qo : Nat) (kL : ClassId) (f : Nat → Int64) (ad : Nat → Nat) (kk : Nat → ClassId) (σ : St) : va_W := wM bd kj μ ++ wW qo kL f ad kk σ
def tyT (kj : Nat → ClassId) (kL : ClassId) (kk : Nat → ClassId) : List (ClassId × FieldType) := tyM kj ++ tyW kL kk
theorem va_P_comm {D : va_G} {cl : List vw_C} {w1 w2 : va_W} {H : Heap} (h : va_P D cl (w1 ++ w2) H) : va_P D cl (w2 ++ w1) H := by
  intro k q hq
  rcases Nat.lt_or_ge k w2.length with h1 | h1
  · rw [List.getElem?_append_left h1] at hq
    exact subR h k q hq
  · rw [List.getElem?_append_right h1] at hq
    have hlt : k - w2.length < w1.length := (List.getElem?_eq_some_iff.mp hq).1
    exact h (k - w2.length) q (by rw [List.getElem?_append_left hlt]; exact hq)
theorem va_D_comm {A : Nat → Prop} {w1 w2 : va_W} (h : va_D A (w1 ++ w2)) : va_D A (w2 ++ w1) := by
  have f : ∀ k q, (w2 ++ w1)[k]? = some q → ∃ j, (w1 ++ w2)[j]? = some q ∧ ((k < w2.length ∧ j = w1.length + k) ∨ (w2.length ≤ k ∧ j = k - w2.length ∧ j < w1.length)) := by
    intro k q hq
    rcases Nat.lt_or_ge k w2.length with h1 | h1
    · rw [List.getElem?_append_left h1] at hq
      exact ⟨w1.length + k, by rw [List.getElem?_append_right (Nat.le_add_right _ _), Nat.add_sub_cancel_left]; exact hq, Or.inl ⟨h1, rfl⟩⟩
    · rw [List.getElem?_append_right h1] at hq
      have hlt : k - w2.length < w1.length := (List.getElem?_eq_some_iff.mp hq).1
      exact ⟨k - w2.length, by rw [List.getElem?_append_left hlt]; exact hq, Or.inr ⟨h1, rfl, hlt⟩⟩
  refine ⟨fun i j p q hp hq e => ?_, fun k q hq => ?_⟩
  · obtain ⟨i', hi, ci⟩ := f i p hp
    obtain ⟨j', hj, cj⟩ := f j q hq
    have := h.1 i' j' p q hi hj e
    omega
  · obtain ⟨j, hj, -⟩ := f k q hq
    exact h.2 j q hj
theorem join_L {D : va_G} {cl : List vw_C} {A0 A1 : Nat → Prop} {w1 w1' w2 : va_W} {H H1 : Heap} (hP : va_P D cl (w1 ++ w2) H) (hD : va_D A0 (w1 ++ w2)) (hA1 : ∀ q, A1 q → (∃ (k : Nat) (e : va_E), w1[k]? = some (q, e)) ∨ H.size ≤ q) (hA0 : ∀ q, A1 q → A0 q) (hk : ∀ q : Nat, q < H.size → ¬ A1 q → H1[q]? = H[q]?) (hP1 : va_P D cl w1' H1) (hD1 : va_D A1 w1') : va_P D cl (w1' ++ w2) H1 ∧ va_D A0 (w1' ++ w2) := by
  obtain ⟨h1, h2⟩ := join_R (va_P_comm hP) (va_D_comm hD) hA1 hA0 hk hP1 hD1
  exact ⟨va_P_comm h1, va_D_comm h2⟩
theorem subL {D : va_G} {cl : List vw_C} {w1 w2 : va_W} {H : Heap} (hP : va_P D cl (w1 ++ w2) H) : va_P D cl w1 H := subR (va_P_comm hP)
theorem subLD {A : Nat → Prop} {w1 w2 : va_W} (hD : va_D A (w1 ++ w2)) : va_D A w1 := subRD (va_D_comm hD)
abbrev LA (s : State) : Nat → Prop := fun q : Nat => s.heap.size ≤ q
section
variable {p : Program} {l : Launch} {e : Env} {R : Room} {s : State} {m : MethodId} {args : Array Value} {below : List Frame} {meth : Method} {c : Code} {H : Heap} {locs : List Loc} {cells slots mc ms pc : Nat} {ls : Array Slot} {st0 rest : List Value} {Q : State → Prop} {D : va_G} {qo : Nat} {kL : ClassId} {f : Nat → Int64} {ad bd : Nat → Nat} {kk kj : Nat → ClassId} {a : Array Value} {σ μ : St}
theorem aM_A (hD : va_D (LA s) (wT bd kj μ qo kL f ad kk σ)) (hS : va_S (LA s) s.heap H locs) : ∀ q, aL 23 bd H.size q → LA s q := fun q hq => by
  rcases hq with ⟨i, hi, rfl⟩ | h
  · exact (subLD hD).2 i _ (wL_get hi)
  · exact Nat.le_trans hS.1 h
theorem aW_A (hD : va_D (LA s) (wT bd kj μ qo kL f ad kk σ)) (hS : va_S (LA s) s.heap H locs) : ∀ q, aW qo ad H.size q → LA s q := fun q hq => by
  rcases hq with rfl | ⟨i, hi, rfl⟩ | h
  · exact (subRD hD).2 0 _ rfl
  · exact (subRD (subRD hD)).2 i _ (wL_get hi)
  · exact Nat.le_trans hS.1 h
theorem aW_w {q z : Nat} (h : aW qo ad z q) : (∃ (k : Nat) (e : va_E), (wW qo kL f ad kk σ)[k]? = some (q, e)) ∨ z ≤ q := by
  rcases h with rfl | ⟨i, hi, rfl⟩ | h
  · exact Or.inl ⟨0, _, rfl⟩
  · exact Or.inl ⟨i + 1, _, show (wB ad kk σ)[i]? = _ from wL_get hi⟩
  · exact Or.inr h
theorem aM_w {q z : Nat} (h : aL 23 bd z q) : (∃ (k : Nat) (e : va_E), (wM bd kj μ)[k]? = some (q, e)) ∨ z ≤ q := by
  rcases h with ⟨i, hi, rfl⟩ | h
  · exact Or.inl ⟨i, _, wL_get hi⟩
  · exact Or.inr h
theorem preS_T {As : List Value} (hK : va_K D vwCl (tyT kj kL kk) s) (hP : va_P D vwCl (wT bd kj μ qo kL f ad kk σ) H) (hD : va_D (LA s) (wT bd kj μ qo kL f ad kk σ)) (hE : EvW (LA s) s s.heap) (hS : va_S (LA s) s.heap H locs) : PreS s H (va_Pc As (PW D qo kL ad kk H.size f σ)) As :=
  ⟨PW_blind, fun U hU hW => ⟨rfl, by rw [hU], by rw [hU]; exact subR hP, va_K.moved hW.alike (hK.sub [3, 4, 5, 6, 7] rfl), (subRD hD).weaken (fun _ _ _ _ => trivial), by
    rw [hU]
    exact EvW.warm hW (fun a h1 h2 => hS.2.1 a h1 h2) (aW_A hD hS) hE⟩⟩
theorem preV_N {As : List Value} (hK : va_K D vwCl (tyT kj kL kk) s) (hP : va_P D vwCl (wT bd kj μ qo kL f ad kk σ) H) (hD : va_D (LA s) (wT bd kj μ qo kL f ad kk σ)) : PreV s H "MaterialBarsModel" (bd 0) (va_Pc (.ref (bd 0) :: As) (PM D bd kj H.size μ)) As :=
  ⟨PM_blind, va_recv hK (subL hP) (ci := 5) (q0 := 0) (q := (RX5, TX5, 27)) rfl g_Md, fun U hU hW => ⟨rfl, by rw [hU], by rw [hU]; exact subL hP, va_K.moved hW.alike (hK.sub [0, 1, 2] rfl), (subLD hD).weaken (fun _ _ _ _ => trivial)⟩⟩
theorem kT_w {post : Int32 → St × (Nat → Int64) → Prop} (hr : vx_Run p l e R s m args below meth c H locs cells slots mc ms (F0 m pc ls st0) rest (va_Qi post (QW D qo kL ad kk H.size) (aW qo ad H.size) a) (fun _ _ _ => False) (aW qo ad H.size)) (hP : va_P D vwCl (wT bd kj μ qo kL f ad kk σ) H) (hD : va_D (LA s) (wT bd kj μ qo kL f ad kk σ)) (hS : va_S (LA s) s.heap H locs)
    (kn : ∀ (r : Int32) (u : St × (Nat → Int64)) (H1 : Heap) (locs1 : List Loc), post r u → va_P D vwCl (wT bd kj μ qo kL u.2 ad kk u.1) H1 → va_D (LA s) (wT bd kj μ qo kL u.2 ad kk u.1) → va_S (LA s) s.heap H1 locs1 → W p l e R s m args below meth c H1 locs1 (cells + mc) (slots + ms) Q (F0 m (pc + 3) ls (.int r :: rest))) : W p l e R s m args below meth c H locs cells slots Q (F0 m pc ls st0) := by
  intro T0 hT0 X
  rcases hr T0 hT0 X with ⟨v, st₀, t, T', L, h0, X', hL, e1, e2, ⟨⟨r, u, hv, hp, hB⟩, hF⟩, st⟩ | ⟨q, st₀, t, T', L, E, ce, h0, X', hL, e1, e2, hB, hce, hcv, hcl, st⟩
  · cases hv
    obtain ⟨k1, k2, k3⟩ := vx_keep h0 e1 hS (fun q _ h => aW_A hD hS q h) (aW_A hD hS) hL hF
    obtain ⟨j1, j2⟩ := join_R (w1' := wW qo kL u.2 ad kk u.1) hP hD (fun q h => aW_w h) (aW_A hD hS) k2 (by rw [e1]; exact hB.1) hB.2.2
    obtain ⟨t2, a1, b1⟩ := kn r u T'.heap (locs ++ L) hp j1 j2 k3 T' rfl X'
    exact ⟨t2, st t2 a1, b1⟩
  · exact hB.elim
theorem kT_i {post : Int32 → St → Prop} (hr : va_Run p l e R s m args below meth c H locs cells slots mc ms (F0 m pc ls st0) rest (va_Qi post (QM D bd kj H.size) (aL 23 bd H.size) a) (aL 23 bd H.size)) (hP : va_P D vwCl (wT bd kj μ qo kL f ad kk σ) H) (hD : va_D (LA s) (wT bd kj μ qo kL f ad kk σ)) (hS : va_S (LA s) s.heap H locs)
    (kn : ∀ (r : Int32) (u : St) (H1 : Heap) (locs1 : List Loc), post r u → va_P D vwCl (wT bd kj u qo kL f ad kk σ) H1 → va_D (LA s) (wT bd kj u qo kL f ad kk σ) → va_S (LA s) s.heap H1 locs1 → W p l e R s m args below meth c H1 locs1 (cells + mc) (slots + ms) Q (F0 m (pc + 3) ls (.int r :: rest))) : W p l e R s m args below meth c H locs cells slots Q (F0 m pc ls st0) :=
  va_calli hr hS (fun q _ h => aM_A hD hS q h) (aM_A hD hS) (fun r u t H1 locs1 ht _ hp hB _ hk hS1 => by
    obtain ⟨j1, j2⟩ := join_L (w1' := wM bd kj u) hP hD (fun q h => aM_w h) (aM_A hD hS) hk (by rw [← ht]; exact hB.1) hB.2.2
    exact kn r u H1 locs1 hp j1 j2 hS1)
theorem kT_l {post : Int64 → St → Prop} (hr : va_Run p l e R s m args below meth c H locs cells slots mc ms (F0 m pc ls st0) rest (va_Ql post (QM D bd kj H.size) (aL 23 bd H.size) a) (aL 23 bd H.size)) (hP : va_P D vwCl (wT bd kj μ qo kL f ad kk σ) H) (hD : va_D (LA s) (wT bd kj μ qo kL f ad kk σ)) (hS : va_S (LA s) s.heap H locs)
    (kn : ∀ (r : Int64) (u : St) (H1 : Heap) (locs1 : List Loc), post r u → va_P D vwCl (wT bd kj u qo kL f ad kk σ) H1 → va_D (LA s) (wT bd kj u qo kL f ad kk σ) → va_S (LA s) s.heap H1 locs1 → W p l e R s m args below meth c H1 locs1 (cells + mc) (slots + ms) Q (F0 m (pc + 3) ls (.long r :: rest))) : W p l e R s m args below meth c H locs cells slots Q (F0 m pc ls st0) :=
  va_calll hr hS (fun q _ h => aM_A hD hS q h) (aM_A hD hS) (fun r u t H1 locs1 ht _ hp hB _ hk hS1 => by
    obtain ⟨j1, j2⟩ := join_L (w1' := wM bd kj u) hP hD (fun q h => aM_w h) (aM_A hD hS) hk (by rw [← ht]; exact hB.1) hB.2.2
    exact kn r u H1 locs1 hp j1 j2 hS1)
end
theorem csw {R : Room} {s : State} {args : Array Value} {own : String} {index maxL mc ms n : Nat} {y : MethodName} {bytes : ByteArray} {ret : Option FieldType} {hh : List (Nat × Nat × Nat × Nat)} {rm : Room} (ht : ∀ w ∈ T0, w.before args s = true) (hc : Cond.codeWith y bytes maxL ret hh ∈ T0) (hl : Cond.methodLink own index y ∈ T0) (hst : Cond.static y ∈ T0) (hi : Cond.initialized y.cls ∈ T0) (hrc : rm.cells = mc) (hrs : rm.slots = ms) (hd : y.cls ≠ "java/lang/invoke/MethodHandle" ∧ y.cls ≠ "java/lang/invoke/VarHandle" ∧ (parseMethodDescriptor y.desc).map (fun d => d.parameters.length) = some n) (hR : rm.frames + 1 ≤ R.frames ∧ 8 + (maxL + 11) + rm.locals ≤ R.locals) : vx_CSW R s args own index y bytes maxL ret hh (Cond.codeWith y bytes maxL ret hh :: T0) rm mc ms n :=
  ⟨⟨hrc, hrs, hR.1, hR.2, pay_in ht (gT0 hc), List.mem_cons_self⟩, ht _ hc, ht _ hi, ⟨hd.1, hd.2.1⟩, fun sig h => by have h2 := hd.2.2; rw [h] at h2; exact (Option.some.inj h2).symm, ht _ hl, ht _ hst⟩
theorem out_at {bd : Nat → Nat} {kj : Nat → ClassId} {μ : St} {qo : Nat} {kL : ClassId} {f : Nat → Int64} {ad : Nat → Nat} {kk : Nat → ClassId} {σ : St} : (wT bd kj μ qo kL f ad kk σ)[23]? = some (qo, .inl (kL, 1, .inr (.inl f))) := by
  unfold wT
  rw [List.getElem?_append_right (by unfold wM; rw [wL_len]; exact Nat.le_refl _)]
  unfold wM
  rw [wL_len]
  rfl
theorem lc_eq (x : Int64) : lg_cmp x x = 0 := by
  unfold lg_cmp
  simp

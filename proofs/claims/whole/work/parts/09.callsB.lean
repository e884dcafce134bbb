/-! The environment of the component: what its throws and its calls between nest mates need of the start. -/
def evStr : List (String × Nat × String) := [("MaterialBars", 50, "the pad is full"), ("MaterialBars", 57, "no sign"), ("MaterialBars", 66, "there are twelve methods"), ("MaterialBars", 92, "there are ten objects"), ("MaterialBars", 101, "the object has eight parts"), ("MaterialBars", 131, "the object has 30 rows"), ("MaterialBars", 157, "change"), ("MaterialBars", 178, "what"), ("MaterialBars", 190, "set"), ("MaterialBars", 223, "no such place"), ("MaterialBars", 225, "hour")]
def evM : List (String × Nat × MethodName × String) := [("MaterialBars", 9, yX2_init, "MaterialBars"), ("MaterialBars", 22, yX1_init, "MaterialBars"), ("MaterialBars", 29, yX3_init, "MaterialBars"), ("MaterialBars", 36, yX0_init, "MaterialBars"), ("MaterialBars$Pad", 61, yX4_with, "MaterialBars"), ("MaterialBars$Piece", 28, yX4_with, "MaterialBars"), ("MaterialBars$Piece", 32, yX4_has, "MaterialBars")]
def evD : List MethodName := [Bundle.initS "java/lang/RuntimeException", Bundle.initS "java/lang/Exception", Bundle.initS "java/lang/Throwable"]
def evC : List String := ["java/lang/IllegalStateException", "java/lang/IllegalArgumentException", "java/lang/IndexOutOfBoundsException"]
def th_B (E : String) : List Cond := [.declares (Bundle.initS "java/lang/RuntimeException"), .declares (Bundle.initS "java/lang/Exception"), .declares (Bundle.initS "java/lang/Throwable"), .castable E E]
def Ev (A : Nat → Prop) (U : State) (H : Heap) : Prop := vx_Zq Bundle.tN "UNASSIGNED_STACK" Bundle.steD A U H ∧ vx_Zq Bundle.tN "SUPPRESSED_SENTINEL" Bundle.listD A U H ∧ (∀ q ∈ evStr, ∃ a, vk_R q.1 q.2.1 q.2.2 a U) ∧ (∀ q ∈ evM, va_Nw (.methodLinkNest q.1 q.2.1 q.2.2.1 q.2.2.2) U) ∧ (∀ q ∈ evD, va_Nw (.declares q) U) ∧ (∀ q ∈ evC, va_Nw (.castable q q) U)
theorem Ev.same {A : Nat → Prop} {u U : State} {H : Heap} (hv : U.vm = u.vm) (h : Ev A u H) : Ev A U H :=
  ⟨vx_Zq.moved (by rw [hv]; exact Vm.Alike.refl _) h.1, vx_Zq.moved (by rw [hv]; exact Vm.Alike.refl _) h.2.1, fun q hq => by obtain ⟨a, ha⟩ := h.2.2.1 q hq; exact ⟨a, vk_R.same hv ha⟩, fun q hq => va_Nw.same rfl hv.symm (h.2.2.2.1 q hq), fun q hq => va_Nw.same rfl hv.symm (h.2.2.2.2.1 q hq), fun q hq => va_Nw.same rfl hv.symm (h.2.2.2.2.2 q hq)⟩
theorem Ev.warm {A B : Nat → Prop} {s U : State} {H H1 : Heap} (hW : s.WarmedH U.vm) (hk : ∀ a : Nat, a < H.size → ¬ A a → H1[a]? = H[a]?) (hAB : ∀ q, B q → A q) (h : Ev A s H) : Ev B U H1 :=
  ⟨vx_Zq.narrow (vx_Zq.kept (vx_Zq.moved hW.alike h.1) hk) hAB, vx_Zq.narrow (vx_Zq.kept (vx_Zq.moved hW.alike h.2.1) hk) hAB, fun q hq => by obtain ⟨a, ha⟩ := h.2.2.1 q hq; exact ⟨a, vk_R.warm hW ha⟩, fun q hq => va_Nw.warmM hW (h.2.2.2.1 q hq), fun q hq => va_Nw.warmD hW (h.2.2.2.2.1 q hq), fun q hq => va_Nw.warmC hW (h.2.2.2.2.2 q hq)⟩
theorem Ev.str {A : Nat → Prop} {U : State} {H : Heap} (h : Ev A U H) {own : String} {k : Nat} {tx : String} (hq : (own, k, tx) ∈ evStr) : ∃ a, vk_R own k tx a U := h.2.2.1 _ hq
theorem Ev.nest {A : Nat → Prop} {U : State} {H : Heap} (h : Ev A U H) {own : String} {k : Nat} {y : MethodName} {host : String} (hq : (own, k, y, host) ∈ evM) : va_Nw (.methodLinkNest own k y host) U := h.2.2.2.1 _ hq
theorem Ev.th {A : Nat → Prop} {U : State} {H : Heap} (h : Ev A U H) {E : String} (hq : E ∈ evC) {args : Array Value} : ∀ w ∈ th_B E, w.before args U = true :=
  vx_c (va_Nw.use rfl (h.2.2.2.2.1 _ (by decide +kernel))) (vx_c (va_Nw.use rfl (h.2.2.2.2.1 _ (by decide +kernel))) (vx_c (va_Nw.use rfl (h.2.2.2.2.1 _ (by decide +kernel))) (vx_c (va_Nw.use rfl (h.2.2.2.2.2 _ hq)) vx_n)))
def th_n : List String := ["java/lang/RuntimeException", "java/lang/Exception"]
theorem thf_n : ∀ n ∈ th_n, Bundle.fit n = true := by decide +kernel
theorem thf_IndexOutOfBoundsException : Bundle.fit "java/lang/IndexOutOfBoundsException" = true := by decide +kernel
theorem thw_IndexOutOfBoundsException : ∀ w ∈ (vx_atS "MaterialBars" 180 "java/lang/IndexOutOfBoundsException" th_n).filter goodWord, w ∈ T0 := fun w h => T0_in ((by decide +kernel : ∀ w ∈ (vx_atS "MaterialBars" 180 "java/lang/IndexOutOfBoundsException" th_n).filter goodWord, w ∈ lw_tbl) w h) (List.mem_filter.mp h).2
theorem thb_IndexOutOfBoundsException : ∀ w ∈ (vx_atS "MaterialBars" 180 "java/lang/IndexOutOfBoundsException" th_n).filter (fun w => !goodWord w), w ∈ th_B "java/lang/IndexOutOfBoundsException" := by decide +kernel
theorem thg_IndexOutOfBoundsException (ik : Nat) : ∀ w ∈ Cond.classLink "MaterialBars" ik "java/lang/IndexOutOfBoundsException" :: Cond.initialized "java/lang/IndexOutOfBoundsException" :: (vx_atS "MaterialBars" 180 "java/lang/IndexOutOfBoundsException" th_n), vx_ot w = true := fun w h => by
  rcases List.mem_cons.mp h with rfl | h
  · rfl
  · rcases List.mem_cons.mp h with rfl | h
    · rfl
    · exact (by decide +kernel : ∀ w ∈ (vx_atS "MaterialBars" 180 "java/lang/IndexOutOfBoundsException" th_n), vx_ot w = true) w h
theorem thf_IllegalArgumentException : Bundle.fit "java/lang/IllegalArgumentException" = true := by decide +kernel
theorem thw_IllegalArgumentException : ∀ w ∈ (vx_atS "MaterialBars" 59 "java/lang/IllegalArgumentException" th_n).filter goodWord, w ∈ T0 := fun w h => T0_in ((by decide +kernel : ∀ w ∈ (vx_atS "MaterialBars" 59 "java/lang/IllegalArgumentException" th_n).filter goodWord, w ∈ lw_tbl) w h) (List.mem_filter.mp h).2
theorem thb_IllegalArgumentException : ∀ w ∈ (vx_atS "MaterialBars" 59 "java/lang/IllegalArgumentException" th_n).filter (fun w => !goodWord w), w ∈ th_B "java/lang/IllegalArgumentException" := by decide +kernel
theorem thg_IllegalArgumentException (ik : Nat) : ∀ w ∈ Cond.classLink "MaterialBars" ik "java/lang/IllegalArgumentException" :: Cond.initialized "java/lang/IllegalArgumentException" :: (vx_atS "MaterialBars" 59 "java/lang/IllegalArgumentException" th_n), vx_ot w = true := fun w h => by
  rcases List.mem_cons.mp h with rfl | h
  · rfl
  · rcases List.mem_cons.mp h with rfl | h
    · rfl
    · exact (by decide +kernel : ∀ w ∈ (vx_atS "MaterialBars" 59 "java/lang/IllegalArgumentException" th_n), vx_ot w = true) w h
theorem thf_IllegalStateException : Bundle.fit "java/lang/IllegalStateException" = true := by decide +kernel
theorem thw_IllegalStateException : ∀ w ∈ (vx_atS "MaterialBars" 52 "java/lang/IllegalStateException" th_n).filter goodWord, w ∈ T0 := fun w h => T0_in ((by decide +kernel : ∀ w ∈ (vx_atS "MaterialBars" 52 "java/lang/IllegalStateException" th_n).filter goodWord, w ∈ lw_tbl) w h) (List.mem_filter.mp h).2
theorem thb_IllegalStateException : ∀ w ∈ (vx_atS "MaterialBars" 52 "java/lang/IllegalStateException" th_n).filter (fun w => !goodWord w), w ∈ th_B "java/lang/IllegalStateException" := by decide +kernel
theorem thg_IllegalStateException (ik : Nat) : ∀ w ∈ Cond.classLink "MaterialBars" ik "java/lang/IllegalStateException" :: Cond.initialized "java/lang/IllegalStateException" :: (vx_atS "MaterialBars" 52 "java/lang/IllegalStateException" th_n), vx_ot w = true := fun w h => by
  rcases List.mem_cons.mp h with rfl | h
  · rfl
  · rcases List.mem_cons.mp h with rfl | h
    · rfl
    · exact (by decide +kernel : ∀ w ∈ (vx_atS "MaterialBars" 52 "java/lang/IllegalStateException" th_n), vx_ot w = true) w h
/-! What a contract over the component's world says before and behind; the environment EV is a parameter: what it needs of the launch's start. -/
def PB (D : va_G) (ad : Nat → Nat) (kk : Nat → ClassId) (sz : Nat) (σ : St) (U : State) : Prop := U.heap.size = sz ∧ va_P D vwCl (wB ad kk σ) U.heap ∧ va_K D vwCl (tyB kk) U ∧ va_D (fun _ => True) (wB ad kk σ) ∧ Ev (aL 96 ad sz) U U.heap
def QB (D : va_G) (ad : Nat → Nat) (kk : Nat → ClassId) (sz : Nat) (σ : St) (t : State) : Prop := va_P D vwCl (wB ad kk σ) t.heap ∧ va_K D vwCl (tyB kk) t ∧ va_D (aL 96 ad sz) (wB ad kk σ)
theorem PB_blind {av : List Value} {D : va_G} {ad : Nat → Nat} {kk : Nat → ClassId} {sz : Nat} {σ : St} : FrameBlind (va_Pc av (PB D ad kk sz σ)) := fun a U g mk q => by
  obtain ⟨q0, q1, qP, qK, qD, qE⟩ := q
  exact ⟨q0, q1, qP, va_K.moved (u := U) (U := U.calling g mk a) (Vm.Alike.refl U.vm) qK, qD, Ev.same (u := U) (U := U.calling g mk a) rfl qE⟩
theorem PB_at {s U : State} {H : Heap} {locs : List Loc} {D : va_G} {ad : Nat → Nat} {kk : Nat → ClassId} {σ : St} {A : Nat → Prop} (hK : va_K D vwCl (tyB kk) s) (hP : va_P D vwCl (wB ad kk σ) H) (hD : va_D A (wB ad kk σ)) (hE : Ev (aL 96 ad s.heap.size) s s.heap) (hS : va_S (aL 96 ad s.heap.size) s.heap H locs) (hU : U.heap = H) (hW : s.WarmedH U.vm) : PB D ad kk H.size σ U :=
  ⟨by rw [hU], by rw [hU]; exact hP, va_K.moved hW.alike hK, hD.weaken (fun _ _ _ _ => trivial), by
    rw [hU]
    exact Ev.warm hW (fun a h1 h2 => hS.2.1 a h1 h2) (aL_le hS.1) hE⟩
section
variable {p : Program} {l : Launch} {e : Env} {R : Room} {s : State} {m : MethodId} {args : Array Value} {below : List Frame} {meth : Method} {c : Code} {H : Heap} {locs : List Loc} {cells slots mc ms pc : Nat} {ls : Array Slot} {st0 rest : List Value} {Q : State → Prop} {D : va_G} {ad : Nat → Nat} {kk : Nat → ClassId} {a : Array Value} {σ : St}
theorem preV_B {C : String} {b : Addr} {As : List Value} {q0 ci : Nat} {r : vw_C} {fs : List Value} {A : Nat → Prop} (hK : va_K D vwCl (tyB kk) s) (hP : va_P D vwCl (wB ad kk σ) H) (hD : va_D A (wB ad kk σ)) (hE : Ev (aL 96 ad s.heap.size) s s.heap) (hS : va_S (aL 96 ad s.heap.size) s.heap H locs) (hc : vwCl[ci]? = some r) (hC : r.1 = C) (he : (wB ad kk σ)[q0]? = some (b, .inr (ci, fs))) : PreV s H C b (va_Pc (.ref b :: As) (PB D ad kk H.size σ)) As :=
  ⟨PB_blind, by rw [← hC]; exact va_recv hK hP hc he, fun U hU hW => ⟨rfl, PB_at hK hP hD hE hS hU hW⟩⟩
theorem preS_B {As : List Value} {A : Nat → Prop} (hK : va_K D vwCl (tyB kk) s) (hP : va_P D vwCl (wB ad kk σ) H) (hD : va_D A (wB ad kk σ)) (hE : Ev (aL 96 ad s.heap.size) s s.heap) (hS : va_S (aL 96 ad s.heap.size) s.heap H locs) : PreS s H (va_Pc As (PB D ad kk H.size σ)) As :=
  ⟨PB_blind, fun U hU hW => ⟨rfl, PB_at hK hP hD hE hS hU hW⟩⟩
theorem kB_i {post : Int32 → St → Prop} (hr : va_Run p l e R s m args below meth c H locs cells slots mc ms (F0 m pc ls st0) rest (va_Qi post (QB D ad kk H.size) (aL 96 ad H.size) a) (aL 96 ad H.size)) (hS : va_S (aL 96 ad s.heap.size) s.heap H locs)
    (kx : ∀ (r : Int32) (u : St) (H1 : Heap) (locs1 : List Loc), post r u → va_P D vwCl (wB ad kk u) H1 → va_D (aL 96 ad s.heap.size) (wB ad kk u) → va_S (aL 96 ad s.heap.size) s.heap H1 locs1 → W p l e R s m args below meth c H1 locs1 (cells + mc) (slots + ms) Q (F0 m (pc + 3) ls (.int r :: rest))) : W p l e R s m args below meth c H locs cells slots Q (F0 m pc ls st0) :=
  va_calli hr hS (fun q _ h => aL_le hS.1 q h) (aL_le hS.1) (fun r u t H1 locs1 ht _ hp hB _ _ hS1 => kx r u H1 locs1 hp (by rw [← ht]; exact hB.1) (aL_D2 hB.2.2 (aL_le hS.1)) hS1)
theorem kB_v {post : St → Prop} (hr : va_Run p l e R s m args below meth c H locs cells slots mc ms (F0 m pc ls st0) rest (va_Qv post (QB D ad kk H.size) (aL 96 ad H.size) a) (aL 96 ad H.size)) (hS : va_S (aL 96 ad s.heap.size) s.heap H locs)
    (kx : ∀ (u : St) (H1 : Heap) (locs1 : List Loc), post u → va_P D vwCl (wB ad kk u) H1 → va_D (aL 96 ad s.heap.size) (wB ad kk u) → va_S (aL 96 ad s.heap.size) s.heap H1 locs1 → W p l e R s m args below meth c H1 locs1 (cells + mc) (slots + ms) Q (F0 m (pc + 3) ls rest)) : W p l e R s m args below meth c H locs cells slots Q (F0 m pc ls st0) :=
  va_callv hr hS (fun q _ h => aL_le hS.1 q h) (aL_le hS.1) (fun u t H1 locs1 ht _ hp hB _ _ hS1 => kx u H1 locs1 hp (by rw [← ht]; exact hB.1) (aL_D2 hB.2.2 (aL_le hS.1)) hS1)
/-- what a throwing method says of its throw: the mirror's error, the world as it was -/
def XB {α : Type} (T : Except String α) (D : va_G) (ad : Nat → Nat) (kk : Nat → ClassId) (sz : Nat) (σ : St) : String → State → State → Prop := vx_X (fun _ : Unit => True) (fun E _ t => .error E = T ∧ QB D ad kk sz σ t) (aL 96 ad sz)
/-- a throw of a callee goes on up -/
theorem xB_up {α β : Type} {Tg : Except String α} {T : Except String β} {Qc : Array Value → State → Outcome → State → Prop} {mc1 ms1 : Nat} {E : String} {ce : Cell} {q9 : Addr} {t : State} {H1 : Heap} {locs1 : List Loc} (hEx : ∀ x ∈ c.exceptionTable.toList, False) (hlocks : meth.locks = false) (hS : va_S (aL 96 ad s.heap.size) s.heap H locs) (hT : ∀ E, Except.error E = Tg → Except.error E = T) (ht : t.heap = H1) (hB : Except.error E = Tg ∧ QB D ad kk H.size σ t) (hS1 : va_S (aL 96 ad s.heap.size) s.heap H1 locs1) (hc1 : H1[q9]? = some ce) (hv1 : ce.vm = .none) (hcl : s.vm.findClass E = some ce.cls) (hvm : s.vm.Alike t.vm) (g1 : cells ≤ mc1) (g2 : slots ≤ ms1) :
    vx_W p l e R s m args below meth c H1 locs1 cells slots (vx_MQ below Qc (XB T D ad kk s.heap.size σ) args s mc1 ms1 (aL 96 ad s.heap.size)) (F0 m pc ls rest) q9 :=
  vx_out (fun x hx => (hEx x hx).elim) hlocks hc1 hv1 hcl (fun t2 ht2 hvm2 => ⟨(), trivial, ⟨hT E hB.1, by rw [ht2, ← ht]; exact hB.2.1, va_K.moved (hvm.symm.trans hvm2) hB.2.2.1, aL_D2 hB.2.2.2 (aL_le hS.1)⟩, hS1.F ht2⟩) hS1.2.2 g1 g2
theorem kX_i {α β : Type} {Tg : Except String α} {T : Except String β} {Qc : Array Value → State → Outcome → State → Prop} {mc1 ms1 : Nat} {post : Int32 → St → Prop} (hr : vx_Run p l e R s m args below meth c H locs cells slots mc ms (F0 m pc ls st0) rest (va_Qi post (QB D ad kk H.size) (aL 96 ad H.size) a) (XB Tg D ad kk H.size σ) (aL 96 ad H.size)) (hS : va_S (aL 96 ad s.heap.size) s.heap H locs) (hEx : ∀ x ∈ c.exceptionTable.toList, False) (hlocks : meth.locks = false) (g1 : cells + mc ≤ mc1) (g2 : slots + ms ≤ ms1) (hT : ∀ E, Except.error E = Tg → Except.error E = T)
    (kx : ∀ (r : Int32) (u : St) (H1 : Heap) (locs1 : List Loc), post r u → va_P D vwCl (wB ad kk u) H1 → va_D (aL 96 ad s.heap.size) (wB ad kk u) → va_S (aL 96 ad s.heap.size) s.heap H1 locs1 → W p l e R s m args below meth c H1 locs1 (cells + mc) (slots + ms) (vx_MQ below Qc (XB T D ad kk s.heap.size σ) args s mc1 ms1 (aL 96 ad s.heap.size)) (F0 m (pc + 3) ls (.int r :: rest))) : W p l e R s m args below meth c H locs cells slots (vx_MQ below Qc (XB T D ad kk s.heap.size σ) args s mc1 ms1 (aL 96 ad s.heap.size)) (F0 m pc ls st0) :=
  vx_calli hr hS (fun q _ h => aL_le hS.1 q h) (aL_le hS.1) (fun q _ h => aL_le hS.1 q h) (fun _ _ _ _ _ _ _ ht hvm _ hB _ _ hS1 hc1 hv1 hcl => xB_up hEx hlocks hS hT ht hB hS1 hc1 hv1 hcl hvm g1 g2) (fun r u t H1 locs1 ht _ hp hB _ _ hS1 => kx r u H1 locs1 hp (by rw [← ht]; exact hB.1) (aL_D2 hB.2.2 (aL_le hS.1)) hS1)
theorem kX_v {α β : Type} {Tg : Except String α} {T : Except String β} {Qc : Array Value → State → Outcome → State → Prop} {mc1 ms1 : Nat} {post : St → Prop} (hr : vx_Run p l e R s m args below meth c H locs cells slots mc ms (F0 m pc ls st0) rest (va_Qv post (QB D ad kk H.size) (aL 96 ad H.size) a) (XB Tg D ad kk H.size σ) (aL 96 ad H.size)) (hS : va_S (aL 96 ad s.heap.size) s.heap H locs) (hEx : ∀ x ∈ c.exceptionTable.toList, False) (hlocks : meth.locks = false) (g1 : cells + mc ≤ mc1) (g2 : slots + ms ≤ ms1) (hT : ∀ E, Except.error E = Tg → Except.error E = T)
    (kx : ∀ (u : St) (H1 : Heap) (locs1 : List Loc), post u → va_P D vwCl (wB ad kk u) H1 → va_D (aL 96 ad s.heap.size) (wB ad kk u) → va_S (aL 96 ad s.heap.size) s.heap H1 locs1 → W p l e R s m args below meth c H1 locs1 (cells + mc) (slots + ms) (vx_MQ below Qc (XB T D ad kk s.heap.size σ) args s mc1 ms1 (aL 96 ad s.heap.size)) (F0 m (pc + 3) ls rest)) : W p l e R s m args below meth c H locs cells slots (vx_MQ below Qc (XB T D ad kk s.heap.size σ) args s mc1 ms1 (aL 96 ad s.heap.size)) (F0 m pc ls st0) :=
  vx_callv hr hS (fun q _ h => aL_le hS.1 q h) (aL_le hS.1) (fun q _ h => aL_le hS.1 q h) (fun _ _ _ _ _ _ _ ht hvm _ hB _ _ hS1 hc1 hv1 hcl => xB_up hEx hlocks hS hT ht hB hS1 hc1 hv1 hcl hvm g1 g2) (fun u t H1 locs1 ht _ hp hB _ _ hS1 => kx u H1 locs1 hp (by rw [← ht]; exact hB.1) (aL_D2 hB.2.2 (aL_le hS.1)) hS1)
theorem kX_q {α β : Type} {Tg : Except String α} {T : Except String β} {Qc : Array Value → State → Outcome → State → Prop} {mc1 ms1 : Nat} {post : Option Nat → St → Prop} (hr : vx_Run p l e R s m args below meth c H locs cells slots mc ms (F0 m pc ls st0) rest (va_Qq post (QB D ad kk H.size) (aL 96 ad H.size) a) (XB Tg D ad kk H.size σ) (aL 96 ad H.size)) (hS : va_S (aL 96 ad s.heap.size) s.heap H locs) (hEx : ∀ x ∈ c.exceptionTable.toList, False) (hlocks : meth.locks = false) (g1 : cells + mc ≤ mc1) (g2 : slots + ms ≤ ms1) (hT : ∀ E, Except.error E = Tg → Except.error E = T)
    (kx : ∀ (r : Option Nat) (u : St) (H1 : Heap) (locs1 : List Loc), post r u → va_P D vwCl (wB ad kk u) H1 → va_D (aL 96 ad s.heap.size) (wB ad kk u) → va_S (aL 96 ad s.heap.size) s.heap H1 locs1 → W p l e R s m args below meth c H1 locs1 (cells + mc) (slots + ms) (vx_MQ below Qc (XB T D ad kk s.heap.size σ) args s mc1 ms1 (aL 96 ad s.heap.size)) (F0 m (pc + 3) ls (va_rf r :: rest))) : W p l e R s m args below meth c H locs cells slots (vx_MQ below Qc (XB T D ad kk s.heap.size σ) args s mc1 ms1 (aL 96 ad s.heap.size)) (F0 m pc ls st0) := by
  intro T0 hT0 X
  rcases hr T0 hT0 X with ⟨v, st₀, t, T', L, h0, X', hL, e1, e2, ⟨⟨r, u, hv, hp, hB⟩, hF⟩, st⟩ | ⟨q, st₀, t, T', L, E, ce, h0, X', hL, e1, e2, ⟨u, hp, hB, hF⟩, hce, hcv, hcl, st⟩
  · cases hv
    obtain ⟨k1, k2, k3⟩ := vx_keep h0 e1 hS (fun q _ h => aL_le hS.1 q h) (aL_le hS.1) hL hF
    obtain ⟨t2, a1, b1⟩ := kx r u T'.heap (locs ++ L) hp (by rw [e1]; exact hB.1) (aL_D2 hB.2.2 (aL_le hS.1)) k3 T' rfl X'
    exact ⟨t2, st t2 a1, b1⟩
  · obtain ⟨k1, k2, k3⟩ := vx_keep h0 e1 hS (fun q _ h => aL_le hS.1 q h) (aL_le hS.1) hL hF
    obtain ⟨t2, a1, b1⟩ := xB_up (locs1 := locs ++ L) (H1 := T'.heap) hEx hlocks hS hT e1.symm hB k3 (by rw [e1]; exact hce) hcv hcl (by rw [← e2]; exact X'.warmed.alike) g1 g2 T' rfl X'
    exact ⟨t2, st.trans a1, b1⟩
/-- a method's own throw: the world as it stands -/
theorem xB_end {α : Type} {T : Except String α} {E : String} {t : State} (hT : Except.error E = T) (hK : va_K D vwCl (tyB kk) s) (hP : va_P D vwCl (wB ad kk σ) H) (hD : va_D (aL 96 ad s.heap.size) (wB ad kk σ)) (hS : va_S (aL 96 ad s.heap.size) s.heap H locs) (ha : s.vm.Alike t.vm) (hsz : H.size ≤ t.heap.size) (hk : ∀ q : Nat, q < H.size → t.heap[q]? = H[q]?) : XB T D ad kk s.heap.size σ E s t :=
  ⟨(), trivial, ⟨hT, hP.kept (fun k q hq => hk q.1 (hP k q hq).lt), va_K.moved ha hK, hD⟩, Nat.le_trans hS.1 hsz, fun q h1 h2 => (hk q (Nat.lt_of_lt_of_le h1 hS.1)).trans (hS.2.1 q h1 h2)⟩
end

/-! The law's wrappers: the component's world, and ahead of it the array out. -/
def wW (qo : Nat) (kL : ClassId) (f : Nat → Int64) (ad : Nat → Nat) (kk : Nat → ClassId) (σ : St) : va_W := [(qo, .inl (kL, 1, .inr (.inl f)))] ++ wB ad kk σ
def tyW (kL : ClassId) (kk : Nat → ClassId) : List (ClassId × FieldType) := (kL, .long) :: tyB kk
def aW (qo : Nat) (ad : Nat → Nat) (sz : Nat) : Nat → Prop := fun q => q = qo ∨ aL 96 ad sz q
theorem aW_le {qo : Nat} {ad : Nat → Nat} {a b : Nat} (h : a ≤ b) : ∀ q, aW qo ad b q → aW qo ad a q := fun q hq => hq.elim Or.inl (fun h1 => Or.inr (aL_le h q h1))
def evN : List (String × String) := [("java/lang/IllegalStateException", "java/lang/IllegalArgumentException"), ("java/lang/IllegalStateException", "java/lang/IndexOutOfBoundsException"), ("java/lang/IllegalArgumentException", "java/lang/IllegalStateException"), ("java/lang/IllegalArgumentException", "java/lang/IndexOutOfBoundsException"), ("java/lang/IndexOutOfBoundsException", "java/lang/IllegalStateException"), ("java/lang/IndexOutOfBoundsException", "java/lang/IllegalArgumentException")]
def EvW (A : Nat → Prop) (U : State) (H : Heap) : Prop := Ev A U H ∧ ∀ q ∈ evN, va_Nc q.1 q.2 U
theorem EvW.same {A : Nat → Prop} {u U : State} {H : Heap} (hv : U.vm = u.vm) (h : EvW A u H) : EvW A U H := ⟨Ev.same hv h.1, fun q hq => va_Nc.moved (by rw [hv]; exact Vm.Alike.refl _) (h.2 q hq)⟩
theorem EvW.warm {A B : Nat → Prop} {s U : State} {H H1 : Heap} (hW : s.WarmedH U.vm) (hk : ∀ a : Nat, a < H.size → ¬ A a → H1[a]? = H[a]?) (hAB : ∀ q, B q → A q) (h : EvW A s H) : EvW B U H1 := ⟨Ev.warm hW hk hAB h.1, fun q hq => va_Nc.moved hW.alike (h.2 q hq)⟩
def PW (D : va_G) (qo : Nat) (kL : ClassId) (ad : Nat → Nat) (kk : Nat → ClassId) (sz : Nat) (f : Nat → Int64) (σ : St) (U : State) : Prop := U.heap.size = sz ∧ va_P D vwCl (wW qo kL f ad kk σ) U.heap ∧ va_K D vwCl (tyW kL kk) U ∧ va_D (fun _ => True) (wW qo kL f ad kk σ) ∧ EvW (aW qo ad sz) U U.heap
def QW (D : va_G) (qo : Nat) (kL : ClassId) (ad : Nat → Nat) (kk : Nat → ClassId) (sz : Nat) (u : St × (Nat → Int64)) (t : State) : Prop := va_P D vwCl (wW qo kL u.2 ad kk u.1) t.heap ∧ va_K D vwCl (tyW kL kk) t ∧ va_D (aW qo ad sz) (wW qo kL u.2 ad kk u.1)
theorem PW_blind {av : List Value} {D : va_G} {qo : Nat} {kL : ClassId} {ad : Nat → Nat} {kk : Nat → ClassId} {sz : Nat} {f : Nat → Int64} {σ : St} : FrameBlind (va_Pc av (PW D qo kL ad kk sz f σ)) := fun a U g mk q => by
  obtain ⟨q0, q1, qP, qK, qD, qE⟩ := q
  exact ⟨q0, q1, qP, va_K.moved (u := U) (U := U.calling g mk a) (Vm.Alike.refl U.vm) qK, qD, EvW.same (u := U) (U := U.calling g mk a) rfl qE⟩
theorem wW_D {qo : Nat} {kL : ClassId} {f : Nat → Int64} {ad : Nat → Nat} {kk : Nat → ClassId} {sz : Nat} {σ : St} {A : Nat → Prop} (h : va_D A (wW qo kL f ad kk σ)) : va_D (aW qo ad sz) (wW qo kL f ad kk σ) :=
  ⟨h.1, fun k q hk => by
    cases k with
    | zero => cases Option.some.inj hk; exact Or.inl rfl
    | succ k =>
      have hk2 : (wB ad kk σ)[k]? = some q := hk
      obtain ⟨h1, rfl⟩ := wL_of hk2
      exact Or.inr (Or.inl ⟨k, h1, rfl⟩)⟩
/-- a wrapper's answer: what the call gives, or which of its exceptions -/
def wrP (T : Except String (Int64 × St)) (cs : List String) (σ : St) (f : Nat → Int64) (r : Int32) (u : St × (Nat → Int64)) : Prop := match T with
  | .ok x => r = 0 ∧ u.1 = x.2 ∧ u.2 0 = x.1
  | .error E => r = nI (cs.idxOf E + 1) ∧ u = (σ, f)
def tI (x : Except String (Int32 × St)) : Except String (Int64 × St) := match x with
  | .ok a => .ok (a.1.toInt64, a.2)
  | .error e => .error e
def tZ (x : Except String (Int32 × St)) : Except String (Int64 × St) := match x with
  | .ok a => .ok (if a.1 = 0 then 0 else 1, a.2)
  | .error e => .error e
def tR (σ : St) (x : Except String Int32) : Except String (Int64 × St) := match x with
  | .ok a => .ok (a.toInt64, σ)
  | .error e => .error e
def tL (σ : St) (x : Except String Int64) : Except String (Int64 × St) := match x with
  | .ok a => .ok (a, σ)
  | .error e => .error e
section
variable {p : Program} {l : Launch} {e : Env} {R : Room} {s : State} {m : MethodId} {args : Array Value} {below : List Frame} {meth : Method} {c : Code} {H : Heap} {locs : List Loc} {cells slots mc ms pc : Nat} {ls : Array Slot} {st0 rest : List Value} {Q : State → Prop} {D : va_G} {qo : Nat} {kL : ClassId} {f : Nat → Int64} {ad : Nat → Nat} {kk : Nat → ClassId} {a : Array Value} {σ : St}
theorem preV_W {As : List Value} (hK : va_K D vwCl (tyW kL kk) s) (hP : va_P D vwCl (wW qo kL f ad kk σ) H) (hD : va_D (aW qo ad s.heap.size) (wW qo kL f ad kk σ)) (hE : EvW (aW qo ad s.heap.size) s s.heap) (hS : va_S (aW qo ad s.heap.size) s.heap H locs) : PreV s H "MaterialBars" (ad 0) (va_Pc (.ref (ad 0) :: As) (PB D ad kk H.size σ)) As :=
  ⟨PB_blind, va_recv hK hP (ci := 4) (q0 := 1) (q := (RX4, TX4, 9)) rfl (show (wB ad kk σ)[0]? = _ from g_MB), fun U hU hW => ⟨rfl, by rw [hU], by rw [hU]; exact subR hP, va_K.moved hW.alike (hK.sub [1, 2, 3, 4] rfl), (subRD hD).weaken (fun _ _ _ _ => trivial), by
    rw [hU]
    exact Ev.warm hW (fun a h1 h2 => hS.2.1 a h1 h2) (fun q hq => Or.inr (aL_le hS.1 q hq)) hE.1⟩⟩
theorem aL_w {q : Nat} {z : Nat} (h : aL 96 ad z q) : (∃ (k : Nat) (e : va_E), (wB ad kk σ)[k]? = some (q, e)) ∨ z ≤ q := by
  rcases h with ⟨i, hi, rfl⟩ | h
  · exact Or.inl ⟨i, _, wL_get hi⟩
  · exact Or.inr h
theorem kW_j {u : St} {t : State} {H1 : Heap} (hP : va_P D vwCl (wW qo kL f ad kk σ) H) (hD : va_D (aW qo ad s.heap.size) (wW qo kL f ad kk σ)) (hS : va_S (aW qo ad s.heap.size) s.heap H locs) (ht : t.heap = H1) (hB : QB D ad kk H.size u t) (hk : ∀ q : Nat, q < H.size → ¬ aL 96 ad H.size q → H1[q]? = H[q]?) : va_P D vwCl (wW qo kL f ad kk u) H1 ∧ va_D (aW qo ad s.heap.size) (wW qo kL f ad kk u) :=
  join_R hP hD (fun q h => aL_w h) (fun q h => Or.inr (aL_le hS.1 q h)) hk (by rw [← ht]; exact hB.1) hB.2.2
theorem kW_i {α : Type} {Tg : Except String α} {post : Int32 → St → Prop} (hr : vx_Run p l e R s m args below meth c H locs cells slots mc ms (F0 m pc ls st0) rest (va_Qi post (QB D ad kk H.size) (aL 96 ad H.size) a) (XB Tg D ad kk H.size σ) (aL 96 ad H.size)) (hP : va_P D vwCl (wW qo kL f ad kk σ) H) (hD : va_D (aW qo ad s.heap.size) (wW qo kL f ad kk σ)) (hS : va_S (aW qo ad s.heap.size) s.heap H locs)
    (kx : ∀ (E : String) (ce : Cell) (q9 : Addr) (H1 : Heap) (locs1 : List Loc), Except.error E = Tg → va_P D vwCl (wW qo kL f ad kk σ) H1 → va_D (aW qo ad s.heap.size) (wW qo kL f ad kk σ) → va_S (aW qo ad s.heap.size) s.heap H1 locs1 → H1[q9]? = some ce → ce.vm = .none → s.vm.findClass E = some ce.cls → vx_W p l e R s m args below meth c H1 locs1 (cells + mc) (slots + ms) Q (F0 m pc ls rest) q9)
    (kn : ∀ (r : Int32) (u : St) (H1 : Heap) (locs1 : List Loc), post r u → va_P D vwCl (wW qo kL f ad kk u) H1 → va_D (aW qo ad s.heap.size) (wW qo kL f ad kk u) → va_S (aW qo ad s.heap.size) s.heap H1 locs1 → W p l e R s m args below meth c H1 locs1 (cells + mc) (slots + ms) Q (F0 m (pc + 3) ls (.int r :: rest))) : W p l e R s m args below meth c H locs cells slots Q (F0 m pc ls st0) :=
  vx_calli hr hS (fun q _ h => Or.inr (aL_le hS.1 q h)) (fun q h => Or.inr (aL_le hS.1 q h)) (fun q _ h => Or.inr (aL_le hS.1 q h)) (fun E ce q9 _ t H1 locs1 ht _ _ hB _ hk hS1 hc1 hv1 hcl => kx E ce q9 H1 locs1 hB.1 (kW_j hP hD hS ht hB.2 hk).1 (kW_j hP hD hS ht hB.2 hk).2 hS1 hc1 hv1 hcl) (fun r u t H1 locs1 ht _ hp hB _ hk hS1 => kn r u H1 locs1 hp (kW_j hP hD hS ht hB hk).1 (kW_j hP hD hS ht hB hk).2 hS1)
theorem kW_l {α : Type} {Tg : Except String α} {post : Int64 → St → Prop} (hr : vx_Run p l e R s m args below meth c H locs cells slots mc ms (F0 m pc ls st0) rest (va_Ql post (QB D ad kk H.size) (aL 96 ad H.size) a) (XB Tg D ad kk H.size σ) (aL 96 ad H.size)) (hP : va_P D vwCl (wW qo kL f ad kk σ) H) (hD : va_D (aW qo ad s.heap.size) (wW qo kL f ad kk σ)) (hS : va_S (aW qo ad s.heap.size) s.heap H locs)
    (kx : ∀ (E : String) (ce : Cell) (q9 : Addr) (H1 : Heap) (locs1 : List Loc), Except.error E = Tg → va_P D vwCl (wW qo kL f ad kk σ) H1 → va_D (aW qo ad s.heap.size) (wW qo kL f ad kk σ) → va_S (aW qo ad s.heap.size) s.heap H1 locs1 → H1[q9]? = some ce → ce.vm = .none → s.vm.findClass E = some ce.cls → vx_W p l e R s m args below meth c H1 locs1 (cells + mc) (slots + ms) Q (F0 m pc ls rest) q9)
    (kn : ∀ (r : Int64) (u : St) (H1 : Heap) (locs1 : List Loc), post r u → va_P D vwCl (wW qo kL f ad kk u) H1 → va_D (aW qo ad s.heap.size) (wW qo kL f ad kk u) → va_S (aW qo ad s.heap.size) s.heap H1 locs1 → W p l e R s m args below meth c H1 locs1 (cells + mc) (slots + ms) Q (F0 m (pc + 3) ls (.long r :: rest))) : W p l e R s m args below meth c H locs cells slots Q (F0 m pc ls st0) :=
  vx_calll hr hS (fun q _ h => Or.inr (aL_le hS.1 q h)) (fun q h => Or.inr (aL_le hS.1 q h)) (fun q _ h => Or.inr (aL_le hS.1 q h)) (fun E ce q9 _ t H1 locs1 ht _ _ hB _ hk hS1 hc1 hv1 hcl => kx E ce q9 H1 locs1 hB.1 (kW_j hP hD hS ht hB.2 hk).1 (kW_j hP hD hS ht hB.2 hk).2 hS1 hc1 hv1 hcl) (fun r u t H1 locs1 ht _ hp hB _ hk hS1 => kn r u H1 locs1 hp (kW_j hP hD hS ht hB hk).1 (kW_j hP hD hS ht hB hk).2 hS1)
end

theorem xb_err {α β : Type} {x : Except String α} {k : α → Except String β} {E : String} (h : Except.error E = xb x k) : Except.error E = x ∨ ∃ a, Except.ok a = x ∧ Except.error E = k a := by
  cases x with
  | error e => exact Or.inl (by cases h; rfl)
  | ok a => exact Or.inr ⟨a, rfl, h⟩
theorem chk_err {σ : St} {a b : Int32} {E : String} (h : Except.error E = M_checkPlace σ a b) : E = "java/lang/IndexOutOfBoundsException" := by
  unfold M_checkPlace at h
  (repeat' split at h) <;> cases h <;> rfl
theorem mAt_err {σ : St} {a : Int32} {E : String} (h : Except.error E = M_methodAt σ a) : E = "java/lang/IndexOutOfBoundsException" := by
  unfold M_methodAt at h
  rcases xb_err h with h | ⟨_, -, h⟩
  · exact chk_err h
  · cases h
theorem pAt_err {σ : St} {a : Int32} {E : String} (h : Except.error E = M_pieceAt σ a) : E = "java/lang/IndexOutOfBoundsException" := by
  unfold M_pieceAt at h
  rcases xb_err h with h | ⟨_, -, h⟩
  · exact chk_err h
  · cases h
theorem hour_err {σ : St} {a b : Int32} {E : String} (h : Except.error E = M_checkHour σ a b) : E = "java/lang/IllegalArgumentException" := by
  unfold M_checkHour at h
  (repeat' split at h) <;> cases h <;> rfl
theorem wr_eI {X : Except String (Int32 × St)} {cs : List String} {σ : St} {f : Nat → Int64} {r : Int32} {E : String} (h : Except.error E = X) (hr : r = nI (cs.idxOf E + 1)) : wrP (tI X) cs σ f r (σ, f) := by
  rw [← h]; exact ⟨hr, rfl⟩
theorem wr_eZ {X : Except String (Int32 × St)} {cs : List String} {σ : St} {f : Nat → Int64} {r : Int32} {E : String} (h : Except.error E = X) (hr : r = nI (cs.idxOf E + 1)) : wrP (tZ X) cs σ f r (σ, f) := by
  rw [← h]; exact ⟨hr, rfl⟩
theorem wr_eR {X : Except String Int32} {cs : List String} {σ : St} {f : Nat → Int64} {r : Int32} {E : String} (h : Except.error E = X) (hr : r = nI (cs.idxOf E + 1)) : wrP (tR σ X) cs σ f r (σ, f) := by
  rw [← h]; exact ⟨hr, rfl⟩
theorem wr_eL {X : Except String Int64} {cs : List String} {σ : St} {f : Nat → Int64} {r : Int32} {E : String} (h : Except.error E = X) (hr : r = nI (cs.idxOf E + 1)) : wrP (tL σ X) cs σ f r (σ, f) := by
  rw [← h]; exact ⟨hr, rfl⟩

/-! Worlds by places: cell i of n lies at ad i and holds ct i. -/
def wL (n : Nat) (ad : Nat → Nat) (ct : Nat → va_E) : va_W := (List.range n).map (fun i => (ad i, ct i))
theorem wL_len {n : Nat} {ad : Nat → Nat} {ct : Nat → va_E} : (wL n ad ct).length = n := by
  simp [wL]
theorem wL_get {n : Nat} {ad : Nat → Nat} {ct : Nat → va_E} {i : Nat} (h : i < n) : (wL n ad ct)[i]? = some (ad i, ct i) := by
  unfold wL
  rw [List.getElem?_map, List.getElem?_range h]
  rfl
theorem wL_at {n : Nat} {ad : Nat → Nat} {ct : Nat → va_E} {i : Nat} {e : va_E} (h : i < n) (he : ct i = e) : (wL n ad ct)[i]? = some (ad i, e) := by
  rw [wL_get h, he]
theorem wL_out {n : Nat} {ad : Nat → Nat} {ct : Nat → va_E} {i : Nat} (h : n ≤ i) : (wL n ad ct)[i]? = none := by
  rw [List.getElem?_eq_none_iff, wL_len]; exact h
theorem wL_of {n : Nat} {ad : Nat → Nat} {ct : Nat → va_E} {i : Nat} {q : Nat × va_E} (h : (wL n ad ct)[i]? = some q) : i < n ∧ q = (ad i, ct i) := by
  rcases Nat.lt_or_ge i n with h1 | h1
  · rw [wL_get h1] at h; exact ⟨h1, (Option.some.inj h).symm⟩
  · rw [wL_out h1] at h; cases h
theorem wL_congr {n : Nat} {ad : Nat → Nat} {ct ct' : Nat → va_E} (h : ∀ i, i < n → ct i = ct' i) : wL n ad ct = wL n ad ct' := by
  unfold wL
  exact List.map_congr_left (fun i hi => by rw [h i (List.mem_range.mp hi)])
theorem wL_set {n : Nat} {ad : Nat → Nat} {ct ct' : Nat → va_E} {i : Nat} {e : va_E} (hi : i < n) (h1 : ct' i = e) (h2 : ∀ j, j < n → j ≠ i → ct' j = ct j) : (wL n ad ct).set i (ad i, e) = wL n ad ct' := by
  apply List.ext_getElem?
  intro k
  rw [List.getElem?_set]
  rcases Nat.lt_or_ge k n with hk | hk
  · by_cases hki : i = k
    · subst hki
      rw [if_pos rfl, wL_len, if_pos hk, wL_get hk, h1]
    · rw [if_neg hki, wL_get hk, wL_get hk, h2 k hk (fun h => hki h.symm)]
  · have hki : ¬ i = k := by omega
    rw [if_neg hki, wL_out hk, wL_out hk]
theorem wL_push {n : Nat} {ad : Nat → Nat} {ct : Nat → va_E} {q : Nat} {e : va_E} : wL n ad ct ++ [(q, e)] = wL (n + 1) (va_up ad n q) (va_up ct n e) := by
  unfold wL
  rw [List.range_succ, List.map_append]
  congr 1
  · exact List.map_congr_left (fun i hi => by
      have h : i ≠ n := Nat.ne_of_lt (List.mem_range.mp hi)
      rw [va_up_ne _ _ h, va_up_ne _ _ h])
  · simp [va_up_self]
/-- what a method over the world by places may change: its cells, and those that come from sz on -/
def aL (n : Nat) (ad : Nat → Nat) (sz : Nat) : Nat → Prop := fun q => (∃ i, i < n ∧ q = ad i) ∨ sz ≤ q
theorem aL_le {n : Nat} {ad : Nat → Nat} {a b : Nat} (h : a ≤ b) : ∀ q, aL n ad b q → aL n ad a q := fun q hq => by
  rcases hq with h1 | h1
  · exact Or.inl h1
  · exact Or.inr (Nat.le_trans h h1)
theorem aL_D {n : Nat} {ad : Nat → Nat} {ct : Nat → va_E} {sz : Nat} {A : Nat → Prop} (h : va_D A (wL n ad ct)) : va_D (aL n ad sz) (wL n ad ct) :=
  ⟨h.1, fun k q hk => by obtain ⟨h1, h2⟩ := wL_of hk; subst h2; exact Or.inl ⟨k, h1, rfl⟩⟩
theorem aL_D2 {n : Nat} {ad : Nat → Nat} {ct : Nat → va_E} {A B : Nat → Prop} (h : va_D A (wL n ad ct)) (hB : ∀ q, A q → B q) : va_D B (wL n ad ct) :=
  ⟨h.1, fun k q hk => hB _ (h.2 k q hk)⟩
/-! A state of a system whose objects and arrays stay: F the ints (booleans) in fields, L the longs in fields, A the ints in arrays; each by place and slot. -/
abbrev St : Type := (Nat → Nat → Int32) × (Nat → Nat → Int64) × (Nat → Nat → Int32)
def gF (σ : St) (i j : Nat) : Int32 := σ.1 i j
def gL (σ : St) (i j : Nat) : Int64 := σ.2.1 i j
def gA (σ : St) (i j : Nat) : Int32 := σ.2.2 i j
def u2 {α : Type} (f : Nat → Nat → α) (i j : Nat) (v : α) : Nat → Nat → α := fun a b => if a = i ∧ b = j then v else f a b
def sF (σ : St) (i j : Nat) (v : Int32) : St := (u2 σ.1 i j v, σ.2.1, σ.2.2)
def sL (σ : St) (i j : Nat) (v : Int64) : St := (σ.1, u2 σ.2.1 i j v, σ.2.2)
def sA (σ : St) (i j : Nat) (v : Int32) : St := (σ.1, σ.2.1, u2 σ.2.2 i j v)
theorem gF_sF (σ : St) (i j : Nat) (v : Int32) (a b : Nat) : gF (sF σ i j v) a b = if a = i ∧ b = j then v else gF σ a b := rfl
theorem gF_sL (σ : St) (i j : Nat) (v : Int64) (a b : Nat) : gF (sL σ i j v) a b = gF σ a b := rfl
theorem gF_sA (σ : St) (i j : Nat) (v : Int32) (a b : Nat) : gF (sA σ i j v) a b = gF σ a b := rfl
theorem gL_sF (σ : St) (i j : Nat) (v : Int32) (a b : Nat) : gL (sF σ i j v) a b = gL σ a b := rfl
theorem gL_sL (σ : St) (i j : Nat) (v : Int64) (a b : Nat) : gL (sL σ i j v) a b = if a = i ∧ b = j then v else gL σ a b := rfl
theorem gL_sA (σ : St) (i j : Nat) (v : Int32) (a b : Nat) : gL (sA σ i j v) a b = gL σ a b := rfl
theorem gA_sF (σ : St) (i j : Nat) (v : Int32) (a b : Nat) : gA (sF σ i j v) a b = gA σ a b := rfl
theorem gA_sL (σ : St) (i j : Nat) (v : Int64) (a b : Nat) : gA (sL σ i j v) a b = gA σ a b := rfl
theorem gA_sA (σ : St) (i j : Nat) (v : Int32) (a b : Nat) : gA (sA σ i j v) a b = if a = i ∧ b = j then v else gA σ a b := rfl
/-- place i holds the same in both -/
def same (σ τ : St) (i : Nat) : Prop := (∀ j, gF τ i j = gF σ i j) ∧ (∀ j, gL τ i j = gL σ i j) ∧ gA τ i = gA σ i
theorem same_sF {σ : St} {p j : Nat} {v : Int32} {i : Nat} (h : i ≠ p) : same σ (sF σ p j v) i :=
  ⟨fun b => by rw [gF_sF, if_neg (fun q => h q.1)], fun b => rfl, rfl⟩
theorem same_sL {σ : St} {p j : Nat} {v : Int64} {i : Nat} (h : i ≠ p) : same σ (sL σ p j v) i :=
  ⟨fun b => rfl, fun b => by rw [gL_sL, if_neg (fun q => h q.1)], rfl⟩
theorem same_sA {σ : St} {p j : Nat} {v : Int32} {i : Nat} (h : i ≠ p) : same σ (sA σ p j v) i :=
  ⟨fun b => rfl, fun b => rfl, by funext b; rw [gA_sA, if_neg (fun q => h q.1)]⟩
theorem gA_upd (σ : St) (p j : Nat) (v : Int32) : gA (sA σ p j v) p = upd (gA σ p) j v := by
  funext b
  rw [gA_sA]
  by_cases h : b = j
  · subst h; rw [if_pos ⟨rfl, rfl⟩]; exact pk_us.symm
  · rw [if_neg (fun q => h q.2)]; exact (pk_un h).symm
/-! A call on a part of the world: the rest stays. -/
theorem join_R {D : va_G} {cl : List vw_C} {A0 A1 : Nat → Prop} {w1 w1' w2 : va_W} {H H1 : Heap} (hP : va_P D cl (w2 ++ w1) H) (hD : va_D A0 (w2 ++ w1)) (hA1 : ∀ q, A1 q → (∃ (k : Nat) (e : va_E), w1[k]? = some (q, e)) ∨ H.size ≤ q) (hA0 : ∀ q, A1 q → A0 q) (hk : ∀ q : Nat, q < H.size → ¬ A1 q → H1[q]? = H[q]?) (hP1 : va_P D cl w1' H1) (hD1 : va_D A1 w1') : va_P D cl (w2 ++ w1') H1 ∧ va_D A0 (w2 ++ w1') := by
  have no : ∀ (k : Nat) (q : Nat × va_E), w2[k]? = some q → ¬ A1 q.1 := by
    intro k q hq hA
    have hlt : k < w2.length := (List.getElem?_eq_some_iff.mp hq).1
    have hq2 : (w2 ++ w1)[k]? = some q := by rw [List.getElem?_append_left hlt]; exact hq
    rcases hA1 _ hA with ⟨j, e, he⟩ | h
    · have hj : (w2 ++ w1)[w2.length + j]? = some (q.1, e) := by rw [List.getElem?_append_right (Nat.le_add_right _ _), Nat.add_sub_cancel_left]; exact he
      have := hD.1 _ _ _ _ hq2 hj rfl
      omega
    · exact absurd (hP _ _ hq2).lt (Nat.not_lt.mpr h)
  refine ⟨?_, ?_, ?_⟩
  · intro k q hq
    rcases Nat.lt_or_ge k w2.length with h | h
    · rw [List.getElem?_append_left h] at hq
      have hq2 : (w2 ++ w1)[k]? = some q := by rw [List.getElem?_append_left h]; exact hq
      exact (hP _ _ hq2).kept (hk _ (hP _ _ hq2).lt (no k q hq))
    · rw [List.getElem?_append_right h] at hq
      exact hP1 _ _ hq
  · intro i j p q hp hq e
    rcases Nat.lt_or_ge i w2.length with h | h <;> rcases Nat.lt_or_ge j w2.length with h' | h'
    · rw [List.getElem?_append_left h] at hp
      rw [List.getElem?_append_left h'] at hq
      exact hD.1 i j p q (by rw [List.getElem?_append_left h]; exact hp) (by rw [List.getElem?_append_left h']; exact hq) e
    · rw [List.getElem?_append_left h] at hp
      rw [List.getElem?_append_right h'] at hq
      exact absurd (by rw [e]; exact hD1.2 _ _ hq) (no _ _ hp)
    · rw [List.getElem?_append_right h] at hp
      rw [List.getElem?_append_left h'] at hq
      exact absurd (by rw [← e]; exact hD1.2 _ _ hp) (no _ _ hq)
    · rw [List.getElem?_append_right h] at hp
      rw [List.getElem?_append_right h'] at hq
      have := hD1.1 _ _ _ _ hp hq e
      omega
  · intro k q hq
    rcases Nat.lt_or_ge k w2.length with h | h
    · rw [List.getElem?_append_left h] at hq
      exact hD.2 k q (by rw [List.getElem?_append_left h]; exact hq)
    · rw [List.getElem?_append_right h] at hq
      exact hA0 _ (hD1.2 _ _ hq)
/-! combinators of the mirrors -/
def vb {α β : Type} (x : α) (k : α → β) : β := k x
theorem vb_eq {α β : Type} (x : α) (k : α → β) : vb x k = k x := rfl
def pb {α β γ : Type} (x : α × β) (k : α → β → γ) : γ := k x.1 x.2
theorem pb_id {α β : Type} (x : α × β) : pb x (fun a b => (a, b)) = x := rfl
theorem pb_mk {α β γ : Type} (a : α) (b : β) (k : α → β → γ) : pb (a, b) k = k a b := rfl
theorem namedQ {p : Program} {l : Launch} {e : Env} {R : Room} {s : State} {m : MethodId} {args : Array Value} {below : List Frame} {meth : Method} {c : Code} {H : Heap} {locs : List Loc} {cells slots : Nat} {Q : State → Prop} {g : JFrame} (h : ∀ Q', Q' = Q → W p l e R s m args below meth c H locs cells slots Q' g) : W p l e R s m args below meth c H locs cells slots Q g := h Q rfl
def cpA (σ : St) (a b sp dp n : Nat) : St := (σ.1, σ.2.1, fun p => if p = b then va_cpy (σ.2.2 a) (σ.2.2 b) sp dp n else σ.2.2 p)
def xb {α β : Type} (x : Except String α) (k : α → Except String β) : Except String β := match x with
  | .error e => .error e
  | .ok a => k a
theorem xb_ok {α β : Type} (a : α) (k : α → Except String β) : xb (.ok a) k = k a := rfl
theorem xb_er {α β : Type} (e : String) (k : α → Except String β) : xb (.error e) k = .error e := rfl
theorem jn {α : Type} {E : α} {P : Prop} {Kp : α → Prop} (h1 : ∀ V, E = V → (∀ y, y = V → Kp y) → P) (h2 : ∀ y, y = E → Kp y) : P := h1 E rfl h2
theorem lv_topE {p : Program} {l : Launch} {e : Env} {R : Room} {s : State} {m : MethodId} {args : Array Value} {below : List Frame} {meth : Method} {c : Code} {H : Heap} {locs : List Loc} {cells slots : Nat} {Q : State → Prop} {pc : Nat} {ls : Array Slot} {rest : List Value} {x x' : Int32} (h : x = x') (k : W p l e R s m args below meth c H locs cells slots Q (F0 m pc ls (.int x' :: rest))) : W p l e R s m args below meth c H locs cells slots Q (F0 m pc ls (.int x :: rest)) := by
  rw [h]; exact k
theorem nz01 {x : Int32} (h : x = 0 ∨ x = 1) : vp_nar .boolean x = x := by
  rcases h with rfl | rfl <;> rfl
/-- a counter that falls to -1: it stands one below i -/
def sI (i : Nat) : Int32 := nI i - 1
theorem sI_succ (k : Nat) : sI (k + 1) = nI k := nI_pred k
theorem sI_dec (k : Nat) : nI k + Int32.ofInt (-1) = sI k := by
  unfold sI
  rw [show Int32.ofInt (-1) = -1 by decide, ← Int32.sub_eq_add_neg]

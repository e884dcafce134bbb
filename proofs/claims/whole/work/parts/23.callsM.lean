def PM (D : va_G) (ad : Nat → Nat) (kk : Nat → ClassId) (sz : Nat) (σ : St) (U : State) : Prop := U.heap.size = sz ∧ va_P D vwCl (wM ad kk σ) U.heap ∧ va_K D vwCl (tyM kk) U ∧ va_D (fun _ => True) (wM ad kk σ)
def QM (D : va_G) (ad : Nat → Nat) (kk : Nat → ClassId) (sz : Nat) (σ : St) (t : State) : Prop := va_P D vwCl (wM ad kk σ) t.heap ∧ va_K D vwCl (tyM kk) t ∧ va_D (aL 23 ad sz) (wM ad kk σ)
theorem PM_blind {av : List Value} {D : va_G} {ad : Nat → Nat} {kk : Nat → ClassId} {sz : Nat} {σ : St} : FrameBlind (va_Pc av (PM D ad kk sz σ)) := fun a U g mk q => by
  obtain ⟨q0, q1, qP, qK, qD⟩ := q
  exact ⟨q0, q1, qP, va_K.moved (u := U) (U := U.calling g mk a) (Vm.Alike.refl U.vm) qK, qD⟩
theorem PM_at {s U : State} {H : Heap} {locs : List Loc} {D : va_G} {ad : Nat → Nat} {kk : Nat → ClassId} {σ : St} {A : Nat → Prop} (hK : va_K D vwCl (tyM kk) s) (hP : va_P D vwCl (wM ad kk σ) H) (hD : va_D A (wM ad kk σ)) (hS : va_S (aL 23 ad s.heap.size) s.heap H locs) (hU : U.heap = H) (hW : s.WarmedH U.vm) : PM D ad kk H.size σ U :=
  ⟨by rw [hU], by rw [hU]; exact hP, va_K.moved hW.alike hK, hD.weaken (fun _ _ _ _ => trivial)⟩
section
variable {p : Program} {l : Launch} {e : Env} {R : Room} {s : State} {m : MethodId} {args : Array Value} {below : List Frame} {meth : Method} {c : Code} {H : Heap} {locs : List Loc} {cells slots mc ms pc : Nat} {ls : Array Slot} {st0 rest : List Value} {Q : State → Prop} {D : va_G} {ad : Nat → Nat} {kk : Nat → ClassId} {a : Array Value} {σ : St}
theorem preV_M {C : String} {b : Addr} {As : List Value} {q0 ci : Nat} {r : vw_C} {fs : List Value} {A : Nat → Prop} (hK : va_K D vwCl (tyM kk) s) (hP : va_P D vwCl (wM ad kk σ) H) (hD : va_D A (wM ad kk σ)) (hS : va_S (aL 23 ad s.heap.size) s.heap H locs) (hc : vwCl[ci]? = some r) (hC : r.1 = C) (he : (wM ad kk σ)[q0]? = some (b, .inr (ci, fs))) : PreV s H C b (va_Pc (.ref b :: As) (PM D ad kk H.size σ)) As :=
  ⟨PM_blind, by rw [← hC]; exact va_recv hK hP hc he, fun U hU hW => ⟨rfl, PM_at hK hP hD hS hU hW⟩⟩
theorem preS_M {As : List Value} {A : Nat → Prop} (hK : va_K D vwCl (tyM kk) s) (hP : va_P D vwCl (wM ad kk σ) H) (hD : va_D A (wM ad kk σ)) (hS : va_S (aL 23 ad s.heap.size) s.heap H locs) : PreS s H (va_Pc As (PM D ad kk H.size σ)) As :=
  ⟨PM_blind, fun U hU hW => ⟨rfl, PM_at hK hP hD hS hU hW⟩⟩
theorem kM_i {post : Int32 → St → Prop} (hr : va_Run p l e R s m args below meth c H locs cells slots mc ms (F0 m pc ls st0) rest (va_Qi post (QM D ad kk H.size) (aL 23 ad H.size) a) (aL 23 ad H.size)) (hS : va_S (aL 23 ad s.heap.size) s.heap H locs)
    (kx : ∀ (r : Int32) (u : St) (H1 : Heap) (locs1 : List Loc), post r u → va_P D vwCl (wM ad kk u) H1 → va_D (aL 23 ad s.heap.size) (wM ad kk u) → va_S (aL 23 ad s.heap.size) s.heap H1 locs1 → W p l e R s m args below meth c H1 locs1 (cells + mc) (slots + ms) Q (F0 m (pc + 3) ls (.int r :: rest))) : W p l e R s m args below meth c H locs cells slots Q (F0 m pc ls st0) :=
  va_calli hr hS (fun q _ h => aL_le hS.1 q h) (aL_le hS.1) (fun r u t H1 locs1 ht _ hp hB _ _ hS1 => kx r u H1 locs1 hp (by rw [← ht]; exact hB.1) (aL_D2 hB.2.2 (aL_le hS.1)) hS1)
theorem kM_v {post : St → Prop} (hr : va_Run p l e R s m args below meth c H locs cells slots mc ms (F0 m pc ls st0) rest (va_Qv post (QM D ad kk H.size) (aL 23 ad H.size) a) (aL 23 ad H.size)) (hS : va_S (aL 23 ad s.heap.size) s.heap H locs)
    (kx : ∀ (u : St) (H1 : Heap) (locs1 : List Loc), post u → va_P D vwCl (wM ad kk u) H1 → va_D (aL 23 ad s.heap.size) (wM ad kk u) → va_S (aL 23 ad s.heap.size) s.heap H1 locs1 → W p l e R s m args below meth c H1 locs1 (cells + mc) (slots + ms) Q (F0 m (pc + 3) ls rest)) : W p l e R s m args below meth c H locs cells slots Q (F0 m pc ls st0) :=
  va_callv hr hS (fun q _ h => aL_le hS.1 q h) (aL_le hS.1) (fun u t H1 locs1 ht _ hp hB _ _ hS1 => kx u H1 locs1 hp (by rw [← ht]; exact hB.1) (aL_D2 hB.2.2 (aL_le hS.1)) hS1)
end

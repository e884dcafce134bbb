section
variable {p : Program} {l : Launch} {e : Env} {R : Room} {s : State} {m : MethodId} {args : Array Value} {below : List Frame} {meth : Method} {c : Code} {H : Heap} {locs : List Loc} {cells slots mc ms pc : Nat} {ls : Array Slot} {st0 rest : List Value} {Q : State → Prop} {D : va_G} {ad : Nat → Nat} {kk : Nat → ClassId} {a : Array Value} {σ : St}
/-- a read: its answer by name, the world as it was -/
theorem kM_r {v : Int32} (hr : va_Run p l e R s m args below meth c H locs cells slots mc ms (F0 m pc ls st0) rest (va_Qi (fun r u => r = v ∧ u = σ) (QM D ad kk H.size) (aL 23 ad H.size) a) (aL 23 ad H.size)) (hS : va_S (aL 23 ad s.heap.size) s.heap H locs)
    (kx : ∀ (H1 : Heap) (locs1 : List Loc), va_P D vwCl (wM ad kk σ) H1 → va_D (aL 23 ad s.heap.size) (wM ad kk σ) → va_S (aL 23 ad s.heap.size) s.heap H1 locs1 → W p l e R s m args below meth c H1 locs1 (cells + mc) (slots + ms) Q (F0 m (pc + 3) ls (.int v :: rest))) : W p l e R s m args below meth c H locs cells slots Q (F0 m pc ls st0) :=
  kM_i hr hS (fun r u H1 locs1 hp hP hD hS1 => by
    obtain ⟨h1, h2⟩ := hp
    rw [h2] at hP hD
    rw [h1]
    exact kx H1 locs1 hP hD hS1)
end

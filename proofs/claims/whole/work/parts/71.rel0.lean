/-! at the start, and all calls together -/
theorem s0F {p j : Nat} (h : p < 82 ∨ 94 ≤ p ∨ j ≠ 3) : gF σ0 p j = 0 := by
  show (if (82 ≤ p ∧ p < 94) ∧ j = 3 then (-1 : Int32) else 0) = 0
  rw [if_neg (fun q => by omega)]
theorem s0A {p j : Nat} : gA σ0 p j = 0 := rfl
theorem m0A {p j : Nat} (h : p ≠ 18) : gA (μk 12) p j = 0 := by
  show (if p = 18 ∧ j < 12 then (-1 : Int32) else 0) = 0
  rw [if_neg (fun q => h q.1)]
theorem m0F {p j : Nat} : gF (μk 12) p j = 0 := rfl
theorem z0_le {N : Int} (h : 0 ≤ N) : 0 ≤ (0 : Int32).toInt ∧ (0 : Int32).toInt ≤ N := by
  rw [show (0 : Int32).toInt = 0 by decide]
  exact ⟨Int.le_refl _, h⟩
theorem rel0 : Rel σ0 (μk 12) := by
  refine ⟨⟨⟨⟨?_, ?_, ?_, ?_⟩, ?_, ?_, ?_, fun i hi => ?_⟩, ?_, ?_, ?_, ?_, fun j hj => ?_, fun o ho => ?_, fun k => ?_, fun k => ?_⟩, ⟨?_, ?_⟩, ⟨?_, fun k hk => ?_⟩, fun m hm => ⟨⟨fun p hp => ?_, fun p hp => ?_, fun z hz => ?_⟩, fun hl => ?_⟩, fun o ho => ?_, fun g hg => ?_, ⟨?_, fun k hk => ?_⟩⟩
  · rw [s0F (by omega)]; decide
  · rw [s0F (by omega)]; decide
  · rw [s0F (by omega)]; decide
  · rw [s0F (by omega)]; decide
  · rw [s0F (by omega)]; exact z0_le (by decide)
  · rw [s0F (by omega)]; exact z0_le (by decide)
  · rw [s0F (by omega)]; exact z0_le (by decide)
  · have ep : pPi i = 41 + 4 * i := rfl
    rw [s0F (by omega), s0F (by omega)]; exact ⟨z0_le (by decide), z0_le (by decide)⟩
  · rw [m0F]; exact z0_le (by decide)
  · rw [m0F]; exact z0_le (by decide)
  · rw [m0F]; exact z0_le (by decide)
  · rw [m0F]; exact z0_le (by decide)
  · rw [m0A (by decide)]; exact z0_le (by decide)
  · rw [m0A (by decide), m0A (by decide)]; exact ⟨z0_le (by decide), z0_le (by decide)⟩
  · rw [m0A (by decide)]; exact Or.inl rfl
  · rw [m0A (by decide)]; exact Or.inl rfl
  · rw [s0F (by omega)]; rfl
  · rw [s0F (by omega)]; rfl
  · rw [s0F (by omega)]; rfl
  · rw [m0A (by decide)]; rfl
  · have ep : pMe m = 4 + 3 * m := rfl
    rw [s0F (by omega), bt_0, m0A (by decide)]; rfl
  · rw [m0A (by decide)]; exact Or.inl rfl
  · have ep : pMe m = 4 + 3 * m := rfl
    rw [s0F (by omega), bt_0, m0A (by decide)]; rfl
  · rw [m0F, show (0 : Int32).toInt = 0 by decide] at hl
    omega
  · have ep : pPi o = 41 + 4 * o := rfl
    have e1 : np (μk 12) o = 0 := by unfold np; rw [m0A (by decide)]; rfl
    have e2 : nr (μk 12) o = 0 := by unfold nr; rw [m0A (by decide)]; rfl
    refine ⟨⟨?_, fun k hk => ?_, fun k hk => ?_, fun z hz => ?_, fun z hz => ?_⟩, ?_, fun k hk => ?_, fun z hz => ?_, fun z hz hb => ?_, fun z hz => ?_, ?_, ?_⟩
    · rw [s0F (by omega), m0A (by decide)]
    · rw [s0A, m0A (by decide)]
    · rw [e1] at hk; omega
    · rw [s0F (by omega), bt_0, e1]; rfl
    · rw [s0F (by omega), bt_0]
    · rw [s0F (by omega), m0A (by decide)]
    · rw [s0A, s0A, s0A, s0A, m0A (by decide), m0A (by decide), m0A (by decide), m0A (by decide)]; exact ⟨rfl, rfl, rfl, rfl⟩
    · rw [s0F (by omega), bt_0, e2]; rfl
    · rw [s0F (by omega), bt_0] at hb; cases hb
    · rw [s0F (by omega), bt_0]
    · rw [s0F (by omega), e2, if_pos rfl]
    · rw [s0F (by omega)]; decide
  · have ep : pGo g = 82 + g := rfl
    refine ⟨?_, ?_, rfl, rfl, ?_, fun z hz => ?_, ?_⟩
    · rw [s0F (by omega), m0A (by decide)]
    · rw [m0A (by decide)]; exact z0_le (by decide)
    · show (if (82 ≤ pGo g ∧ pGo g < 94) ∧ (3 : Nat) = 3 then (-1 : Int32) else 0) = (if (18 : Nat) = 18 ∧ g < 12 then (-1 : Int32) else 0)
      rw [if_pos ⟨⟨by omega, by omega⟩, rfl⟩, if_pos ⟨rfl, hg⟩]
    · rw [s0F (by omega), bt_0, m0A (by decide)]; rfl
    · rw [m0A (by decide)]
  · rw [s0F (by omega)]; rfl
  · rw [s0A, m0A (by decide)]
theorem sim_all : SIM Rel := ⟨fun _ _ h => ⟨h.ib, h.im⟩, sim_unit, sim_read, sim_uses, sim_object, sim_part, sim_right, sim_trial, sim_reason, sim_done, sim_row, sim_stock, sim_about, sim_apart, sim_put, sim_plan, sim_step, sim_count⟩

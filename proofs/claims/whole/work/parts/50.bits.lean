/-! Sets as the bits of an int. -/
def bt (x : Int32) (k : Nat) : Bool := x.toBitVec.getLsbD k
theorem bt_ext {x y : Int32} (h : ∀ k, k < 32 → bt x k = bt y k) : x = y := by
  apply Int32.toBitVec_inj.mp
  apply BitVec.eq_of_getLsbD_eq
  intro i hi
  exact h i hi
theorem bt_0 (k : Nat) : bt 0 k = false := by
  show (0#32).getLsbD k = false
  exact BitVec.getLsbD_zero
theorem bt_big {x : Int32} {k : Nat} (h : 32 ≤ k) : bt x k = false := BitVec.getLsbD_of_ge _ _ h
theorem bt_and (x y : Int32) (k : Nat) : bt (x &&& y) k = (bt x k && bt y k) := by
  unfold bt
  rw [Int32.toBitVec_and, BitVec.getLsbD_and]
theorem bt_or (x y : Int32) (k : Nat) : bt (x ||| y) k = (bt x k || bt y k) := by
  unfold bt
  rw [Int32.toBitVec_or, BitVec.getLsbD_or]
theorem bt_m1 : ∀ k, k < 32 → bt (-1) k = true := by decide +kernel
theorem bt_not (x : Int32) {k : Nat} (hk : k < 32) : bt (x ^^^ (-1)) k = !bt x k := by
  have h : bt (x ^^^ (-1)) k = (bt x k ^^ bt (-1) k) := by
    unfold bt
    rw [Int32.toBitVec_xor, BitVec.getLsbD_xor]
  rw [h, bt_m1 k hk, Bool.xor_true]
theorem bt_1 : ∀ k, k < 32 → bt 1 k = decide (k = 0) := by decide +kernel
theorem bt_shl : ∀ k, k < 32 → ∀ j, j < 32 → bt ((1 : Int32) <<< (nI k &&& 31)) j = decide (j = k) := by decide +kernel
theorem bt_nI (a : Nat) {k : Nat} (hk : k < 32) : bt (nI a) k = a.testBit k := by
  show (BitVec.ofNat 32 a).getLsbD k = a.testBit k
  rw [BitVec.getLsbD_ofNat]
  simp [hk]
theorem and1_bt (y : Int32) : y &&& 1 = if bt y 0 then 1 else 0 := by
  apply bt_ext
  intro k hk
  rw [bt_and, bt_1 k hk]
  by_cases h0 : k = 0
  · subst h0
    cases h : bt y 0
    · simp [bt_0]
    · simp [bt_1 0 (by decide)]
  · cases h : bt y 0
    · simp [h0, bt_0]
    · simp [h0, bt_1 k hk]
theorem sh_u : ∀ k, k < 32 → ((nI k).toUInt32 &&& Int32.toUInt32 31) = UInt32.ofNat k := by decide +kernel
theorem sh_b : ∀ k, k < 32 → ((UInt32.ofNat k).toBitVec % 32#32).toNat = k := by decide +kernel
theorem sh_s : ∀ k, k < 32 → ((nI k &&& 31).toBitVec.smod 32).toNat = k := by decide +kernel
theorem bt_ushr (x : Int32) {k : Nat} (hk : k < 32) : bt ((x.toUInt32 >>> ((nI k).toUInt32 &&& Int32.toUInt32 31)).toInt32) 0 = bt x k := by
  rw [sh_u k hk]
  show ((x.toUInt32 >>> UInt32.ofNat k).toBitVec).getLsbD 0 = x.toBitVec.getLsbD k
  rw [UInt32.toBitVec_shiftRight]
  show (x.toBitVec >>> ((UInt32.ofNat k).toBitVec % 32#32)).getLsbD 0 = _
  rw [BitVec.ushiftRight_eq', sh_b k hk, BitVec.getLsbD_ushiftRight, Nat.add_zero]
theorem bt_sshr (x : Int32) {k : Nat} (hk : k < 32) : bt (x >>> (nI k &&& 31)) 0 = bt x k := by
  unfold bt
  rw [Int32.toBitVec_shiftRight, BitVec.sshiftRight', sh_s k hk, BitVec.getLsbD_sshiftRight]
  simp [hk]
theorem has_bt (x : Int32) {k : Nat} (hk : k < 32) : M_has x (nI k) = if bt x k then 1 else 0 := by
  unfold M_has
  rw [and1_bt, bt_ushr x hk]
  cases bt x k <;> decide
theorem shr_bt (x : Int32) {k : Nat} (hk : k < 32) : ((x >>> (nI k &&& 31)) &&& 1) = if bt x k then 1 else 0 := by
  rw [and1_bt, bt_sshr x hk]
theorem bt_w1 (x : Int32) {k j : Nat} (hk : k < 32) (hj : j < 32) : bt (M_with x (nI k) 1) j = (bt x j || decide (j = k)) := by
  unfold M_with
  rw [if_neg (by decide), bt_or, bt_shl k hk j hj]
theorem bt_w0 (x : Int32) {k j : Nat} (hk : k < 32) (hj : j < 32) : bt (M_with x (nI k) 0) j = (bt x j && !decide (j = k)) := by
  unfold M_with
  rw [if_pos rfl, bt_and, bt_not _ hj, bt_shl k hk j hj]
theorem bt_z {x : Int32} : x = 0 ↔ ∀ k, k < 32 → bt x k = false := by
  constructor
  · intro h k _; rw [h, bt_0]
  · intro h; exact bt_ext (fun k hk => by rw [h k hk, bt_0])
/-! the first that is so -/
def ff (P : Nat → Bool) : Nat → Nat → Option Nat
  | 0, _ => none
  | n + 1, i => if P i then some i else ff P n (i + 1)
theorem ff_congr {P Q : Nat → Bool} : ∀ (n i : Nat), (∀ k, i ≤ k → k < i + n → P k = Q k) → ff P n i = ff Q n i := by
  intro n
  induction n with
  | zero => intro i _; rfl
  | succ n ih =>
    intro i h
    rw [ff, ff, h i (Nat.le_refl _) (by omega), ih (i + 1) (fun k a b => h k (by omega) (by omega))]
theorem ff_some {P : Nat → Bool} {k : Nat} : ∀ (n i : Nat), ff P n i = some k → i ≤ k ∧ k < i + n ∧ P k = true ∧ ∀ j, i ≤ j → j < k → P j = false := by
  intro n
  induction n with
  | zero => intro i h; cases h
  | succ n ih =>
    intro i h
    rw [ff] at h
    by_cases c : P i = true
    · rw [if_pos c] at h; cases h; exact ⟨Nat.le_refl _, by omega, c, fun j a b => by omega⟩
    · rw [if_neg c] at h
      obtain ⟨a, b, d, e⟩ := ih (i + 1) h
      refine ⟨by omega, by omega, d, fun j a1 b1 => ?_⟩
      by_cases q : j = i
      · subst q; exact Bool.eq_false_iff.mpr c
      · exact e j (by omega) b1
theorem ff_none {P : Nat → Bool} : ∀ (n i : Nat), ff P n i = none ↔ ∀ k, i ≤ k → k < i + n → P k = false := by
  intro n
  induction n with
  | zero => intro i; exact ⟨fun _ k a b => by omega, fun _ => rfl⟩
  | succ n ih =>
    intro i
    rw [ff]
    by_cases c : P i = true
    · rw [if_pos c]
      refine Iff.intro (fun h => nomatch h) (fun h => ?_)
      have := h i (Nat.le_refl _) (by omega)
      rw [this] at c; cases c
    · rw [if_neg c, ih]
      constructor
      · intro h k a b
        by_cases q : k = i
        · subst q; exact Bool.eq_false_iff.mpr c
        · exact h k (by omega) (by omega)
      · intro h k a b; exact h k (by omega) (by omega)
def oI (x : Option Nat) : Int32 := match x with
  | none => -1
  | some k => nI k
theorem nI_lt' {a b : Nat} (h : a < b) (hb : b < 2 ^ 31) : ¬ nI b ≤ nI a := fun c => by
  have := nI_le' c (by omega) (by omega)
  omega
theorem low_h {x : Int32} : ∀ (n i : Nat), i + n = 12 → M_lowest_h2 (n + 1) i x = oI (ff (bt x) n i) := by
  intro n
  induction n with
  | zero => intro i h; rw [M_lowest_h2, if_pos (by rw [show i = 12 by omega]; decide)]; rfl
  | succ n ih =>
    intro i h
    rw [M_lowest_h2, if_neg (show ¬ (12 : Int32) ≤ nI i from nI_lt' (b := 12) (by omega) (by decide)), ff, has_bt x (by omega)]
    cases bt x i
    · exact ih (i + 1) (by omega)
    · rfl
theorem low_ff (x : Int32) : M_lowest x = oI (ff (bt x) 12 0) := low_h 12 0 rfl
theorem oI_ne {x : Option Nat} (h : ∀ k, x = some k → k < 2 ^ 31) : oI x = -1 ↔ x = none := by
  cases x with
  | none => exact ⟨fun _ => rfl, fun _ => rfl⟩
  | some k =>
    refine ⟨fun e => ?_, fun e => by cases e⟩
    have h1 := congrArg Int32.toInt e
    have h2 := h k rfl
    rw [show oI (some k) = nI k from rfl, nI_toInt h2, show (-1 : Int32).toInt = -1 by decide] at h1
    omega

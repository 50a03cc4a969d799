theorem bt_xor (x y : Int64) (c : Nat) : bt (x ^^^ y) c = (bt x c ^^ bt y c) := by
  unfold bt
  rw [Int64.toBitVec_xor, BitVec.getLsbD_xor]
theorem bt_63 (x : Int64) : bt x 63 = decide (x.toInt < 0) := by
  unfold bt
  have h1 := BitVec.msb_eq_getLsbD_last x.toBitVec
  have h2 := BitVec.msb_eq_toInt (x := x.toBitVec)
  rw [show (63 : Nat) = 64 - 1 from rfl, ← h1, h2]
  rfl
theorem bm (z : Int) (h1 : -9223372036854775808 ≤ z) (h2 : z < 9223372036854775808) : z.bmod (2 ^ 64) = z := by
  rw [Int.bmod_def]
  have : ((2 ^ 64 : Nat) : Int) = 18446744073709551616 := by decide
  rw [this]
  split <;> omega
theorem bm3 (z : Int) (h1 : -18446744073709551616 ≤ z) (h2 : z < 18446744073709551616) : (z < -9223372036854775808 ∧ z.bmod (2 ^ 64) = z + 18446744073709551616) ∨ (-9223372036854775808 ≤ z ∧ z < 9223372036854775808 ∧ z.bmod (2 ^ 64) = z) ∨ (9223372036854775808 ≤ z ∧ z.bmod (2 ^ 64) = z - 18446744073709551616) := by
  rw [Int.bmod_def]
  have : ((2 ^ 64 : Nat) : Int) = 18446744073709551616 := by decide
  rw [this]
  split <;> omega
theorem rg (x : Int64) : -9223372036854775808 ≤ x.toInt ∧ x.toInt < 9223372036854775808 := ⟨Int64.le_toInt x, Int64.toInt_lt x⟩
theorem adds_eq (x a : Int64) : f_X9_addsUp x a = some (decide (0 ≤ ((x ^^^ (x + a)) &&& (a ^^^ (x + a))))) := by
  have e : decide (0 ≤ ((x ^^^ (x + a)) &&& (a ^^^ (x + a)))) = !((decide (x.toInt < 0) ^^ decide ((x + a).toInt < 0)) && (decide (a.toInt < 0) ^^ decide ((x + a).toInt < 0))) := by
    rw [← bt_63, ← bt_63, ← bt_63, ← bt_xor, ← bt_xor, ← bt_and, bt_63]
    generalize ((x ^^^ (x + a)) &&& (a ^^^ (x + a))) = y
    have h : (0 : Int64) ≤ y ↔ ¬ y.toInt < 0 := by
      rw [Int64.le_iff_toInt_le, show (0 : Int64).toInt = 0 from rfl]
      omega
    by_cases z : y.toInt < 0
    · have : ¬ (0 : Int64) ≤ y := fun w => h.mp w z
      simp [z, this]
    · have : (0 : Int64) ≤ y := h.mpr z
      simp [z, this]
  rw [e]
  have hv : (x + a).toInt = (x.toInt + a.toInt).bmod (2 ^ 64) := Int64.toInt_add x a
  obtain ⟨x1, x2⟩ := rg x
  obtain ⟨a1, a2⟩ := rg a
  unfold f_X9_addsUp
  have ha : a < 0 ↔ a.toInt < 0 := by rw [Int64.lt_iff_toInt_lt]; rfl
  have hm := bm3 (x.toInt + a.toInt) (by omega) (by omega)
  rw [← hv] at hm
  generalize hV : (x + a).toInt = V at *
  by_cases h : a < 0
  · rw [if_pos h]
    have h' := ha.mp h
    have hs : ((-9223372036854775808 : Int64) - a).toInt = -9223372036854775808 - a.toInt := by
      rw [Int64.toInt_sub, show (-9223372036854775808 : Int64).toInt = -9223372036854775808 from by decide +kernel, bm _ (by omega) (by omega)]
    have hl : x < (-9223372036854775808 : Int64) - a ↔ x.toInt < -9223372036854775808 - a.toInt := by rw [Int64.lt_iff_toInt_lt, hs]
    by_cases z : x < (-9223372036854775808 : Int64) - a
    · rw [if_pos z]
      have z := hl.mp z
      refine congrArg some ?_
      have q1 : x.toInt < 0 := by omega
      have q2 : ¬ V < 0 := by omega
      simp [h', q1, q2]
    · rw [if_neg z]
      have z : ¬ x.toInt < _ := fun w => z (hl.mpr w)
      refine congrArg some ?_
      have q2 : V < 0 ∨ ¬ x.toInt < 0 := by omega
      by_cases q3 : V < 0
      · simp [h', q3]
      · have : ¬ x.toInt < 0 := by omega
        simp [h', q3, this]
  · rw [if_neg h]
    have h' : ¬ a.toInt < 0 := fun w => h (ha.mpr w)
    have hs : ((9223372036854775807 : Int64) - a).toInt = 9223372036854775807 - a.toInt := by
      rw [Int64.toInt_sub, show (9223372036854775807 : Int64).toInt = 9223372036854775807 from by decide +kernel, bm _ (by omega) (by omega)]
    have hl : (9223372036854775807 : Int64) - a < x ↔ 9223372036854775807 - a.toInt < x.toInt := by rw [Int64.lt_iff_toInt_lt, hs]
    by_cases z : (9223372036854775807 : Int64) - a < x
    · rw [if_pos z]
      have z := hl.mp z
      refine congrArg some ?_
      have q1 : ¬ x.toInt < 0 := by omega
      have q2 : V < 0 := by omega
      simp [h', q1, q2]
    · rw [if_neg z]
      have z : ¬ _ < x.toInt := fun w => z (hl.mpr w)
      refine congrArg some ?_
      by_cases q3 : V < 0
      · have : x.toInt < 0 := by omega
        simp [h', q3, this]
      · simp [h', q3]
theorem div1 {x : Int64} (h : ¬ x = -9223372036854775808) : (x * (-1)) / (-1) = x := by
  obtain ⟨x1, x2⟩ := rg x
  have h' : x.toInt ≠ -9223372036854775808 := by
    intro z
    apply h
    rw [← Int64.toInt_inj, z]
    decide +kernel
  rw [← Int64.toInt_inj, Int64.toInt_div, Int64.toInt_mul, show (-1 : Int64).toInt = -1 from by decide +kernel, bm (x.toInt * -1) (by omega) (by omega)]
  rw [show (x.toInt * -1).tdiv (-1) = x.toInt by rw [Int.tdiv_neg, Int.tdiv_one]; omega]
  exact bm _ x1 x2
def mulOk (x : Int64) (a : Int32) : Bool := (f_X9_timesUp x (Int32.toInt64 a)).getD false
theorem t64_0 {a : Int32} : Int32.toInt64 a = 0 ↔ a = 0 := by rw [show (0 : Int64) = Int32.toInt64 0 from rfl, t64_eq]
theorem t64_1 {a : Int32} : Int32.toInt64 a = -1 ↔ a = -1 := by rw [show (-1 : Int64) = Int32.toInt64 (-1) from rfl, t64_eq]
theorem t64_m (a : Int32) : ¬ Int32.toInt64 a = -9223372036854775808 := by
  intro z
  have := congrArg Int64.toInt z
  rw [Int32.toInt_toInt64, show (-9223372036854775808 : Int64).toInt = -9223372036854775808 from by decide +kernel] at this
  have := Int32.le_toInt a
  omega
theorem mul_eq (q : Nat) (M : Mem) (a : Int32) : ∃ b, f_X9_timesUp (gL M q 6) (Int32.toInt64 a) = some b ∧ f_X0_multiply q M a = if b = true then some (0, sL M q 6 (gL M q 6 * Int32.toInt64 a)) else some (5, M) := by
  unfold f_X9_timesUp f_X0_multiply f_X0_multiply_31 f_X0_multiply_49 f_X9_timesUp_30 f_X9_timesUp_48
  simp only [lt_v]
  generalize gL M q 6 = x
  by_cases h0 : a = 0
  · subst h0
    refine ⟨true, ?_, ?_⟩
    · by_cases hx : x = 0
      · rw [if_pos hx]
      · rw [if_neg hx, if_pos (show Int32.toInt64 0 = 0 from rfl)]
    · rw [if_pos rfl, if_neg (by decide), if_pos rfl]
  · have h0' : ¬ Int32.toInt64 a = 0 := fun z => h0 (t64_0.mp z)
    have hg : (Int32.toInt64 a != 0) = true := by simp [h0']
    have hm := t64_m a
    simp only [hg, gd_t, if_neg hm, if_neg h0, if_neg h0']
    by_cases h1 : a = -1
    · subst h1
      simp only [if_true, if_pos (show Int32.toInt64 (-1) = -1 from rfl)]
      by_cases hx : x = -9223372036854775808
      · simp only [if_pos hx]
        refine ⟨false, ?_, ?_⟩
        · rw [if_neg (by rw [hx]; decide)]
        · rw [if_neg (by decide)]
      · simp only [if_neg hx]
        refine ⟨true, ?_, ?_⟩
        · rw [show Int32.toInt64 (-1) = -1 from rfl, div1 hx, if_pos rfl, ite_self]
        · rw [if_pos rfl]
    · have h1' : ¬ Int32.toInt64 a = -1 := fun z => h1 (t64_1.mp z)
      simp only [if_neg h1, if_neg h1', ite_self]
      by_cases hx0 : x = 0
      · subst hx0
        simp only [if_true, Int64.zero_mul, Int64.zero_div]
        exact ⟨true, rfl, by rw [if_pos rfl]⟩
      · simp only [if_neg hx0]
        by_cases hd : x * Int32.toInt64 a / Int32.toInt64 a = x
        · simp only [if_pos hd]
          exact ⟨true, rfl, by rw [if_pos rfl]⟩
        · simp only [if_neg hd]
          exact ⟨false, rfl, by rw [if_neg (by decide)]⟩
theorem cellL (x : Int64) : (f_X8_isCell x = some false ∧ f_X9_isCell x = some false) ∨ ∃ c, c < 40 ∧ x.toInt32 = nI c ∧ f_X8_isCell x = some true ∧ f_X9_isCell x = some true := by
  unfold f_X8_isCell f_X9_isCell f_X9_in
  have h0 : x < 0 ↔ x.toInt < 0 := by rw [Int64.lt_iff_toInt_lt]; rfl
  have h1 : 40 ≤ x ↔ 40 ≤ x.toInt := by rw [Int64.le_iff_toInt_le]; rfl
  have h2 : 39 < x ↔ 39 < x.toInt := by rw [Int64.lt_iff_toInt_lt]; rfl
  by_cases z : x < 0
  · left
    rw [if_pos z, if_pos z]
    exact ⟨rfl, rfl⟩
  · rw [if_neg z, if_neg z]
    by_cases y : 40 ≤ x
    · left
      rw [if_pos y, if_pos (h2.mpr (by have := h1.mp y; omega))]
      exact ⟨rfl, rfl⟩
    · right
      have y' : ¬ 39 < x := fun w => y (h1.mpr (by have := h2.mp w; omega))
      rw [if_neg y, if_neg y']
      have p1 : 0 ≤ x.toInt := by
        have : ¬ x.toInt < 0 := fun w => z (h0.mpr w)
        omega
      have p2 : x.toInt < 40 := by
        have : ¬ 40 ≤ x.toInt := fun w => y (h1.mpr w)
        omega
      refine ⟨x.toInt.toNat, by omega, ?_, rfl, rfl⟩
      rw [← Int32.toInt_inj, Int64.toInt_toInt32, nI_toInt (by omega)]
      rw [Int.bmod_def]
      have : ((2 ^ 32 : Nat) : Int) = 4294967296 := by decide
      rw [this]
      split <;> omega

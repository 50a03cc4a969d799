/-! PURE: the relation between the system's part of the store and the reference's -/
theorem t64_lt {a b : Int32} : Int32.toInt64 a < Int32.toInt64 b ↔ a < b := by
  rw [Int64.lt_iff_toInt_lt, Int32.lt_iff_toInt_lt, Int32.toInt_toInt64, Int32.toInt_toInt64]
theorem t64_le {a b : Int32} : Int32.toInt64 a ≤ Int32.toInt64 b ↔ a ≤ b := by
  rw [Int64.le_iff_toInt_le, Int32.le_iff_toInt_le, Int32.toInt_toInt64, Int32.toInt_toInt64]
theorem t64_eq {a b : Int32} : Int32.toInt64 a = Int32.toInt64 b ↔ a = b := by
  rw [← Int64.toInt_inj, ← Int32.toInt_inj, Int32.toInt_toInt64, Int32.toInt_toInt64]
/-- an int, held against a row of n places -/
theorem ix3 (a : Int32) {n : Nat} (hn : n < 2 ^ 31) : (inR a n = false ∧ (a < 0 ∨ (¬ a < 0 ∧ nI n ≤ a))) ∨ ∃ j, j < n ∧ a = nI j ∧ inR a n = true := by
  rcases pk_ix a hn with h | h | ⟨j, hj, rfl⟩
  · left
    refine ⟨?_, Or.inl h⟩
    unfold inR
    simp [h]
  · left
    have h0 : ¬ a < 0 := by
      intro z
      rw [Int32.lt_iff_toInt_lt] at z
      rw [Int32.le_iff_toInt_le, nI_toInt hn] at h
      have : (0 : Int32).toInt = 0 := rfl
      omega
    refine ⟨?_, Or.inr ⟨h0, h⟩⟩
    obtain ⟨k, hk, rfl⟩ := nI_of h0
    unfold inR
    rw [nI_clamp hk]
    have : n ≤ k := (nI_leI hn hk).mp h
    simp [this]
  · right
    exact ⟨j, hj, rfl, inR_nI hj hn⟩
theorem bI_t : bI true = 1 := rfl
theorem bI_f : bI false = 0 := rfl
theorem bI_0 {b : Bool} : bI b = 0 ↔ b = false := by cases b <;> decide
theorem gd_t {α : Type} {x : Option α} : gd true x = x := rfl
theorem lt_v {α β : Type} {a : α} {k : α → Option β} : lt a k = k a := rfl
theorem sb_v {α β : Type} {a : α} {k : α → Option β} : Option.bind (some a) k = k a := rfl
theorem in9 (a lo hi : Int32) : f_X9_in (Int32.toInt64 a) (Int32.toInt64 lo) (Int32.toInt64 hi) = some (decide (lo ≤ a ∧ a ≤ hi)) := by
  unfold f_X9_in
  simp only [t64_lt]
  by_cases h1 : a < lo
  · rw [if_pos h1]
    have : ¬ lo ≤ a := Int32.not_le.mpr h1
    simp [this]
  · rw [if_neg h1]
    have h1 : lo ≤ a := Int32.not_lt.mp h1
    by_cases h2 : hi < a
    · rw [if_pos h2]
      have : ¬ a ≤ hi := Int32.not_le.mpr h2
      simp [this]
    · rw [if_neg h2]
      have h2 : a ≤ hi := Int32.not_lt.mp h2
      simp [h1, h2]
theorem inR_dec {a hi : Int32} {n : Nat} (hn : n < 2 ^ 31) (hh : hi.toInt = (n : Int) - 1) : decide (0 ≤ a ∧ a ≤ hi) = inR a n := by
  rcases ix3 a hn with ⟨h, h1 | ⟨h1, h2⟩⟩ | ⟨j, hj, rfl, h⟩
  · rw [h]
    have : ¬ 0 ≤ a := Int32.not_le.mpr h1
    simp [this]
  · rw [h]
    have : ¬ a ≤ hi := by
      rw [Int32.le_iff_toInt_le] at h2 ⊢
      rw [nI_toInt hn] at h2
      omega
    simp [this]
  · rw [h]
    have h1 : 0 ≤ nI j := nI_pos' (by omega)
    have h2 : nI j ≤ hi := by
      rw [Int32.le_iff_toInt_le, nI_toInt (by omega)]
      omega
    simp [h1, h2]
theorem in9_R (a : Int32) {hi : Int32} {n : Nat} (hn : n < 2 ^ 31) (hh : hi.toInt = (n : Int) - 1) : f_X9_in (Int32.toInt64 a) 0 (Int32.toInt64 hi) = some (inR a n) := by
  rw [show (0 : Int64) = Int32.toInt64 0 from rfl, in9, inR_dec hn hh]
theorem in9_39 (a : Int32) : f_X9_in (Int32.toInt64 a) 0 39 = some (inR a 40) := in9_R a (hi := 39) (by decide) (by decide)
theorem in9_15 (a : Int32) : f_X9_in (Int32.toInt64 a) 0 15 = some (inR a 16) := in9_R a (hi := 15) (by decide) (by decide)
theorem in9_11 (a : Int32) : f_X9_in (Int32.toInt64 a) 0 11 = some (inR a 12) := in9_R a (hi := 11) (by decide) (by decide)
theorem in9_10 (a : Int32) : f_X9_in (Int32.toInt64 a) 0 10 = some (inR a 11) := in9_R a (hi := 10) (by decide) (by decide)
theorem in9_7 (a : Int32) : f_X9_in (Int32.toInt64 a) 0 7 = some (inR a 8) := in9_R a (hi := 7) (by decide) (by decide)
theorem in9_3 (a : Int32) : f_X9_in (Int32.toInt64 a) 0 3 = some (inR a 4) := in9_R a (hi := 3) (by decide) (by decide)
theorem in9_1 (a : Int32) : f_X9_in (Int32.toInt64 a) 0 1 = some (inR a 2) := in9_R a (hi := 1) (by decide) (by decide)
theorem in9_24 (a : Int32) : f_X9_in (Int32.toInt64 a) 0 24 = some (inR a 25) := in9_R a (hi := 24) (by decide) (by decide)
theorem in9_g (a : Int32) : f_X9_in (Int32.toInt64 a) 0 1000000000 = some (inR a 1000000001) := in9_R a (hi := 1000000000) (by decide) (by decide)
theorem in9_n (a : Int32) {n : Nat} (hn : n ≤ 1000) : f_X9_in (Int32.toInt64 a) 0 (Int32.toInt64 (nI n - 1)) = some (inR a n) := by
  refine in9_R a (by omega) ?_
  have := pk_sub_toInt (a := n) (b := 1) (by omega) (by omega)
  exact this
theorem cell9 (a : Int32) : f_X9_isCell (Int32.toInt64 a) = some (inR a 40) := by
  unfold f_X9_isCell
  rw [in9_39]
  rfl
theorem trade9 (a : Int32) : f_X9_isTrade a = some (inR a 16) := by
  unfold f_X9_isTrade
  rw [in9_15]
  rfl
/-- a test 0 <= a < n as the class writes it -/
theorem tst8 (a : Int32) {n : Nat} (hn : n < 2 ^ 31) : (if a < 0 then some false else (if nI n ≤ a then some false else some true)) = some (inR a n) := by
  rcases ix3 a hn with ⟨h, h1 | ⟨h1, h2⟩⟩ | ⟨j, hj, rfl, h⟩
  · rw [h, if_pos h1]
  · rw [h, if_neg h1, if_pos h2]
  · rw [h, if_neg (nI_pos (by omega)), if_neg (nI_ge hj hn)]
theorem trade8 (a : Int32) : f_X8_isTrade a = some (inR a 16) := tst8 a (n := 16) (by decide)
theorem kind8 (a : Int32) : f_X8_isKind a = some (inR a 8) := tst8 a (n := 8) (by decide)
theorem grow8 (a : Int32) : f_X8_isGrower a = some (inR a 8) := tst8 a (n := 8) (by decide)
theorem cell8 (a : Int32) : f_X8_isCell (Int32.toInt64 a) = some (inR a 40) := by
  rw [← tst8 a (n := 40) (by decide)]
  unfold f_X8_isCell
  rw [show (0 : Int64) = Int32.toInt64 0 from rfl, show (40 : Int64) = Int32.toInt64 40 from rfl]
  simp only [t64_lt, t64_le]
  rfl
/-! reads behind writes -/
theorem gI_s {M : Mem} {q i : Nat} {v : Int32} : gI (sI M q i v) q i = v := by simp [gI, sI, up2]
theorem gI_i {M : Mem} {q i i' : Nat} {v : Int32} (h : i' ≠ i) : gI (sI M q i v) q i' = gI M q i' := by simp [gI, sI, up2, h]
theorem gI_q {M : Mem} {q q' i i' : Nat} {v : Int32} (h : q' ≠ q) : gI (sI M q i v) q' i' = gI M q' i' := by simp [gI, sI, up2, h]
theorem gI_x {M : Mem} {q i i' : Nat} {v : Int32} : gI (sI M q i v) q i' = if i' = i then v else gI M q i' := by simp [gI, sI, up2]
theorem gL_s {M : Mem} {q i : Nat} {v : Int64} : gL (sL M q i v) q i = v := by simp [gL, sL, up2]
theorem gL_i {M : Mem} {q i i' : Nat} {v : Int64} (h : i' ≠ i) : gL (sL M q i v) q i' = gL M q i' := by simp [gL, sL, up2, h]
theorem gL_q {M : Mem} {q q' i i' : Nat} {v : Int64} (h : q' ≠ q) : gL (sL M q i v) q' i' = gL M q' i' := by simp [gL, sL, up2, h]
theorem gL_x {M : Mem} {q i i' : Nat} {v : Int64} : gL (sL M q i v) q i' = if i' = i then v else gL M q i' := by simp [gL, sL, up2]
theorem gB_s {M : Mem} {q i : Nat} {v : Bool} : gB (sB M q i v) q i = v := by simp [gB, sB, up2]
theorem gB_i {M : Mem} {q i i' : Nat} {v : Bool} (h : i' ≠ i) : gB (sB M q i v) q i' = gB M q i' := by simp [gB, sB, up2, h]
theorem gB_q {M : Mem} {q q' i i' : Nat} {v : Bool} (h : q' ≠ q) : gB (sB M q i v) q' i' = gB M q' i' := by simp [gB, sB, up2, h]
theorem gB_x {M : Mem} {q i i' : Nat} {v : Bool} : gB (sB M q i v) q i' = if i' = i then v else gB M q i' := by simp [gB, sB, up2]
theorem gI_sL {M : Mem} {q i q' i' : Nat} {v : Int64} : gI (sL M q i v) q' i' = gI M q' i' := rfl
theorem gI_sB {M : Mem} {q i q' i' : Nat} {v : Bool} : gI (sB M q i v) q' i' = gI M q' i' := rfl
theorem gL_sI {M : Mem} {q i q' i' : Nat} {v : Int32} : gL (sI M q i v) q' i' = gL M q' i' := rfl
theorem gL_sB {M : Mem} {q i q' i' : Nat} {v : Bool} : gL (sB M q i v) q' i' = gL M q' i' := rfl
theorem gB_sI {M : Mem} {q i q' i' : Nat} {v : Int32} : gB (sI M q i v) q' i' = gB M q' i' := rfl
theorem gB_sL {M : Mem} {q i q' i' : Nat} {v : Int64} : gB (sL M q i v) q' i' = gB M q' i' := rfl
/-! the relation -/
def RCells (M : Mem) : Prop := ∀ c, c < 40 → gI M 3 c = gI M 120 c ∧ gL M 4 c = gL M 121 c ∧ (gI M 3 c = 0 ∨ gI M 3 c = 1 ∨ gI M 3 c = 2) ∧ (gI M 3 c = 0 → gL M 4 c = 0) ∧ (gI M 3 c = 2 → gI M 5 c = gI M 122 c ∧ gI M 6 c = gI M 123 c) ∧ (gI M 3 c ≠ 2 → gI M 5 c = -1 ∧ gI M 6 c = -1)
def RVers (M : Mem) : Prop := ∀ c, c < 40 → gI M 7 c = gI M 124 c ∧ gI M 8 c = gI M 125 c
def RHist (e : Nat) (M : Mem) : Prop := ∀ c, c < 40 → ∃ n, n ≤ e ∧ gI M 126 c = nI n ∧ gI M 10 c = nI (min n 12) ∧ ∀ i, i < n → i < 12 → gI M 9 (12 * c + i) = gI M 127 (12 * c + i)
def okS (op a b : Int32) : Prop := f_X9_isStep op a b = some true
def RTrd (M : Mem) : Prop := (∀ t, t < 16 → ∃ n k, n ≤ 24 ∧ gI M 12 t = nI n ∧ gI M 128 t = nI n ∧ k ≤ 10 ∧ gI M 13 t = nI k ∧ gI M 132 t = nI k ∧ ∀ i, i < n → okS (gI M 129 (24 * t + i)) (gI M 130 (24 * t + i)) (gI M 131 (24 * t + i))) ∧ ∀ i, i < 384 → gI M 14 i = gI M 129 i ∧ gI M 15 i = gI M 130 i ∧ gI M 16 i = gI M 131 i
def okR (k a b : Int32) : Prop := (k = 0 ∧ inR a 40 = true) ∨ (k = 1 ∧ inR a 40 = true ∧ inR b 40 = true) ∨ (k = 2 ∧ inR a 8 = true) ∨ (k = 3 ∧ inR a 8 = true)
def RRul (M : Mem) : Prop := ∃ n, n ≤ 10 ∧ gI M 17 4 = nI n ∧ gI M 119 13 = nI n ∧ ∀ i, i < n → okR (gI M 133 i) (gI M 134 i) (gI M 135 i) ∧ gI M 18 i = gI M 133 i ∧ gI M 19 i = gI M 134 i ∧ gI M 20 i = gI M 135 i ∧ gL M 21 i = gL M 136 i
def RNot (e : Nat) (M : Mem) : Prop := ∃ n, n ≤ 40 * e ∧ gI M 22 3 = nI n ∧ gI M 119 42 = nI n ∧ ∀ i, i < 40 → i < n → gI M 23 i = gI M 156 i ∧ gI M 24 i = gI M 157 i ∧ gL M 25 i = gL M 158 i
/-- a ticket's try that counted -/
def RTry (M : Mem) (t : Nat) : Prop := gI M (189 + 4 * t) 9 = bI (gB M 148 t) ∧
  (gB M 148 t = true → gI M (189 + 4 * t) 10 = gI M 149 t ∧ gI M (189 + 4 * t) 12 = gI M 150 t ∧ (∃ w, w ≤ 6 ∧ gI M (189 + 4 * t) 13 = nI w ∧ gI M 152 t = nI w ∧ ∀ i, i < w → gI M (189 + 4 * t + 1) i = gI M 153 (6 * t + i) ∧ gI M (189 + 4 * t + 2) i = gI M 154 (6 * t + i)) ∧ ∀ c, (gL M (189 + 4 * t) 11).toBitVec.getLsbD c = (decide (c < 40) && gB M 151 (40 * t + c))) ∧
  (gB M 148 t = false → gL M (189 + 4 * t) 11 = 0 ∧ gI M (189 + 4 * t) 13 = 0)
def RT1 (M : Mem) (t : Nat) : Prop := (∃ k, k < 16 ∧ gI M (189 + 4 * t) 0 = nI k ∧ gI M 137 t = nI k) ∧ (∃ k, k < 6 ∧ gI M (189 + 4 * t) 1 = nI k ∧ gI M 138 t = nI k) ∧
  gI M (189 + 4 * t) 2 = gI M 139 t ∧ gI M (189 + 4 * t) 3 = gI M 140 t ∧ gI M (189 + 4 * t) 4 = gI M 141 t ∧ gI M (189 + 4 * t) 5 = gI M 142 t ∧ gI M (189 + 4 * t) 6 = gI M 143 t ∧ gI M (189 + 4 * t) 7 = gI M 144 t ∧ gI M (189 + 4 * t) 8 = gI M 145 t ∧
  RTry M t ∧ (gI M 138 t = 3 → gB M 148 t = true) ∧
  (gI M 138 t = 1 → ∃ n, n ≤ 40 ∧ gI M (189 + 4 * t) 16 = nI (min n 8) ∧ gI M 147 t = nI n ∧ ∀ i, i < n → i < 8 → gL M (189 + 4 * t + 3) i = gL M 146 (8 * t + i)) ∧ (¬ gI M 138 t = 4 → gI M 143 t = -1)
def RTk (nT : Nat) (M : Mem) : Prop := nT ≤ 20 ∧ gI M 0 8 = nI nT ∧ gI M 119 18 = nI nT ∧ (∀ t, t < nT → RT1 M t) ∧ ∀ t, nT ≤ t → t < 20 → gI M 139 t = 0 ∧ gI M 140 t = 0 ∧ gI M 141 t = 0 ∧ gI M 142 t = 0 ∧ gB M 148 t = false
/-- how many tickets below n are DONE -/
def cntD (M : Mem) : Nat → Nat
  | 0 => 0
  | n + 1 => cntD M n + if gI M 138 n = 1 then 1 else 0
def RMis (nT e : Nat) (M : Mem) : Prop := gI M 0 9 = nI e ∧ gI M 119 38 = nI e ∧ e = cntD M nT ∧ (∀ i, i < e → gI M 118 i = gI M 155 i) ∧ gI M 0 10 = gI M 119 40 ∧ gI M 0 11 = gI M 119 41 ∧ ∃ w, 1 ≤ w ∧ w ≤ 4 ∧ gI M 0 12 = nI w ∧ gI M 119 37 = nI w
def Rel (nT : Nat) (M : Mem) : Prop := ∃ e, RCells M ∧ RVers M ∧ RHist e M ∧ RTrd M ∧ RRul M ∧ RNot e M ∧ RTk nT M ∧ RMis nT e M
theorem cntD_le (M : Mem) : ∀ n, cntD M n ≤ n
  | 0 => Nat.le_refl 0
  | n + 1 => by
    have := cntD_le M n
    unfold cntD
    split <;> omega
theorem Rel.e20 {nT e : Nat} {M : Mem} (h : RTk nT M) (h2 : RMis nT e M) : e ≤ 20 := by
  have := cntD_le M nT
  rw [h2.2.2.1]
  have := h.1
  omega
/-! the first store -/
theorem rel_0 : Rel 0 M0 := by
  refine ⟨0, ?_, ?_, ?_, ⟨?_, ?_⟩, ?_, ?_, ⟨by decide, rfl, rfl, fun t h => absurd h (by omega), fun t _ _ => ⟨rfl, rfl, rfl, rfl, rfl⟩⟩, rfl, rfl, rfl, fun i h => absurd h (by omega), rfl, rfl, 1, by decide, by decide, rfl, rfl⟩
  · intro c hc
    have e5 : gI M0 5 c = -1 := by show cF 40 c = -1; unfold cF; rw [if_pos hc]
    have e6 : gI M0 6 c = -1 := by show cF 40 c = -1; unfold cF; rw [if_pos hc]
    exact ⟨rfl, rfl, Or.inl rfl, fun _ => rfl, fun z => absurd z (by show ¬ (0 : Int32) = 2; decide), fun _ => ⟨e5, e6⟩⟩
  · intro c hc
    exact ⟨rfl, rfl⟩
  · intro c hc
    exact ⟨0, Nat.le_refl 0, rfl, rfl, fun i h => absurd h (by omega)⟩
  · intro t ht
    exact ⟨0, 0, by decide, rfl, rfl, by decide, rfl, rfl, fun i h => absurd h (by omega)⟩
  · intro i hi
    exact ⟨rfl, rfl, rfl⟩
  · exact ⟨0, by decide, rfl, rfl, fun i h => absurd h (by omega)⟩
  · exact ⟨0, by decide, rfl, rfl, fun i _ h => absurd h (by omega)⟩

theorem ite_s {α : Type} {c : Prop} {d : Decidable c} {a b : α} : (@ite _ c d (some a) (some b)) = some (@ite _ c d a b) := by split <;> rfl
theorem i10 : ((1 : Int32) = 0) = False := eq_false (by decide)
theorem tle {α : Type} (a : Int32) {hi : Int32} {n : Nat} (hn : n < 2 ^ 31) (hh : hi.toInt = (n : Int) - 1) (A B : α) : (if a < 0 then A else (if a ≤ hi then B else A)) = if bI (inR a n) = 0 then A else B := by
  rcases ix3 a hn with ⟨h, h1 | ⟨h1, h2⟩⟩ | ⟨j, hj, rfl, h⟩
  · rw [h, if_pos h1, if_pos bI_f]
  · have h3 : ¬ a ≤ hi := by
      rw [Int32.le_iff_toInt_le] at h2 ⊢
      rw [nI_toInt hn] at h2
      omega
    rw [h, if_neg h1, if_neg h3, if_pos bI_f]
  · have h3 : nI j ≤ hi := by
      rw [Int32.le_iff_toInt_le, nI_toInt (by omega)]
      omega
    rw [h, if_neg (nI_pos (by omega)), if_pos h3, if_neg (by decide)]
theorem tge {α : Type} (a : Int32) {n : Nat} (hn : n < 2 ^ 31) (A B : α) : (if a < 0 then A else (if nI n ≤ a then A else B)) = if bI (inR a n) = 0 then A else B := by
  rcases ix3 a hn with ⟨h, h1 | ⟨h1, h2⟩⟩ | ⟨j, hj, rfl, h⟩
  · rw [h, if_pos h1, if_pos bI_f]
  · rw [h, if_neg h1, if_pos h2, if_pos bI_f]
  · rw [h, if_neg (nI_pos (by omega)), if_neg (nI_ge hj hn), if_neg (by decide)]
theorem tlt {α : Type} (a : Int32) {n : Nat} (hn : n < 2 ^ 31) (A B : α) : (if a < 0 then A else (if a < nI n then B else A)) = if bI (inR a n) = 0 then A else B := by
  rw [← tge a hn]
  by_cases h : a < 0
  · rw [if_pos h, if_pos h]
  · rw [if_neg h, if_neg h]
    by_cases h2 : a < nI n
    · rw [if_pos h2, if_neg (Int32.not_le.mpr h2)]
    · rw [if_neg h2, if_pos (Int32.not_lt.mp h2)]
theorem mx {K : Int32} (k c i : Nat) (h : K = nI k) : K * nI c + nI i = nI (k * c + i) := by subst h; rw [pk_mul, nI_add]
theorem mx2 {K : Int32} (k c i : Nat) (h : K = nI k) : nI c * K + nI i = nI (k * c + i) := by subst h; rw [pk_mul, nI_add, Nat.mul_comm]
theorem tick8 {nT : Nat} {M : Mem} (h : gI M 0 8 = nI nT) (hn : nT ≤ 20) (a : Int32) : f_X8_isTicket M a = some (inR a nT) := by
  unfold f_X8_isTicket
  rw [h]
  exact tst8 a (by omega)
theorem tick9 {nT : Nat} {M : Mem} (h : gI M 119 18 = nI nT) (hn : nT ≤ 20) (a : Int32) : f_X9_isTicket M a = some (inR a nT) := by
  unfold f_X9_isTicket
  rw [h, in9_n a (by omega)]
  rfl
theorem s_holds : S_holds Rel := by
  intro nT M a hR
  obtain ⟨e, hC, -⟩ := hR
  unfold f_X8_holds f_X9_holds
  rw [cell8, cell9]
  rcases ix3 a (n := 40) (by decide) with ⟨h, -⟩ | ⟨c, hc, rfl, h⟩
  · simp only [h, sb_v, bI_f, if_true]
    exact ⟨_, rfl, rfl⟩
  · simp only [h, sb_v, bI_t, i10, if_false, gd_t, nI_clamp (show c < 2 ^ 31 by omega)]
    exact ⟨_, rfl, by rw [(hC c hc).1]⟩
theorem s_value : S_value Rel := by
  intro nT M a hR
  obtain ⟨e, hC, -⟩ := hR
  unfold f_X8_value f_X9_value
  rw [cell8, cell9]
  rcases ix3 a (n := 40) (by decide) with ⟨h, -⟩ | ⟨c, hc, rfl, h⟩
  · simp only [h, sb_v, bI_f, if_true]
    exact ⟨_, rfl, rfl⟩
  · simp only [h, sb_v, bI_t, i10, if_false, gd_t, nI_clamp (show c < 2 ^ 31 by omega)]
    obtain ⟨h1, h2, h3, h4, -⟩ := hC c hc
    rw [← h1]
    refine ⟨_, rfl, ?_⟩
    rcases h3 with z | z | z
    · rw [z, if_pos (by decide), h4 z]
    · rw [z, if_neg (by decide), h2]
    · rw [z, if_neg (by decide), h2]
theorem s_cell : S_cell Rel := by
  intro nT M a b hR
  obtain ⟨e, hC, hV, -⟩ := hR
  unfold f_X8_cell f_X9_cell
  rw [cell8, cell9]
  rcases ix3 a (n := 40) (by decide) with ⟨h, -⟩ | ⟨c, hc, rfl, h⟩
  · simp only [h, sb_v, bI_f, if_true]
    exact ⟨_, rfl, rfl⟩
  · simp only [h, sb_v, bI_t, i10, if_false, gd_t, nI_clamp (show c < 2 ^ 31 by omega)]
    obtain ⟨h1, h2, h3, h4, h5, h6⟩ := hC c hc
    obtain ⟨v1, v2⟩ := hV c hc
    rw [← h1]
    by_cases b0 : b = 0
    · rw [if_pos b0, if_pos b0]; exact ⟨_, rfl, by rw [v1]⟩
    · rw [if_neg b0, if_neg b0]
      by_cases b1 : b = 1
      · rw [if_pos b1, if_pos b1]; exact ⟨_, rfl, by rw [v2]⟩
      · rw [if_neg b1, if_neg b1]
        by_cases b2 : b = 2
        · rw [if_pos b2, if_pos b2]
          refine ⟨_, rfl, ?_⟩
          by_cases z : gI M 3 c = 2
          · rw [if_pos z, (h5 z).1]
          · rw [if_neg z, (h6 z).1]
        · rw [if_neg b2, if_neg b2]
          by_cases b3 : b = 3
          · rw [if_pos b3, if_pos b3]
            refine ⟨_, rfl, ?_⟩
            by_cases z : gI M 3 c = 2
            · rw [if_pos z, (h5 z).2]
            · rw [if_neg z, (h6 z).2]
          · rw [if_neg b3, if_neg b3]
            exact ⟨_, rfl, rfl⟩
theorem s_history : S_history Rel := by
  intro nT M a b hR
  obtain ⟨e, -, -, hH, -, -, -, hT, hMi⟩ := hR
  have he := Rel.e20 hT hMi
  unfold f_X8_history f_X9_history
  rw [cell8, cell9, in9_11]
  rcases ix3 a (n := 40) (by decide) with ⟨h, -⟩ | ⟨c, hc, rfl, h⟩
  · simp only [h, sb_v, bI_f, if_true]
    exact ⟨_, rfl, rfl⟩
  · obtain ⟨n, hn, g1, g2, g3⟩ := hH c hc
    simp only [h, sb_v, bI_t, i10, if_false, gd_t, nI_clamp (show c < 2 ^ 31 by omega), g1, g2]
    unfold f_X8_history_32 f_X8_history_33
    simp only [if_true, i10, if_false]
    rw [tge b (n := min n 12) (by omega)]
    rcases ix3 b (n := min n 12) (by omega) with ⟨h1, h2⟩ | ⟨i, hi, rfl, h1⟩
    · simp only [h1, bI_f, if_true]
      refine ⟨_, rfl, ?_⟩
      rcases ix3 b (n := 12) (by decide) with ⟨h3, -⟩ | ⟨i, hi, rfl, h3⟩
      · simp only [h3, bI_f, if_true]
      · simp only [h3, bI_t, i10, if_false]
        have : n ≤ i := by
          rcases h2 with h2 | ⟨-, h2⟩
          · exact absurd h2 (nI_pos (by omega))
          · have := (nI_leI (by omega) (by omega)).mp h2
            omega
        rw [if_pos (nI_le this (by omega))]
    · have hi1 : i < 12 := by omega
      have hi2 : i < n := by omega
      simp only [h1, bI_t, i10, if_false, inR_nI hi1 (by decide), mx2 (K := 12) 12 c i rfl, mx (K := 12) 12 c i rfl, inR_nI (show 12 * c + i < 480 by omega) (by decide), gd_t, nI_clamp (show 12 * c + i < 2 ^ 31 by omega)]
      rw [if_neg (nI_ge hi2 (by omega))]
      exact ⟨_, rfl, by rw [g3 i hi2 hi1]⟩
theorem s_order : S_order Rel := by
  intro nT M a hR
  obtain ⟨e, -, -, -, -, -, -, hT, hMi⟩ := hR
  have he := Rel.e20 hT hMi
  obtain ⟨m1, m2, -, m4, -⟩ := hMi
  unfold f_X8_order f_X9_order
  rw [m1, m2, in9_n a (by omega), tge a (by omega)]
  rcases ix3 a (n := e) (by omega) with ⟨h, -⟩ | ⟨c, hc, rfl, h⟩
  · simp only [h, sb_v, bI_f, if_true]
    exact ⟨_, rfl, rfl⟩
  · simp only [h, sb_v, bI_t, i10, if_false, inR_nI (show c < 20 by omega) (by decide), gd_t, nI_clamp (show c < 2 ^ 31 by omega)]
    exact ⟨_, rfl, by rw [m4 c hc]⟩
theorem keeps8 {n : Nat} {M : Mem} (h : gI M 22 3 = nI n) (hn : n ≤ 1000) (a : Int32) : f_X3_keeps M a = some (inR a (min n 40)) := by
  unfold f_X3_keeps
  rw [h]
  rcases ix3 a (n := min n 40) (by omega) with ⟨h1, h2 | ⟨h2, h3⟩⟩ | ⟨i, hi, rfl, h1⟩
  · rw [h1, if_pos h2]
  · rw [h1, if_neg h2]
    obtain ⟨k, hk, rfl⟩ := nI_of h2
    have := (nI_leI (by omega) hk).mp h3
    by_cases z : n ≤ k
    · rw [if_pos (nI_le z hk)]
    · rw [if_neg (nI_ge (by omega) (by omega)), if_pos (show (40 : Int32) ≤ nI k from nI_le (a := 40) (by omega) hk)]
  · rw [h1, if_neg (nI_pos (by omega)), if_neg (nI_ge (by omega) (by omega)), if_neg (show ¬ (40 : Int32) ≤ nI i from nI_ge (b := 40) (by omega) (by decide))]
theorem isNote9 {n : Nat} {M : Mem} (h : gI M 119 42 = nI n) (hn : n ≤ 1000) (a : Int32) : f_X9_isNote M a = some (inR a (min n 40)) := by
  unfold f_X9_isNote
  rw [in9_39, h]
  rcases ix3 a (n := 40) (by decide) with ⟨h1, h2⟩ | ⟨i, hi, rfl, h1⟩
  · simp only [h1, sb_v, bI_f, if_true]
    rcases ix3 a (n := min n 40) (by omega) with ⟨h3, -⟩ | ⟨j, hj, rfl, h3⟩
    · rw [h3]
    · rw [inR_nI (by omega) (by decide)] at h1
      cases h1
  · simp only [h1, sb_v, bI_t, i10, if_false]
    by_cases z : n ≤ i
    · rw [if_pos (nI_le z (by omega))]
      rcases ix3 (nI i) (n := min n 40) (by omega) with ⟨h3, -⟩ | ⟨j, hj, h4, h3⟩
      · rw [h3]
      · have := (nI_eq (by omega) (by omega)).mp h4
        omega
    · rw [if_neg (nI_ge (by omega) (by omega)), inR_nI (by omega) (by omega)]
theorem s_note : S_note Rel := by
  intro nT M a b hR
  obtain ⟨e, -, -, -, -, -, hN, hT, hMi⟩ := hR
  have he := Rel.e20 hT hMi
  obtain ⟨n, hn, g1, g2, g3⟩ := hN
  unfold f_X8_note f_X9_note
  rw [keeps8 g1 (by omega), isNote9 g2 (by omega), in9_1, tle b (hi := 1) (n := 2) (by decide) (by decide)]
  rcases ix3 b (n := 2) (by decide) with ⟨h, -⟩ | ⟨j, hj, rfl, h⟩
  · simp only [h, sb_v, bI_f, if_true]
    exact ⟨_, rfl, rfl⟩
  · rcases ix3 a (n := min n 40) (by omega) with ⟨h1, -⟩ | ⟨i, hi, rfl, h1⟩
    · simp only [h, h1, sb_v, bI_t, bI_f, i10, if_false, if_true]
      exact ⟨_, rfl, rfl⟩
    · obtain ⟨z1, z2, z3⟩ := g3 i (by omega) (by omega)
      simp only [h, h1, sb_v, bI_t, i10, if_false, inR_nI (show i < 40 by omega) (by decide), gd_t, nI_clamp (show i < 2 ^ 31 by omega), z1, z2, ite_s]
      exact ⟨_, rfl, rfl⟩
theorem s_noted : S_noted Rel := by
  intro nT M a hR
  obtain ⟨e, -, -, -, -, -, hN, hT, hMi⟩ := hR
  have he := Rel.e20 hT hMi
  obtain ⟨n, hn, g1, g2, g3⟩ := hN
  unfold f_X8_noted f_X9_noted
  rw [keeps8 g1 (by omega), isNote9 g2 (by omega)]
  rcases ix3 a (n := min n 40) (by omega) with ⟨h1, -⟩ | ⟨i, hi, rfl, h1⟩
  · simp only [h1, sb_v, bI_f, if_true]
    exact ⟨_, rfl, rfl⟩
  · obtain ⟨z1, z2, z3⟩ := g3 i (by omega) (by omega)
    simp only [h1, sb_v, bI_t, i10, if_false, inR_nI (show i < 40 by omega) (by decide), gd_t, nI_clamp (show i < 2 ^ 31 by omega), z3]
    exact ⟨_, rfl, rfl⟩
theorem s_ticket : S_ticket Rel := by
  intro nT M a b hR
  obtain ⟨e, -, -, -, -, -, -, ⟨hn, t1, t2, t3, -⟩, -⟩ := hR
  unfold f_X8_ticket f_X9_ticket
  rw [tick8 t1 hn, tick9 t2 hn]
  rcases ix3 a (n := nT) (by omega) with ⟨h, -⟩ | ⟨t, ht, rfl, h⟩
  · simp only [h, sb_v, bI_f, if_true]
    exact ⟨_, rfl, rfl⟩
  · obtain ⟨⟨k0, -, a0, b0⟩, ⟨k1, -, a1, b1⟩, a2, a3, a4, a5, a6, -⟩ := t3 t ht
    simp only [h, sb_v, bI_t, i10, if_false, inR_nI (show t < 20 by omega) (by decide), gd_t, nI_clamp (show t < 2 ^ 31 by omega), ht, decide_true, a0, b0, a1, b1, a2, a3, a4, a5, a6, ite_s]
    exact ⟨_, rfl, rfl⟩
theorem s_woken : S_woken Rel := by
  intro nT M a b hR
  obtain ⟨e, -, -, -, -, -, -, ⟨hn, t1, t2, t3, -⟩, -⟩ := hR
  unfold f_X8_woken f_X9_woken
  rw [tick8 t1 hn, tick9 t2 hn, in9_1, tle b (hi := 1) (n := 2) (by decide) (by decide)]
  rcases ix3 a (n := nT) (by omega) with ⟨h, -⟩ | ⟨t, ht, rfl, h⟩
  · simp only [h, sb_v, bI_f, if_true]
    exact ⟨_, rfl, rfl⟩
  · obtain ⟨-, -, -, -, -, -, -, a7, a8, -⟩ := t3 t ht
    rcases ix3 b (n := 2) (by decide) with ⟨h1, -⟩ | ⟨j, hj, rfl, h1⟩
    · simp only [h, h1, sb_v, bI_t, bI_f, i10, if_false, if_true]
      exact ⟨_, rfl, rfl⟩
    · simp only [h, h1, sb_v, bI_t, i10, if_false, inR_nI (show t < 20 by omega) (by decide), gd_t, nI_clamp (show t < 2 ^ 31 by omega), ht, decide_true, a7, a8, ite_s]
      exact ⟨_, rfl, rfl⟩
theorem s_way : S_way Rel := by
  intro nT M a b c hR
  obtain ⟨e, -, -, -, -, -, -, ⟨hn, t1, t2, t3, -⟩, -⟩ := hR
  unfold f_X8_way f_X9_way
  rw [tick8 t1 hn, tick9 t2 hn, in9_1, tle c (hi := 1) (n := 2) (by decide) (by decide)]
  rcases ix3 a (n := nT) (by omega) with ⟨h, -⟩ | ⟨t, ht, rfl, h⟩
  · simp only [h, sb_v, bI_f, if_true]
    exact ⟨_, rfl, rfl⟩
  · obtain ⟨-, -, -, -, -, -, -, -, -, ⟨r1, r2, r3⟩, -⟩ := t3 t ht
    rcases ix3 c (n := 2) (by decide) with ⟨h1, -⟩ | ⟨j, hj, rfl, h1⟩
    · simp only [h, h1, sb_v, bI_t, bI_f, i10, if_false, if_true]
      exact ⟨_, rfl, rfl⟩
    · simp only [h, h1, sb_v, bI_t, i10, if_false, inR_nI (show t < 20 by omega) (by decide), gd_t, nI_clamp (show t < 2 ^ 31 by omega), ht, decide_true]
      cases hh : gB M 148 t with
      | false =>
        obtain ⟨-, z⟩ := r3 hh
        rw [z]
        simp only [bI_f, if_true]
        by_cases hb : b < 0
        · rw [if_pos hb]
          exact ⟨_, rfl, rfl⟩
        · rw [if_neg hb, if_neg hb]
          exact ⟨_, rfl, rfl⟩
      | true =>
        obtain ⟨-, -, ⟨w, hw, w1, w2, w3⟩, -⟩ := r2 hh
        rw [w1, w2, in9_n b (by omega), tlt b (n := w) (by omega)]
        simp only [sb_v, bI_t, i10, if_false]
        rcases ix3 b (n := w) (by omega) with ⟨h2, -⟩ | ⟨i, hi, rfl, h2⟩
        · simp only [h2, bI_f, if_true]
          exact ⟨_, rfl, rfl⟩
        · obtain ⟨y1, y2⟩ := w3 i hi
          simp only [h2, bI_t, i10, if_false, inR_nI (show i < 6 by omega) (by decide), mx (K := 6) 6 t i rfl, inR_nI (show 6 * t + i < 120 by omega) (by decide), gd_t, nI_clamp (show i < 2 ^ 31 by omega), nI_clamp (show 6 * t + i < 2 ^ 31 by omega), y1, y2, ite_s]
          exact ⟨_, rfl, rfl⟩
theorem s_answer : S_answer Rel := by
  intro nT M a b hR
  obtain ⟨e, -, -, -, -, -, -, ⟨hn, t1, t2, t3, -⟩, -⟩ := hR
  unfold f_X8_answer f_X9_answer f_X8_answer_41 f_X8_answer_42
  rw [tick8 t1 hn, tick9 t2 hn, in9_7]
  rcases ix3 a (n := nT) (by omega) with ⟨h, -⟩ | ⟨t, ht, rfl, h⟩
  · simp only [h, sb_v, bI_f, if_true]
    exact ⟨_, rfl, rfl⟩
  · obtain ⟨-, ⟨k1, hk1, a1, b1⟩, -, -, -, -, -, -, -, -, -, hd, -⟩ := t3 t ht
    simp only [h, sb_v, bI_t, i10, if_false, if_true, inR_nI (show t < 20 by omega) (by decide), gd_t, nI_clamp (show t < 2 ^ 31 by omega), ht, decide_true, a1, b1]
    by_cases hk : nI k1 = 1
    · rw [if_pos hk, if_pos hk]
      obtain ⟨n, hn8, y1, y2, y3⟩ := hd (b1.trans hk)
      rw [y1, y2, tge b (n := min n 8) (by omega)]
      rcases ix3 b (n := min n 8) (by omega) with ⟨h1, h2⟩ | ⟨i, hi, rfl, h1⟩
      · simp only [h1, bI_f, if_true]
        refine ⟨_, rfl, ?_⟩
        rcases ix3 b (n := 8) (by decide) with ⟨h3, -⟩ | ⟨i, hi, rfl, h3⟩
        · simp only [h3, bI_f, if_true]
        · simp only [h3, bI_t, i10, if_false]
          have : n ≤ i := by
            rcases h2 with h2 | ⟨-, h2⟩
            · exact absurd h2 (nI_pos (by omega))
            · have := (nI_leI (by omega) (by omega)).mp h2
              omega
          rw [if_pos (nI_le this (by omega))]
      · have hi1 : i < 8 := by omega
        have hi2 : i < n := by omega
        simp only [h1, bI_t, i10, if_false, inR_nI hi1 (by decide), mx (K := 8) 8 t i rfl, inR_nI (show 8 * t + i < 160 by omega) (by decide), gd_t, nI_clamp (show i < 2 ^ 31 by omega), nI_clamp (show 8 * t + i < 2 ^ 31 by omega)]
        rw [if_neg (nI_ge hi2 (by omega))]
        exact ⟨_, rfl, by rw [y3 i hi2 hi1]⟩
    · rw [if_neg hk, if_neg hk]
      exact ⟨_, rfl, rfl⟩

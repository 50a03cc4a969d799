def bt (w : Int64) (c : Nat) : Bool := w.toBitVec.getLsbD c
theorem bitm : ∀ c, c < 64 → ((1 : Int64) <<< (Int32.toInt64 (nI c) &&& 63)).toBitVec = BitVec.twoPow 64 c := by decide +kernel
theorem bt_and (x y : Int64) (c : Nat) : bt (x &&& y) c = (bt x c && bt y c) := by
  unfold bt
  rw [Int64.toBitVec_and, BitVec.getLsbD_and]
theorem bt_or (x y : Int64) (c : Nat) : bt (x ||| y) c = (bt x c || bt y c) := by
  unfold bt
  rw [Int64.toBitVec_or, BitVec.getLsbD_or]
theorem bt_0 (c : Nat) : bt 0 c = false := by
  unfold bt
  exact BitVec.getLsbD_zero
theorem bt_m {j : Nat} (hj : j < 64) (c : Nat) : bt ((1 : Int64) <<< (Int32.toInt64 (nI j) &&& 63)) c = decide (c = j) := by
  unfold bt
  rw [bitm j hj, BitVec.getLsbD_twoPow]
  by_cases h : c = j
  · subst h; simp [hj]
  · have : ¬ j = c := fun z => h z.symm
    simp [h, this]
theorem bt_ext {x y : Int64} (h : ∀ c, c < 64 → bt x c = bt y c) : x = y := by
  apply Int64.toBitVec_inj.mp
  apply BitVec.eq_of_getLsbD_eq
  intro i hi
  exact h i hi
theorem bt_big {x : Int64} {c : Nat} (h : 64 ≤ c) : bt x c = false := by
  unfold bt
  exact BitVec.getLsbD_of_ge _ _ h
theorem bt_ne {x : Int64} (h : ¬ x = 0) : ∃ c, c < 64 ∧ bt x c = true := by
  apply Classical.byContradiction
  intro z
  apply h
  refine bt_ext fun c hc => ?_
  rw [bt_0]
  cases hb : bt x c with
  | false => rfl
  | true => exact absurd ⟨c, hc, hb⟩ z
theorem among {w : Int64} {c : Nat} (hc : c < 64) : f_X8_isAmong w (nI c) = some (bt w c) := by
  unfold f_X8_isAmong
  cases h : bt w c with
  | false =>
    rw [if_pos ?_]
    refine bt_ext fun i hi => ?_
    rw [bt_and, bt_m hc, bt_0]
    by_cases z : i = c
    · subst z; simp [h]
    · simp [z]
  | true =>
    rw [if_neg ?_]
    intro z
    have : bt (w &&& (1 <<< (Int32.toInt64 (nI c) &&& 63))) c = true := by rw [bt_and, bt_m hc, h]; simp
    rw [z, bt_0] at this
    cases this
theorem leastOf_lp {w : Int64} {c : Nat} (hc : c < 40) (h1 : bt w c = true) (h2 : ∀ j, j < c → bt w j = false) : ∀ d k n, k + d = c → d < n → f_X8_leastOf_2 n w (nI k) = some (nI c)
  | 0, k, n, hk, hn => by
    obtain ⟨n, rfl⟩ : ∃ m, n = m + 1 := ⟨n - 1, by omega⟩
    have : k = c := by omega
    subst this
    rw [f_X8_leastOf_2, if_neg (show ¬ (40 : Int32) ≤ nI k from nI_ge (b := 40) hc (by decide)), among (by omega), h1]
    simp only [sb_v, bI_t, i10, if_false]
  | d + 1, k, n, hk, hn => by
    obtain ⟨n, rfl⟩ : ∃ m, n = m + 1 := ⟨n - 1, by omega⟩
    rw [f_X8_leastOf_2, if_neg (show ¬ (40 : Int32) ≤ nI k from nI_ge (b := 40) (by omega) (by decide)), among (by omega), h2 k (by omega)]
    simp only [sb_v, bI_f, if_true, lt_v]
    rw [nI_1]
    exact leastOf_lp hc h1 h2 d (k + 1) n (by omega) (by omega)
theorem leastOf_eq {w : Int64} {c : Nat} (hc : c < 40) (h1 : bt w c = true) (h2 : ∀ j, j < c → bt w j = false) : f_X8_leastOf w = some (nI c) := by
  unfold f_X8_leastOf
  exact leastOf_lp hc h1 h2 c 0 FU (by omega) (by unfold FU; omega)
theorem s_read : S_read Rel := by
  intro nT M a b hR
  obtain ⟨e, -, -, -, -, -, -, ⟨hn, t1, t2, t3, -⟩, -⟩ := hR
  unfold f_X8_read f_X9_read
  rw [tick8 t1 hn, tick9 t2 hn, cell8, cell9]
  rcases ix3 a (n := nT) (by omega) with ⟨h, -⟩ | ⟨t, ht, rfl, h⟩
  · simp only [h, sb_v, bI_f, if_true]
    exact ⟨_, rfl, rfl⟩
  · obtain ⟨-, -, -, -, -, -, -, -, -, ⟨r1, r2, r3⟩, -⟩ := t3 t ht
    rcases ix3 b (n := 40) (by decide) with ⟨h1, -⟩ | ⟨c, hc, rfl, h1⟩
    · simp only [h, h1, sb_v, bI_t, bI_f, i10, if_false, if_true]
      exact ⟨_, rfl, rfl⟩
    · simp only [h, h1, sb_v, bI_t, i10, if_false, inR_nI (show t < 20 by omega) (by decide), gd_t, nI_clamp (show t < 2 ^ 31 by omega), ht, decide_true, among (show c < 64 by omega), mx (K := 40) 40 t c rfl, inR_nI (show 40 * t + c < 800 by omega) (by decide), nI_clamp (show 40 * t + c < 2 ^ 31 by omega)]
      cases hh : gB M 148 t with
      | false =>
        rw [(r3 hh).1, bt_0]
        simp only [bI_f, if_true]
        exact ⟨_, rfl, rfl⟩
      | true =>
        have hb : bt (gL M (189 + 4 * t) 11) c = gB M 151 (40 * t + c) := by
          have := (r2 hh).2.2.2 c
          unfold bt
          rw [this]
          simp [hc]
        rw [hb]
        simp only [bI_t, i10, if_false, ite_s]
        exact ⟨_, rfl, rfl⟩
theorem many_lp {nT : Nat} {M : Mem} (hT : RTk nT M) (st : Int32) : ∀ d k n n' c, k + d = nT → d < n → d < n' → ∃ r, f_X8_howManyAre_4 nT M n st c (nI k) = some r ∧ f_X9_many_4 M n' st c (nI k) = some r
  | 0, k, n, n', c, hk, hn, hn' => by
    obtain ⟨n, rfl⟩ : ∃ m, n = m + 1 := ⟨n - 1, by omega⟩
    obtain ⟨n', rfl⟩ : ∃ m, n' = m + 1 := ⟨n' - 1, by omega⟩
    have : k = nT := by omega
    subst this
    have := hT.1
    rw [f_X8_howManyAre_4, f_X9_many_4, hT.2.1, hT.2.2.1, if_pos (nI_le (Nat.le_refl _) (by omega)), if_pos (nI_le (Nat.le_refl _) (by omega))]
    exact ⟨_, rfl, rfl⟩
  | d + 1, k, n, n', c, hk, hn, hn' => by
    obtain ⟨n, rfl⟩ : ∃ m, n = m + 1 := ⟨n - 1, by omega⟩
    obtain ⟨n', rfl⟩ : ∃ m, n' = m + 1 := ⟨n' - 1, by omega⟩
    have h20 := hT.1
    have hlt : k < nT := by omega
    obtain ⟨-, ⟨s, -, s1, s2⟩, -⟩ := hT.2.2.2.1 k hlt
    rw [f_X8_howManyAre_4, f_X9_many_4, hT.2.1, hT.2.2.1, if_neg (nI_ge hlt (by omega)), if_neg (nI_ge hlt (by omega))]
    unfold f_X8_howManyAre_28 f_X9_many_28
    simp only [inR_nI (show k < 20 by omega) (by decide), gd_t, nI_clamp (show k < 2 ^ 31 by omega), hlt, decide_true, s1, s2, lt_v, nI_1]
    by_cases z : nI s = st
    · rw [if_pos z, if_pos z]
      exact many_lp hT st d (k + 1) n n' (c + 1) (by omega) (by omega) (by omega)
    · rw [if_neg z, if_neg z, Int32.add_zero]
      exact many_lp hT st d (k + 1) n n' c (by omega) (by omega) (by omega)
theorem many_eq {nT : Nat} {M : Mem} (hT : RTk nT M) (st : Int32) : ∃ r, f_X8_howManyAre nT M st = some r ∧ f_X9_many M st = some r := by
  have := hT.1
  exact many_lp hT st nT 0 FU FU 0 (by omega) (by unfold FU; omega) (by unfold FU; omega)
theorem s_count : S_count Rel := by
  intro nT M a hR
  obtain ⟨e, -, -, -, -, ⟨n, -, r1, r2, -⟩, ⟨m, -, q1, q2, -⟩, hT, ⟨m1, m2, -, -, m5, m6, -⟩⟩ := hR
  obtain ⟨x0, y0, z0⟩ := many_eq hT 0
  obtain ⟨x3, y3, z3⟩ := many_eq hT 3
  unfold f_X8_count f_X9_count
  rw [y0, z0, y3, z3, hT.2.1, hT.2.2.1, r1, r2, q1, q2, m1, m2, m5, m6]
  simp only [sb_v, ite_s]
  exact ⟨_, rfl, rfl⟩

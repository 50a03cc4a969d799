/-! what is kept where the rows of the tickets are -/
def tkR (q : Nat) : Prop := (137 ≤ q ∧ q ≤ 154) ∨ 189 ≤ q
theorem RT1.ag {M M' : Mem} {t : Nat} (kI : ∀ q i, tkR q → gI M' q i = gI M q i) (kL : ∀ q i, tkR q → gL M' q i = gL M q i) (kB : ∀ q i, tkR q → gB M' q i = gB M q i) (h : RT1 M t) : RT1 M' t := by
  unfold RT1 RTry at h ⊢
  unfold tkR at kI kL kB
  simp (disch := omega) only [kI, kL, kB]
  exact h
theorem cntD_ag {M M' : Mem} (k : ∀ i, gI M' 138 i = gI M 138 i) : ∀ n, cntD M' n = cntD M n
  | 0 => rfl
  | n + 1 => by
    unfold cntD
    rw [cntD_ag k n, k n]
theorem RTk.ag {nT : Nat} {M M' : Mem} (h : RTk nT M) (h0 : gI M' 0 8 = gI M 0 8) (h1 : gI M' 119 18 = gI M 119 18) (kI : ∀ q i, tkR q → gI M' q i = gI M q i) (kL : ∀ q i, tkR q → gL M' q i = gL M q i) (kB : ∀ q i, tkR q → gB M' q i = gB M q i) : RTk nT M' := ⟨h.1, h0.trans h.2.1, h1.trans h.2.2.1, fun t ht => RT1.ag kI kL kB (h.2.2.2.1 t ht), fun t h1 h2 => by
  rw [kI 139 t (Or.inl (by decide)), kI 140 t (Or.inl (by decide)), kI 141 t (Or.inl (by decide)), kI 142 t (Or.inl (by decide)), kB 148 t (Or.inl (by decide))]
  exact h.2.2.2.2 t h1 h2⟩
theorem RMis.ag {nT e : Nat} {M M' : Mem} (h : RMis nT e M) (k0 : ∀ i, i ≠ 8 → gI M' 0 i = gI M 0 i) (k1 : gI M' 119 38 = gI M 119 38) (k2 : gI M' 119 40 = gI M 119 40) (k3 : gI M' 119 41 = gI M 119 41) (k4 : gI M' 119 37 = gI M 119 37) (k5 : ∀ i, gI M' 118 i = gI M 118 i) (k6 : ∀ i, gI M' 155 i = gI M 155 i) (k7 : ∀ i, gI M' 138 i = gI M 138 i) : RMis nT e M' := by
  unfold RMis at h ⊢
  rw [k0 9 (by decide), k0 10 (by decide), k0 11 (by decide), k0 12 (by decide), k1, k2, k3, k4, cntD_ag k7]
  simp only [k5, k6]
  exact h
theorem s_drop : S_drop Rel := by
  intro nT M a hR
  unfold f_X8_drop f_X9_drop
  rw [trade8, trade9]
  rcases ix3 a (n := 16) (by decide) with ⟨h, -⟩ | ⟨t, ht, rfl, h⟩
  · simp only [h, sb_v, bI_f, if_true]
    exact ⟨_, _, _, rfl, rfl, hR⟩
  · obtain ⟨e, hC, hV, hH, hTr, hRu, hN, hT, hMi⟩ := hR
    simp only [h, sb_v, bI_t, i10, if_false, gd_t, lt_v, nI_clamp (show t < 2 ^ 31 by omega)]
    obtain ⟨n0, k0, -, m2, m3, -⟩ := hTr.1 t ht
    refine ⟨gI M 12 t, sI M 12 t 0, sI (sI M 12 t 0) 128 t 0, rfl, ?_, e, hC, hV, hH, ⟨fun t' ht' => ?_, hTr.2⟩, hRu, hN, ?_, ?_⟩
    · show some (gI M 128 t, _) = _
      rw [m2, m3]
    · obtain ⟨n, k, n1, n2, n3, n4, n5, n6, n7⟩ := hTr.1 t' ht'
      by_cases z : t' = t
      · subst z
        refine ⟨0, k, by omega, ?_, ?_, n4, n5, n6, fun i hi => absurd hi (by omega)⟩
        · rw [gI_q (by decide), gI_s]; rfl
        · rw [gI_s]; rfl
      · refine ⟨n, k, n1, ?_, ?_, n4, n5, n6, n7⟩
        · rw [gI_q (by decide), gI_i z]; exact n2
        · rw [gI_i z, gI_q (by decide)]; exact n3
    · refine hT.ag rfl rfl (fun q i hq => ?_) (fun q i hq => rfl) (fun q i hq => rfl)
      unfold tkR at hq
      rw [gI_q (by omega), gI_q (by omega)]
    · exact hMi.ag (fun i _ => rfl) rfl rfl rfl rfl (fun i => rfl) (fun i => rfl) (fun i => rfl)
theorem s_clash : S_clash Rel := by
  intro nT M a b hR
  unfold f_X8_clash f_X9_clash
  rw [trade8, trade9, in9_10, tle b (hi := 10) (n := 11) (by decide) (by decide)]
  rcases ix3 a (n := 16) (by decide) with ⟨h, -⟩ | ⟨t, ht, rfl, h⟩
  · simp only [h, sb_v, bI_f, if_true]
    exact ⟨_, _, _, rfl, rfl, hR⟩
  rcases ix3 b (n := 11) (by decide) with ⟨h1, -⟩ | ⟨j, hj, rfl, h1⟩
  · simp only [h, h1, sb_v, bI_t, bI_f, i10, if_false, if_true]
    exact ⟨_, _, _, rfl, rfl, hR⟩
  · obtain ⟨e, hC, hV, hH, hTr, hRu, hN, hT, hMi⟩ := hR
    simp only [h, h1, sb_v, bI_t, i10, if_false, gd_t, lt_v, nI_clamp (show t < 2 ^ 31 by omega)]
    obtain ⟨n0, k0, -, -, -, -, m5, m6, -⟩ := hTr.1 t ht
    refine ⟨gI M 13 t, sI M 13 t (nI j), sI (sI M 13 t (nI j)) 132 t (nI j), rfl, ?_, e, hC, hV, hH, ⟨fun t' ht' => ?_, hTr.2⟩, hRu, hN, ?_, ?_⟩
    · show some (gI M 132 t, _) = _
      rw [m5, m6]
    · obtain ⟨n, k, n1, n2, n3, n4, n5, n6, n7⟩ := hTr.1 t' ht'
      by_cases z : t' = t
      · subst z
        refine ⟨n, j, n1, n2, n3, by omega, ?_, ?_, n7⟩
        · rw [gI_q (by decide), gI_s]
        · rw [gI_s]
      · refine ⟨n, k, n1, n2, n3, n4, ?_, ?_, n7⟩
        · rw [gI_q (by decide), gI_i z]; exact n5
        · rw [gI_i z, gI_q (by decide)]; exact n6
    · refine hT.ag rfl rfl (fun q i hq => ?_) (fun q i hq => rfl) (fun q i hq => rfl)
      unfold tkR at hq
      rw [gI_q (by omega), gI_q (by omega)]
    · exact hMi.ag (fun i _ => rfl) rfl rfl rfl rfl (fun i => rfl) (fun i => rfl) (fun i => rfl)
theorem s_window : S_window Rel := by
  intro nT M a hR
  unfold f_X8_window f_X9_window
  have e9 : f_X9_in (Int32.toInt64 a) 1 4 = some (decide (1 ≤ a ∧ a ≤ 4)) := in9 a 1 4
  rw [e9]
  by_cases h1 : a < 1
  · have : ¬ 1 ≤ a := Int32.not_le.mpr h1
    simp only [if_pos h1, this, false_and, decide_false, sb_v, bI_f, if_true]
    exact ⟨_, _, _, rfl, rfl, hR⟩
  · have h1' : 1 ≤ a := Int32.not_lt.mp h1
    rw [if_neg h1]
    by_cases h2 : a ≤ 4
    · simp only [if_pos h2, h1', h2, and_self, decide_true, sb_v, bI_t, i10, if_false, lt_v]
      obtain ⟨e, hC, hV, hH, hTr, hRu, hN, hT, hMi⟩ := hR
      obtain ⟨m1, m2, m3, m4, m5, m6, w, w1, w2, w3, w4⟩ := hMi
      refine ⟨gI M 0 12, sI M 0 12 a, sI (sI M 0 12 a) 119 37 a, rfl, ?_, e, hC, hV, hH, hTr, hRu, hN, ?_, m1, m2, ?_, m4, m5, m6, ?_⟩
      · show some (gI M 119 37, _) = _
        rw [w3, w4]
      · refine hT.ag rfl rfl (fun q i hq => ?_) (fun q i hq => rfl) (fun q i hq => rfl)
        unfold tkR at hq
        rw [gI_q (by omega), gI_q (by omega)]
      · rw [m3]
        exact (cntD_ag (M := M) (M' := sI (sI M 0 12 a) 119 37 a) (fun i => rfl) nT).symm
      · have h0 : ¬ a < 0 := by
          intro z
          rw [Int32.lt_iff_toInt_lt] at z
          rw [Int32.le_iff_toInt_le] at h1'
          have x0 : (0 : Int32).toInt = 0 := rfl
          have x1 : (1 : Int32).toInt = 1 := rfl
          omega
        obtain ⟨j, hj, rfl⟩ := nI_of2 (M := 4) (n := 4) rfl h0 h2
        have : 1 ≤ j := (nI_leI (a := 1) (by decide) (by omega)).mp h1'
        exact ⟨j, this, hj, rfl, rfl⟩
    · simp only [if_neg h2, h2, and_false, decide_false, sb_v, bI_f, if_true]
      exact ⟨_, _, _, rfl, rfl, hR⟩
theorem ne_out {op : Int32} {n : Nat} (hn : n < 2 ^ 31) (h : inR op n = false) : ∀ k, k < n → ¬ op = nI k := by
  intro k hk e
  rw [e, inR_nI hk hn] at h
  cases h
theorem l13 (a : Int32) : (if a < 0 then some false else (if 24 < a then some false else some true)) = some (inR a 25) := by
  rw [← tst8 a (n := 25) (by decide)]
  have : (24 < a) ↔ (nI 25 ≤ a) := by
    rw [Int32.lt_iff_toInt_lt, Int32.le_iff_toInt_le, nI_toInt (by decide)]
    have : (24 : Int32).toInt = 24 := rfl
    omega
  simp only [this]
theorem l13b (a : Int32) : (if a < 0 then some false else (if a ≤ 24 then some true else some false)) = some (inR a 25) := by
  rw [← l13 a]
  have : (24 < a) ↔ ¬ (a ≤ 24) := Int32.not_le.symm
  simp only [this]
  by_cases h : a ≤ 24 <;> simp [h]
theorem fits78 (op a b : Int32) : f_X7_fits op a b = f_X9_isStep op a b := by
  unfold f_X7_fits f_X9_isStep f_X7_fits_178 f_X9_isStep_172
  simp only [cell8, cell9, trade8, trade9, in9_24, in9_15, sb_v]
  rcases ix3 op (n := 20) (by decide) with ⟨h, h2⟩ | ⟨j, hj, rfl, h⟩
  · have ne := ne_out (by decide) h
    simp only [show (op = 1) = False from eq_false (ne 1 (by decide)), show (op = 2) = False from eq_false (ne 2 (by decide)), show (op = 3) = False from eq_false (ne 3 (by decide)), show (op = 4) = False from eq_false (ne 4 (by decide)), show (op = 5) = False from eq_false (ne 5 (by decide)), show (op = 6) = False from eq_false (ne 6 (by decide)), show (op = 7) = False from eq_false (ne 7 (by decide)), show (op = 8) = False from eq_false (ne 8 (by decide)), show (op = 9) = False from eq_false (ne 9 (by decide)), show (op = 10) = False from eq_false (ne 10 (by decide)), show (op = 11) = False from eq_false (ne 11 (by decide)), show (op = 12) = False from eq_false (ne 12 (by decide)), show (op = 13) = False from eq_false (ne 13 (by decide)), show (op = 14) = False from eq_false (ne 14 (by decide)), show (op = 15) = False from eq_false (ne 15 (by decide)), show (op = 16) = False from eq_false (ne 16 (by decide)), show (op = 17) = False from eq_false (ne 17 (by decide)), show (op = 18) = False from eq_false (ne 18 (by decide)), show (op = 19) = False from eq_false (ne 19 (by decide)), if_false]
    have h16 : inR op 16 = false := by
      rcases ix3 op (n := 16) (by decide) with ⟨z, -⟩ | ⟨j, hj, rfl, z⟩
      · exact z
      · exact absurd rfl (ne j (by omega))
    rw [h16]
    rcases h2 with h2 | ⟨h2, h3⟩
    · rw [if_pos h2]
    · rw [if_neg h2, if_pos ?_]
      rw [Int32.le_iff_toInt_le, nI_toInt (by decide)] at h3
      rw [Int32.lt_iff_toInt_lt]
      have : (19 : Int32).toInt = 19 := rfl
      omega
  · rcases (show j = 0 ∨ j = 1 ∨ j = 2 ∨ j = 3 ∨ j = 4 ∨ j = 5 ∨ j = 6 ∨ j = 7 ∨ j = 8 ∨ j = 9 ∨ j = 10 ∨ j = 11 ∨ j = 12 ∨ j = 13 ∨ j = 14 ∨ j = 15 ∨ j = 16 ∨ j = 17 ∨ j = 18 ∨ j = 19 by omega) with rfl | rfl | rfl | rfl | rfl | rfl | rfl | rfl | rfl | rfl | rfl | rfl | rfl | rfl | rfl | rfl | rfl | rfl | rfl | rfl
    all_goals first | rfl | exact l13 a | exact l13b a
theorem s_step : S_step Rel := by
  intro nT M a op x y hR
  rcases ix3 a (n := 16) (by decide) with ⟨h, -⟩ | ⟨t, ht, rfl, h⟩
  · refine ⟨-2, M, M, ?_, ?_, hR⟩
    · unfold f_X8_step
      simp only [trade8, h, sb_v, bI_f, if_true]
    · unfold f_X9_step
      simp only [trade9, h, sb_v, bI_f, if_true]
  obtain ⟨e, hC, hV, hH, hTr, hRu, hN, hT, hMi⟩ := hR
  have hR : Rel nT M := ⟨e, hC, hV, hH, hTr, hRu, hN, hT, hMi⟩
  obtain ⟨n, k, n1, n2, n3, n4, n5, n6, n7⟩ := hTr.1 t ht
  have hs : ∃ s, f_X9_isStep op x y = some s := by
    unfold f_X9_isStep f_X9_isStep_172
    simp only [cell9, trade9, in9_24, in9_15, sb_v, ite_s]
    exact ⟨_, rfl⟩
  obtain ⟨s, hs⟩ := hs
  have hcl := nI_clamp (show t < 2 ^ 31 by omega)
  cases s with
  | false =>
    refine ⟨-2, M, M, ?_, ?_, hR⟩
    · unfold f_X8_step
      simp only [trade8, fits78, hs, h, sb_v, bI_t, bI_f, i10, if_false, if_true]
    · unfold f_X9_step
      simp only [trade9, hs, h, sb_v, bI_t, bI_f, i10, if_false, if_true]
  | true =>
    by_cases hn : n = 24
    · subst hn
      refine ⟨-3, M, M, ?_, ?_, hR⟩
      · unfold f_X8_step
        simp only [trade8, fits78, hs, h, sb_v, bI_t, i10, if_false, gd_t, hcl, n2]
        rw [if_neg (show ¬ nI 24 < 24 from nI_nlt (b := 24) (by decide) (by decide))]
      · unfold f_X9_step
        simp only [trade9, hs, h, sb_v, bI_t, i10, if_false, gd_t, hcl, n3]
        rw [if_pos (show nI 24 = 24 from rfl)]
    · have hn24 : n < 24 := by omega
      have hix : 24 * t + n < 384 := by omega
      have hcx := nI_clamp (show 24 * t + n < 2 ^ 31 by omega)
      refine ⟨nI (n + 1), sI (sI (sI (sI M 14 (24 * t + n) op) 15 (24 * t + n) x) 16 (24 * t + n) y) 12 t (nI (n + 1)), sI (sI (sI (sI (sI (sI (sI (sI M 14 (24 * t + n) op) 15 (24 * t + n) x) 16 (24 * t + n) y) 12 t (nI (n + 1))) 129 (24 * t + n) op) 130 (24 * t + n) x) 131 (24 * t + n) y) 128 t (nI (n + 1)), ?_, ?_, ?_⟩
      · unfold f_X8_step
        simp only [trade8, fits78, hs, h, sb_v, bI_t, i10, if_false, gd_t, hcl, n2]
        rw [if_pos (show nI n < 24 from nI_lt (b := 24) hn24 (by decide))]
        unfold f_X7_append
        simp only [h, gd_t, lt_v, hcl, n2, mx2 (K := 24) 24 t n rfl, inR_nI hix (by decide), hcx, gI_s, sb_v]
        have e8 : gI (sI (sI (sI M 14 (24 * t + n) op) 15 (24 * t + n) x) 16 (24 * t + n) y) 12 t = nI n := n2
        rw [e8, nI_1]
      · unfold f_X9_step
        generalize hM1 : sI (sI (sI (sI M 14 (24 * t + n) op) 15 (24 * t + n) x) 16 (24 * t + n) y) 12 t (nI (n + 1)) = M1
        have m3 : gI M1 128 t = nI n := by rw [← hM1]; exact n3
        simp only [trade9, hs, h, sb_v, bI_t, i10, if_false, gd_t, hcl, m3]
        rw [if_neg (show ¬ nI n = 24 from fun z => hn ((nI_eq (b := 24) (by omega) (by decide)).mp z))]
        simp only [gd_t, lt_v, mx (K := 24) 24 t n rfl, inR_nI hix (by decide), hcx, gI_s]
        have e9 : gI (sI (sI (sI M1 129 (24 * t + n) op) 130 (24 * t + n) x) 131 (24 * t + n) y) 128 t = nI n := m3
        rw [e9, nI_1]
      · refine ⟨e, hC, hV, hH, ⟨fun t' ht' => ?_, fun i hi => ?_⟩, hRu, hN, ?_, ?_⟩
        · obtain ⟨m, k', m1, m2, m3, m4, m5, m6, m7⟩ := hTr.1 t' ht'
          by_cases z : t' = t
          · subst z
            have hm : m = n := (nI_eq (by omega) (by omega)).mp (m2.symm.trans n2)
            subst hm
            refine ⟨m + 1, k', by omega, ?_, gI_s, m4, m5, m6, fun i hi => ?_⟩
            · show gI (sI _ 12 t' _) 12 t' = _
              exact gI_s
            by_cases zi : i = m
            · subst zi
              show okS (gI (sI _ 129 _ _) 129 _) (gI (sI _ 130 _ _) 130 _) (gI (sI _ 131 _ _) 131 _)
              rw [gI_s, gI_s, gI_s]
              exact hs
            · show okS (gI (sI M 129 _ _) 129 _) (gI (sI M 130 _ _) 130 _) (gI (sI M 131 _ _) 131 _)
              rw [gI_i (by omega), gI_i (by omega), gI_i (by omega)]
              exact m7 i (by omega)
          · refine ⟨m, k', m1, ?_, ?_, m4, m5, m6, fun i hi => ?_⟩
            · show gI (sI M 12 t _) 12 t' = _
              exact (gI_i z).trans m2
            · show gI (sI M 128 t _) 128 t' = _
              exact (gI_i z).trans m3
            · show okS (gI (sI M 129 _ _) 129 _) (gI (sI M 130 _ _) 130 _) (gI (sI M 131 _ _) 131 _)
              have : 24 * t' + i ≠ 24 * t + n := by omega
              rw [gI_i this, gI_i this, gI_i this]
              exact m7 i hi
        · obtain ⟨z1, z2, z3⟩ := hTr.2 i hi
          show gI (sI M 14 _ _) 14 i = gI (sI M 129 _ _) 129 i ∧ gI (sI M 15 _ _) 15 i = gI (sI M 130 _ _) 130 i ∧ gI (sI M 16 _ _) 16 i = gI (sI M 131 _ _) 131 i
          simp only [gI_x, z1, z2, z3, and_self]
        · refine hT.ag rfl rfl (fun q i hq => ?_) (fun q i hq => rfl) (fun q i hq => rfl)
          unfold tkR at hq
          simp (disch := omega) only [gI_q]
        · exact hMi.ag (fun i _ => rfl) rfl rfl rfl rfl (fun i => rfl) (fun i => rfl) (fun i => rfl)

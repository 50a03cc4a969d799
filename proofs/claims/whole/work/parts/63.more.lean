theorem rule_eq (M : Mem) (k a b : Int32) (v : Int64) : ∃ s, f_X4_fits k a b = some s ∧ f_X9_rule M k a b v = f_X9_rule_58 M k a b v (bI s) ∧ (s = true → okR k a b) := by
  unfold f_X4_fits f_X9_rule f_X9_rule_40 f_X9_rule_53 f_X9_rule_57
  simp only [cell8, cell9, kind8, grow8, in9_3, in9_7, sb_v]
  rcases ix3 k (n := 4) (by decide) with ⟨h, -⟩ | ⟨j, hj, rfl, h⟩
  · have ne := ne_out (by decide) h
    simp only [show (k = 0) = False from eq_false (ne 0 (by decide)), show (k = 1) = False from eq_false (ne 1 (by decide)), show (k = 2) = False from eq_false (ne 2 (by decide)), show (k = 3) = False from eq_false (ne 3 (by decide)), if_false, h, bI_f, if_true]
    exact ⟨false, rfl, rfl, fun z => by cases z⟩
  · rcases (show j = 0 ∨ j = 1 ∨ j = 2 ∨ j = 3 by omega) with rfl | rfl | rfl | rfl
    · simp only [show (nI 0 = 0) = True from eq_true rfl, if_true, h, bI_t, i10, if_false, show (2 ≤ nI 0) = False from eq_false (by decide), show (nI 0 = 1) = False from eq_false (by decide)]
      refine ⟨_, rfl, ?_, fun z => Or.inl ⟨rfl, z⟩⟩
      cases inR a 40 <;> rfl
    · simp only [show (nI 1 = 0) = False from eq_false (by decide), show (nI 1 = 1) = True from eq_true rfl, if_true, h, bI_t, i10, if_false, show (2 ≤ nI 1) = False from eq_false (by decide)]
      cases ha : inR a 40 with
      | false => exact ⟨false, rfl, rfl, fun z => by cases z⟩
      | true =>
        cases hb : inR b 40 with
        | false => exact ⟨false, rfl, rfl, fun z => by cases z⟩
        | true => exact ⟨true, rfl, rfl, fun _ => Or.inr (Or.inl ⟨rfl, ha, hb⟩)⟩
    · simp only [show (nI 2 = 0) = False from eq_false (by decide), show (nI 2 = 1) = False from eq_false (by decide), show (nI 2 = 2) = True from eq_true rfl, if_true, h, bI_t, i10, if_false, show (2 ≤ nI 2) = True from eq_true (by decide)]
      refine ⟨_, rfl, ?_, fun z => Or.inr (Or.inr (Or.inl ⟨rfl, z⟩))⟩
      cases inR a 8 <;> rfl
    · simp only [show (nI 3 = 0) = False from eq_false (by decide), show (nI 3 = 1) = False from eq_false (by decide), show (nI 3 = 2) = False from eq_false (by decide), show (nI 3 = 3) = True from eq_true rfl, if_true, h, bI_t, i10, if_false, show (2 ≤ nI 3) = True from eq_true (by decide)]
      refine ⟨_, rfl, ?_, fun z => Or.inr (Or.inr (Or.inr ⟨rfl, z⟩))⟩
      cases inR a 8 <;> rfl
theorem s_rule : S_rule Rel := by
  intro nT M k a b v hR
  obtain ⟨s, h1, -, h3⟩ := rule_eq M k a b v
  have h2 : ∀ M, f_X9_rule M k a b v = f_X9_rule_58 M k a b v (bI s) := fun M => by
    obtain ⟨s', g1, g2, -⟩ := rule_eq M k a b v
    rw [g2, ← Option.some.inj (h1.symm.trans g1)]
  cases s with
  | false =>
    refine ⟨-2, M, M, ?_, ?_, hR⟩
    · unfold f_X8_rule
      simp only [h1, sb_v, bI_f, if_true]
    · rw [h2]
      unfold f_X9_rule_58
      simp only [bI_f, if_true]
  | true =>
    obtain ⟨e, hC, hV, hH, hTr, ⟨n, r1, r2, r3, r4⟩, hN, hT, hMi⟩ := hR
    have hR : Rel nT M := ⟨e, hC, hV, hH, hTr, ⟨n, r1, r2, r3, r4⟩, hN, hT, hMi⟩
    by_cases hn : n = 10
    · subst hn
      refine ⟨-3, M, M, ?_, ?_, hR⟩
      · unfold f_X8_rule
        simp only [h1, sb_v, bI_t, i10, if_false, r2]
        rw [if_neg (show ¬ nI 10 < 10 from nI_nlt (b := 10) (by decide) (by decide))]
      · rw [h2]
        unfold f_X9_rule_58
        simp only [bI_t, i10, if_false, r3]
        rw [if_pos (show nI 10 = 10 from rfl)]
    · have hn10 : n < 10 := by omega
      have hcl := nI_clamp (show n < 2 ^ 31 by omega)
      have hin := inR_nI hn10 (by decide)
      refine ⟨nI n, sI (sL (sI (sI (sI M 18 n k) 19 n a) 20 n b) 21 n v) 17 4 (nI (n + 1)), sI (sL (sI (sI (sI (sI (sL (sI (sI (sI M 18 n k) 19 n a) 20 n b) 21 n v) 17 4 (nI (n + 1))) 133 n k) 134 n a) 135 n b) 136 n v) 119 13 (nI (n + 1)), ?_, ?_, ?_⟩
      · unfold f_X8_rule
        simp only [h1, sb_v, bI_t, i10, if_false, r2]
        rw [if_pos (show nI n < 10 from nI_lt (b := 10) hn10 (by decide))]
        unfold f_X4_append
        have g1 : gI (sI M 18 n k) 17 4 = nI n := r2
        have g2 : gI (sI (sI M 18 n k) 19 n a) 17 4 = nI n := r2
        have g3 : gI (sI (sI (sI M 18 n k) 19 n a) 20 n b) 17 4 = nI n := r2
        have g4 : gI (sL (sI (sI (sI M 18 n k) 19 n a) 20 n b) 21 n v) 17 4 = nI n := r2
        simp only [r2, hin, gd_t, lt_v, hcl, g1, g2, g3, g4, nI_1, gI_s, sb_v, nI_pred]
      · rw [h2]
        generalize hM1 : sI (sL (sI (sI (sI M 18 n k) 19 n a) 20 n b) 21 n v) 17 4 (nI (n + 1)) = M1
        have g0 : gI M1 119 13 = nI n := by rw [← hM1]; exact r3
        unfold f_X9_rule_58
        simp only [bI_t, i10, if_false, g0]
        rw [if_neg (show ¬ nI n = 10 from fun z => hn ((nI_eq (b := 10) (by omega) (by decide)).mp z))]
        have g1 : gI (sI M1 133 n k) 119 13 = nI n := g0
        have g2 : gI (sI (sI M1 133 n k) 134 n a) 119 13 = nI n := g0
        have g3 : gI (sI (sI (sI M1 133 n k) 134 n a) 135 n b) 119 13 = nI n := g0
        have g4 : gI (sL (sI (sI (sI M1 133 n k) 134 n a) 135 n b) 136 n v) 119 13 = nI n := g0
        simp only [g0, hin, gd_t, lt_v, hcl, g1, g2, g3, g4, nI_1, gI_s, nI_pred]
      · refine ⟨e, hC, hV, hH, hTr, ⟨n + 1, by omega, rfl, rfl, fun i hi => ?_⟩, hN, ?_, ?_⟩
        · show okR (gI (sI M 133 n k) 133 i) (gI (sI M 134 n a) 134 i) (gI (sI M 135 n b) 135 i) ∧ gI (sI M 18 n k) 18 i = gI (sI M 133 n k) 133 i ∧ gI (sI M 19 n a) 19 i = gI (sI M 134 n a) 134 i ∧ gI (sI M 20 n b) 20 i = gI (sI M 135 n b) 135 i ∧ gL (sL M 21 n v) 21 i = gL (sL M 136 n v) 136 i
          simp only [gI_x, gL_x]
          by_cases z : i = n
          · subst z
            simp only [if_true]
            exact ⟨h3 rfl, by simp⟩
          · simp only [z, if_false]
            exact r4 i (by omega)
        · refine hT.ag rfl rfl (fun q i hq => ?_) (fun q i hq => ?_) (fun q i hq => rfl)
          · unfold tkR at hq
            simp (disch := omega) only [gI_q, gI_sL]
          · unfold tkR at hq
            simp (disch := omega) only [gL_q, gL_sI]
        · exact hMi.ag (fun i _ => rfl) rfl rfl rfl rfl (fun i => rfl) (fun i => rfl) (fun i => rfl)
/-! what is kept when rows are the same -/
theorem RCells.ag {M M' : Mem} (h : RCells M) (kI : ∀ q i, q ∈ [3, 5, 6, 120, 122, 123] → gI M' q i = gI M q i) (kL : ∀ q i, q ∈ [4, 121] → gL M' q i = gL M q i) : RCells M' := by
  intro c hc
  rw [kI 3 c (by decide), kI 5 c (by decide), kI 6 c (by decide), kI 120 c (by decide), kI 122 c (by decide), kI 123 c (by decide), kL 4 c (by decide), kL 121 c (by decide)]
  exact h c hc
theorem RVers.ag {M M' : Mem} (h : RVers M) (kI : ∀ q i, q ∈ [7, 8, 124, 125] → gI M' q i = gI M q i) : RVers M' := by
  intro c hc
  rw [kI 7 c (by decide), kI 8 c (by decide), kI 124 c (by decide), kI 125 c (by decide)]
  exact h c hc
theorem RHist.ag {e : Nat} {M M' : Mem} (h : RHist e M) (kI : ∀ q i, q ∈ [9, 10, 126, 127] → gI M' q i = gI M q i) : RHist e M' := by
  intro c hc
  obtain ⟨n, h1, h2, h3, h4⟩ := h c hc
  refine ⟨n, h1, (kI 126 c (by decide)).trans h2, (kI 10 c (by decide)).trans h3, fun i hi hj => ?_⟩
  rw [kI 9 _ (by decide), kI 127 _ (by decide)]
  exact h4 i hi hj
theorem RTrd.ag {M M' : Mem} (h : RTrd M) (kI : ∀ q i, q ∈ [12, 13, 14, 15, 16, 128, 129, 130, 131, 132] → gI M' q i = gI M q i) : RTrd M' := by
  refine ⟨fun t ht => ?_, fun i hi => ?_⟩
  · obtain ⟨n, k, h1, h2, h3, h4, h5, h6, h7⟩ := h.1 t ht
    refine ⟨n, k, h1, (kI 12 t (by decide)).trans h2, (kI 128 t (by decide)).trans h3, h4, (kI 13 t (by decide)).trans h5, (kI 132 t (by decide)).trans h6, fun i hi => ?_⟩
    rw [kI 129 _ (by decide), kI 130 _ (by decide), kI 131 _ (by decide)]
    exact h7 i hi
  · rw [kI 14 i (by decide), kI 15 i (by decide), kI 16 i (by decide), kI 129 i (by decide), kI 130 i (by decide), kI 131 i (by decide)]
    exact h.2 i hi
theorem RRul.ag {M M' : Mem} (h : RRul M) (kI : ∀ q i, q ∈ [17, 18, 19, 20, 133, 134, 135] → gI M' q i = gI M q i) (k1 : gI M' 119 13 = gI M 119 13) (kL : ∀ q i, q ∈ [21, 136] → gL M' q i = gL M q i) : RRul M' := by
  obtain ⟨n, h1, h2, h3, h4⟩ := h
  refine ⟨n, h1, (kI 17 4 (by decide)).trans h2, k1.trans h3, fun i hi => ?_⟩
  rw [kI 18 i (by decide), kI 19 i (by decide), kI 20 i (by decide), kI 133 i (by decide), kI 134 i (by decide), kI 135 i (by decide), kL 21 i (by decide), kL 136 i (by decide)]
  exact h4 i hi
theorem RNot.ag {e : Nat} {M M' : Mem} (h : RNot e M) (kI : ∀ q i, q ∈ [22, 23, 24, 156, 157] → gI M' q i = gI M q i) (k1 : gI M' 119 42 = gI M 119 42) (kL : ∀ q i, q ∈ [25, 158] → gL M' q i = gL M q i) : RNot e M' := by
  obtain ⟨n, h1, h2, h3, h4⟩ := h
  refine ⟨n, h1, (kI 22 3 (by decide)).trans h2, k1.trans h3, fun i hi hj => ?_⟩
  rw [kI 23 i (by decide), kI 24 i (by decide), kI 156 i (by decide), kI 157 i (by decide), kL 25 i (by decide), kL 158 i (by decide)]
  exact h4 i hi hj
theorem nwI {M : Mem} {nT : Nat} {a : Int32} {q i : Nat} (h : q < 189 + 4 * nT) : gI (nwT M (189 + 4 * nT) a) q i = gI M q i := by
  show (if q = 189 + 4 * nT then tkI a else if q = 189 + 4 * nT + 1 ∨ q = 189 + 4 * nT + 2 then _ else M.1 q) i = _
  rw [if_neg (by omega), if_neg (by omega)]
  rfl
theorem nwL {M : Mem} {nT : Nat} {a : Int32} {q i : Nat} (h : q < 189 + 4 * nT) : gL (nwT M (189 + 4 * nT) a) q i = gL M q i := by
  show (if q = 189 + 4 * nT ∨ q = 189 + 4 * nT + 3 then _ else M.2.1 q) i = _
  rw [if_neg (by omega)]
  rfl
theorem nwI0 {M : Mem} {nT : Nat} {a : Int32} {i : Nat} : gI (nwT M (189 + 4 * nT) a) (189 + 4 * nT) i = tkI a i := by
  show (if 189 + 4 * nT = 189 + 4 * nT then tkI a else _) i = _
  rw [if_pos rfl]
theorem nwL0 {M : Mem} {nT : Nat} {a : Int32} {i : Nat} : gL (nwT M (189 + 4 * nT) a) (189 + 4 * nT) i = 0 := by
  show (if 189 + 4 * nT = 189 + 4 * nT ∨ _ then (fun _ => 0) else _) i = _
  rw [if_pos (Or.inl rfl)]
theorem cntD_lt {M M' : Mem} : ∀ n, (∀ i, i < n → gI M' 138 i = gI M 138 i) → cntD M' n = cntD M n
  | 0, _ => rfl
  | n + 1, k => by
    unfold cntD
    rw [cntD_lt n (fun i hi => k i (by omega)), k n (by omega)]
theorem RT1.at {M M' : Mem} {t : Nat} (h : RT1 M t) (k1 : ∀ q, q ∈ [137, 138, 139, 140, 141, 142, 143, 144, 145, 147, 149, 150, 152] → gI M' q t = gI M q t) (k2 : ∀ q i, q ∈ [153, 154] → gI M' q i = gI M q i) (k3 : ∀ j i, j ≤ 2 → gI M' (189 + 4 * t + j) i = gI M (189 + 4 * t + j) i) (l1 : ∀ j i, j ≤ 3 → gL M' (189 + 4 * t + j) i = gL M (189 + 4 * t + j) i) (l2 : ∀ i, gL M' 146 i = gL M 146 i) (b1 : gB M' 148 t = gB M 148 t) (b2 : ∀ i, gB M' 151 i = gB M 151 i) : RT1 M' t := by
  have k0 : ∀ i, gI M' (189 + 4 * t) i = gI M (189 + 4 * t) i := fun i => k3 0 i (by decide)
  have l0 : ∀ i, gL M' (189 + 4 * t) i = gL M (189 + 4 * t) i := fun i => l1 0 i (by decide)
  unfold RT1 RTry at h ⊢
  simp only [k0, l0, l1 3 _ (by decide), k3 1 _ (by decide), k3 2 _ (by decide), k2 153 _ (by decide), k2 154 _ (by decide), k1 137 (by decide), k1 138 (by decide), k1 139 (by decide), k1 140 (by decide), k1 141 (by decide), k1 142 (by decide), k1 143 (by decide), k1 144 (by decide), k1 145 (by decide), k1 147 (by decide), k1 149 (by decide), k1 150 (by decide), k1 152 (by decide), l2, b1, b2]
  exact h
theorem s_submit : S_submit Rel := by
  intro nT M a hR
  rcases ix3 a (n := 16) (by decide) with ⟨h, -⟩ | ⟨t, ht, rfl, h⟩
  · refine ⟨-2, M, M, nT, ?_, ?_, hR⟩
    · unfold f_X8_submit
      simp only [trade8, h, sb_v, bI_f, if_true]
    · unfold f_X9_submit
      simp only [trade9, h, sb_v, bI_f, if_true]
  obtain ⟨e, hC, hV, hH, hTr, hRu, hN, ⟨k1, k2, k3, k4, k5⟩, hMi⟩ := hR
  have hR : Rel nT M := ⟨e, hC, hV, hH, hTr, hRu, hN, ⟨k1, k2, k3, k4, k5⟩, hMi⟩
  by_cases hn : nT = 20
  · subst hn
    refine ⟨-3, M, M, 20, ?_, ?_, hR⟩
    · unfold f_X8_submit
      simp only [trade8, h, sb_v, bI_t, i10, if_false, k2]
      rw [if_neg (show ¬ nI 20 < 20 from nI_nlt (b := 20) (by decide) (by decide))]
    · unfold f_X9_submit
      simp only [trade9, h, sb_v, bI_t, i10, if_false, k3]
      rw [if_pos (show nI 20 = 20 from rfl)]
  · have hn20 : nT < 20 := by omega
    have hcl := nI_clamp (show nT < 2 ^ 31 by omega)
    have hin := inR_nI hn20 (by decide)
    obtain ⟨M1, hM1⟩ : ∃ M1, M1 = sI (nwT M (189 + 4 * nT) (nI t)) 0 8 (nI (nT + 1)) := ⟨_, rfl⟩
    obtain ⟨M2, hM2⟩ : ∃ M2, M2 = sI (sI (sI (sI (sI (sI M1 137 nT (nI t)) 138 nT 0) 143 nT (-1)) 144 nT (-1)) 145 nT (-1)) 119 18 (nI (nT + 1)) := ⟨_, rfl⟩
    have r0 : gI M1 119 18 = nI nT := by rw [hM1, gI_q (by decide), nwI (by omega)]; exact k3
    refine ⟨nI nT, M1, M2, nT + 1, ?_, ?_, ?_⟩
    · unfold f_X8_submit
      simp only [trade8, h, sb_v, bI_t, i10, if_false, k2]
      rw [if_pos (show nI nT < 20 from nI_lt (b := 20) hn20 (by decide))]
      simp only [beq_self_eq_true, gd_t, decide_eq_true hn20, lt_v, nwI (show 0 < 189 + 4 * nT by omega), k2, nI_1, gI_s, nI_pred, ← hM1]
    · unfold f_X9_submit
      have g1 : gI (sI M1 137 nT (nI t)) 119 18 = nI nT := r0
      have g2 : gI (sI (sI M1 137 nT (nI t)) 138 nT 0) 119 18 = nI nT := r0
      have g3 : gI (sI (sI (sI M1 137 nT (nI t)) 138 nT 0) 143 nT (-1)) 119 18 = nI nT := r0
      have g4 : gI (sI (sI (sI (sI M1 137 nT (nI t)) 138 nT 0) 143 nT (-1)) 144 nT (-1)) 119 18 = nI nT := r0
      have g5 : gI (sI (sI (sI (sI (sI M1 137 nT (nI t)) 138 nT 0) 143 nT (-1)) 144 nT (-1)) 145 nT (-1)) 119 18 = nI nT := r0
      simp only [trade9, h, sb_v, bI_t, i10, if_false, r0]
      rw [if_neg (show ¬ nI nT = 20 from fun z => hn ((nI_eq (b := 20) (by omega) (by decide)).mp z))]
      simp only [hin, gd_t, lt_v, hcl, g1, g2, g3, g4, g5, nI_1, gI_s, nI_pred, ← hM2]
    · have oI : ∀ q i, q < 189 + 4 * nT → q ∉ [0, 119, 137, 138, 143, 144, 145] → gI M2 q i = gI M q i := by
        intro q i h1 h2
        simp only [List.mem_cons, List.not_mem_nil, or_false, not_or] at h2
        obtain ⟨z0, z1, z2, z3, z4, z5, z6⟩ := h2
        rw [hM2, gI_q z1, gI_q z6, gI_q z5, gI_q z4, gI_q z3, gI_q z2, hM1, gI_q z0, nwI h1]
      have o119 : ∀ i, i ≠ 18 → gI M2 119 i = gI M 119 i := fun i hi => by
        rw [hM2, gI_i hi, gI_q (by decide), gI_q (by decide), gI_q (by decide), gI_q (by decide), gI_q (by decide), hM1, gI_q (by decide), nwI (by omega)]
      have o0 : ∀ i, i ≠ 8 → gI M2 0 i = gI M 0 i := fun i hi => by
        rw [hM2, gI_q (by decide), gI_q (by decide), gI_q (by decide), gI_q (by decide), gI_q (by decide), gI_q (by decide), hM1, gI_i hi, nwI (by omega)]
      have oX : ∀ q i, q ∈ [137, 138, 143, 144, 145] → i ≠ nT → gI M2 q i = gI M q i := by
        intro q i h1 h2
        have h9 : q ≠ 119 := by rintro rfl; exact absurd h1 (by decide)
        have h0 : q ≠ 0 := by rintro rfl; exact absurd h1 (by decide)
        have hq : q < 189 + 4 * nT := by
          simp only [List.mem_cons, List.not_mem_nil, or_false] at h1
          omega
        have st : ∀ (N : Mem) (r : Nat) (v : Int32), gI (sI N r nT v) q i = gI N q i := fun N r v => by
          by_cases z : q = r
          · subst z; exact gI_i h2
          · exact gI_q z
        rw [hM2, gI_q h9, st, st, st, st, st, hM1, gI_q h0, nwI hq]
      have oL : ∀ q i, q < 189 + 4 * nT → gL M2 q i = gL M q i := fun q i hq => by
        rw [hM2]
        show gL M1 q i = _
        rw [hM1]
        exact nwL (a := nI t) hq
      have oB : ∀ q i, gB M2 q i = gB M q i := fun q i => by rw [hM2, hM1]; rfl
      have nI0 : ∀ i, gI M2 (189 + 4 * nT) i = tkI (nI t) i := fun i => by
        rw [hM2, gI_q (by omega), gI_q (by omega), gI_q (by omega), gI_q (by omega), gI_q (by omega), gI_q (by omega), hM1, gI_q (by omega), nwI0]
      have nL0 : ∀ i, gL M2 (189 + 4 * nT) i = 0 := fun i => by rw [hM2]; show gL M1 _ _ = _; rw [hM1]; exact nwL0 (a := nI t)
      have v137 : gI M2 137 nT = nI t := by
        rw [hM2, gI_q (by decide), gI_q (by decide), gI_q (by decide), gI_q (by decide), gI_q (by decide), gI_s]
      have v138 : gI M2 138 nT = 0 := by
        rw [hM2, gI_q (by decide), gI_q (by decide), gI_q (by decide), gI_q (by decide), gI_s]
      have v143 : gI M2 143 nT = -1 := by
        rw [hM2, gI_q (by decide), gI_q (by decide), gI_q (by decide), gI_s]
      have v144 : gI M2 144 nT = -1 := by
        rw [hM2, gI_q (by decide), gI_q (by decide), gI_s]
      have v145 : gI M2 145 nT = -1 := by
        rw [hM2, gI_q (by decide), gI_s]
      have mem : ∀ (l : List Nat) (q : Nat), q ∈ l → (∀ x ∈ l, x < 189 ∧ x ∉ [0, 119, 137, 138, 143, 144, 145]) → ∀ i, gI M2 q i = gI M q i := fun l q hq hl i => oI q i (by have := (hl q hq).1; omega) (hl q hq).2
      have memL : ∀ (l : List Nat) (q : Nat), q ∈ l → (∀ x ∈ l, x < 189) → ∀ i, gL M2 q i = gL M q i := fun l q hq hl i => oL q i (by have := hl q hq; omega)
      obtain ⟨f1, f2, f3, f4, f5⟩ := k5 nT (Nat.le_refl nT) hn20
      obtain ⟨m1, m2, m3, m4, m5, m6, w, w1, w2, w3, w4⟩ := hMi
      refine ⟨e, hC.ag (fun q i hq => mem _ q hq (by decide) i) (fun q i hq => memL _ q hq (by decide) i), hV.ag (fun q i hq => mem _ q hq (by decide) i), hH.ag (fun q i hq => mem _ q hq (by decide) i), hTr.ag (fun q i hq => mem _ q hq (by decide) i), hRu.ag (fun q i hq => mem _ q hq (by decide) i) (o119 13 (by decide)) (fun q i hq => memL _ q hq (by decide) i), hN.ag (fun q i hq => mem _ q hq (by decide) i) (o119 42 (by decide)) (fun q i hq => memL _ q hq (by decide) i), ⟨by omega, ?_, ?_, fun t' ht' => ?_, fun t' h1 h2 => ?_⟩, ?_⟩
      · rw [hM2, gI_q (by decide), gI_q (by decide), gI_q (by decide), gI_q (by decide), gI_q (by decide), gI_q (by decide), hM1, gI_s]
      · rw [hM2, gI_s]
      · by_cases z : t' = nT
        · subst z
          refine ⟨⟨t, ht, nI0 0, v137⟩, ⟨0, by decide, nI0 1, v138⟩, (nI0 2).trans ?_, (nI0 3).trans ?_, (nI0 4).trans ?_, (nI0 5).trans ?_, (nI0 6).trans v143.symm, (nI0 7).trans v144.symm, (nI0 8).trans v145.symm, ⟨(nI0 9).trans ?_, fun z => ?_, fun _ => ⟨nL0 11, nI0 13⟩⟩, fun z => ?_, fun z => ?_, fun _ => v143⟩
          · rw [oI 139 _ (by omega) (by decide), f1]; rfl
          · rw [oI 140 _ (by omega) (by decide), f2]; rfl
          · rw [oI 141 _ (by omega) (by decide), f3]; rfl
          · rw [oI 142 _ (by omega) (by decide), f4]; rfl
          · rw [oB, f5]; rfl
          · rw [oB, f5] at z; cases z
          · rw [v138] at z; exact absurd z (by decide)
          · rw [v138] at z; exact absurd z (by decide)
        · have hlt : t' < nT := by omega
          refine (k4 t' hlt).at (fun q hq => ?_) (fun q i hq => mem _ q hq (by decide) i) (fun j i hj => oI _ i (by omega) ?_) (fun j i hj => oL _ i (by omega)) (fun i => oL 146 i (by omega)) (oB _ _) (fun i => oB _ _)
          · by_cases y : q ∈ [137, 138, 143, 144, 145]
            · exact oX q t' y z
            · refine oI q t' ?_ ?_
              · simp only [List.mem_cons, List.not_mem_nil, or_false] at hq
                omega
              · simp only [List.mem_cons, List.not_mem_nil, or_false] at hq y ⊢
                omega
          · simp only [List.mem_cons, List.not_mem_nil, or_false]
            omega
      · rw [oI 139 _ (by omega) (by decide), oI 140 _ (by omega) (by decide), oI 141 _ (by omega) (by decide), oI 142 _ (by omega) (by decide), oB]
        exact k5 t' (by omega) h2
      · refine ⟨(o0 9 (by decide)).trans m1, (o119 38 (by decide)).trans m2, ?_, fun i hi => ?_, ?_, ?_, w, w1, w2, (o0 12 (by decide)).trans w3, (o119 37 (by decide)).trans w4⟩
        · rw [m3, show cntD M2 (nT + 1) = cntD M2 nT + (if gI M2 138 nT = 1 then 1 else 0) from rfl, v138, if_neg (by decide), cntD_lt nT (fun i hi => oX 138 i (by decide) (by omega))]
          rfl
        · rw [oI 118 _ (by omega) (by decide), oI 155 _ (by omega) (by decide)]
          exact m4 i hi
        · rw [o0 10 (by decide), o119 40 (by decide)]; exact m5
        · rw [o0 11 (by decide), o119 41 (by decide)]; exact m6

theorem those_lp {qd qs : Nat} (hd : qs + 5 ≤ qd ∨ qd + 5 ≤ qs) (w : Int64) : ∀ r k F (M : Mem), k + r = 40 → r < F → ∃ M', f_X1_takeThose_3 qd qs F M w (nI k) = some M' ∧ Ag (fun p i => ¬ (qd + 1 ≤ p ∧ p ≤ qd + 4 ∧ k ≤ i ∧ i < 40 ∧ bt w i = true)) M M' ∧
    ∀ c, k ≤ c → c < 40 → bt w c = true → gI M' (qd + 1) c = gI M (qs + 1) c ∧ gL M' (qd + 2) c = gL M (qs + 2) c ∧ gI M' (qd + 3) c = gI M (qs + 3) c ∧ gI M' (qd + 4) c = gI M (qs + 4) c
  | 0, k, F, M, hk, hF => by
    obtain ⟨F, rfl⟩ : ∃ f, F = f + 1 := ⟨F - 1, by omega⟩
    have : k = 40 := by omega
    subst this
    refine ⟨M, ?_, Ag.rf, fun c h1 h2 => absurd h1 (by omega)⟩
    rw [f_X1_takeThose_3, if_pos (by decide)]
  | r + 1, k, F, M, hk, hF => by
    obtain ⟨F, rfl⟩ : ∃ f, F = f + 1 := ⟨F - 1, by omega⟩
    have hk40 : k < 40 := by omega
    rw [f_X1_takeThose_3, if_neg (show ¬ (40 : Int32) ≤ nI k from nI_ge (b := 40) (by omega) (by decide)), among (by omega), sb_w, inR_nI hk40 (by decide), gd_w, gd_w, gd_w, gd_w, nI_clamp (show k < 2 ^ 31 by omega), putC hk40, sb_w]
    unfold f_X1_takeThose_53
    rw [lt_w, lt_w, nI_1]
    cases hb : bt w k with
    | false =>
      rw [if_pos bI_f]
      obtain ⟨M', h1, h2, h3⟩ := those_lp hd w r (k + 1) F M (by omega) (by omega)
      refine ⟨M', h1, h2.mo (fun p i z y => z ⟨y.1, y.2.1, by omega, y.2.2.2.1, y.2.2.2.2⟩), fun c c1 c2 c3 => ?_⟩
      by_cases z : c = k
      · subst z; rw [hb] at c3; cases c3
      · exact h3 c (by omega) c2 c3
    | true =>
      rw [if_neg (show ¬ bI true = 0 by decide)]
      have A : Ag (fun p i => ¬ (qd + 1 ≤ p ∧ p ≤ qd + 4 ∧ i = k)) M (sI (sI (sL (sI M (qd + 1) k (gI M (qs + 1) k)) (qd + 2) k (gL M (qs + 2) k)) (qd + 3) k (gI M (qs + 3) k)) (qd + 4) k (gI M (qs + 4) k)) := (((Ag.rf.tI (by omega)).tL (by omega)).tI (by omega)).tI (by omega)
      have v1 : gI (sI (sI (sL (sI M (qd + 1) k (gI M (qs + 1) k)) (qd + 2) k (gL M (qs + 2) k)) (qd + 3) k (gI M (qs + 3) k)) (qd + 4) k (gI M (qs + 4) k)) (qd + 1) k = gI M (qs + 1) k := by simp (disch := omega) only [gI_s, gI_ne, gI_tL]
      have v2 : gL (sI (sI (sL (sI M (qd + 1) k (gI M (qs + 1) k)) (qd + 2) k (gL M (qs + 2) k)) (qd + 3) k (gI M (qs + 3) k)) (qd + 4) k (gI M (qs + 4) k)) (qd + 2) k = gL M (qs + 2) k := by simp (disch := omega) only [gL_s, gL_ne, gL_tI]
      have v3 : gI (sI (sI (sL (sI M (qd + 1) k (gI M (qs + 1) k)) (qd + 2) k (gL M (qs + 2) k)) (qd + 3) k (gI M (qs + 3) k)) (qd + 4) k (gI M (qs + 4) k)) (qd + 3) k = gI M (qs + 3) k := by simp (disch := omega) only [gI_s, gI_ne, gI_tL]
      have v4 : gI (sI (sI (sL (sI M (qd + 1) k (gI M (qs + 1) k)) (qd + 2) k (gL M (qs + 2) k)) (qd + 3) k (gI M (qs + 3) k)) (qd + 4) k (gI M (qs + 4) k)) (qd + 4) k = gI M (qs + 4) k := by simp (disch := omega) only [gI_s, gI_ne, gI_tL]
      generalize sI (sI (sL (sI M (qd + 1) k (gI M (qs + 1) k)) (qd + 2) k (gL M (qs + 2) k)) (qd + 3) k (gI M (qs + 3) k)) (qd + 4) k (gI M (qs + 4) k) = X at *
      obtain ⟨M', h1, h2, h3⟩ := those_lp hd w r (k + 1) F X (by omega) (by omega)
      refine ⟨M', h1, ?_, fun c c1 c2 c3 => ?_⟩
      · refine (A.mo (fun p i z y => z ⟨y.1, y.2.1, by omega, by omega, by rw [y.2.2]; exact hb⟩)).tr (h2.mo (fun p i z y => z ⟨y.1, y.2.1, by omega, y.2.2.2.1, y.2.2.2.2⟩))
      · by_cases z : c = k
        · subst z
          rw [h2.i (by omega), h2.l (by omega), h2.i (by omega), h2.i (by omega)]
          exact ⟨v1, v2, v3, v4⟩
        · obtain ⟨x1, x2, x3, x4⟩ := h3 c (by omega) c2 c3
          rw [x1, x2, x3, x4, A.i (by omega), A.l (by omega), A.i (by omega), A.i (by omega)]
          exact ⟨rfl, rfl, rfl, rfl⟩
theorem those_eq {qd qs : Nat} (hd : qs + 5 ≤ qd ∨ qd + 5 ≤ qs) (w : Int64) (M : Mem) : ∃ M', f_X1_takeThose qd qs M w = some M' ∧ Ag (fun p i => ¬ (qd + 1 ≤ p ∧ p ≤ qd + 4 ∧ i < 40 ∧ bt w i = true)) M M' ∧
    ∀ c, c < 40 → bt w c = true → gI M' (qd + 1) c = gI M (qs + 1) c ∧ gL M' (qd + 2) c = gL M (qs + 2) c ∧ gI M' (qd + 3) c = gI M (qs + 3) c ∧ gI M' (qd + 4) c = gI M (qs + 4) c := by
  obtain ⟨M', h1, h2, h3⟩ := those_lp hd w 40 0 FU M (by omega) (by unfold FU; omega)
  exact ⟨M', h1, h2.mo (fun p i z y => z ⟨y.1, y.2.1, y.2.2.2⟩), fun c hc hb => h3 c (by omega) hc hb⟩
/-- cells of the class at qc as the reference sees slot j's -/
def WS (qc j : Nat) (M N : Mem) : Prop := ∀ c, c < 40 → CC (gI M (qc + 1) c) (gL M (qc + 2) c) (gI M (qc + 3) c) (gI M (qc + 4) c) (hN N 163 (40 * j) c) (vN N 163 (40 * j) c) (kN N 163 (40 * j) c) (gN N 163 (40 * j) c)
theorem WS.ag {qc j : Nat} {M N N' : Mem} (h : WS qc j M N) (B : Ag (fun q i => ¬ (q = 119 ∧ i = 46)) N N') : WS qc j M N' := by
  intro c hc
  obtain ⟨e1, e2, e3, e4⟩ := xN_ag (b := 163) (o := 40 * j) B (fun q i k => by unfold pcD at k; omega) hc
  rw [e1, e2, e3, e4]
  exact h c hc
section
variable {j : Nat} {M N : Mem}
theorem gk_lp (hj : j < 4) (W : WS 113 j M N) (hs : gI N 119 46 = nI j) (f : Int32) : ∀ r k F F' s, k + r = 40 → r < F → r < F' → ∃ x, f_X1_gramsOfKind_5 113 M F f s (nI k) = some x ∧ f_X9_gramsOf_11 F' N 2 f s (nI k) = some (x, N)
  | 0, k, F, F', s, hk, hF, hF' => by
    obtain ⟨F, rfl⟩ : ∃ f, F = f + 1 := ⟨F - 1, by omega⟩
    obtain ⟨F', rfl⟩ : ∃ f, F' = f + 1 := ⟨F' - 1, by omega⟩
    have : k = 40 := by omega
    subst this
    rw [f_X1_gramsOfKind_5, f_X9_gramsOf_11, if_pos (by decide), if_pos (by decide)]
    exact ⟨s, rfl, rfl⟩
  | r + 1, k, F, F', s, hk, hF, hF' => by
    obtain ⟨F, rfl⟩ : ∃ f, F = f + 1 := ⟨F - 1, by omega⟩
    obtain ⟨F', rfl⟩ : ∃ f, F' = f + 1 := ⟨F' - 1, by omega⟩
    have hk40 : k < 40 := by omega
    obtain ⟨c1, c2, c3, c4, c5, c6⟩ := W k hk40
    rw [f_X1_gramsOfKind_5, f_X9_gramsOf_11, if_neg (show ¬ (40 : Int32) ≤ nI k from nI_ge (b := 40) (by omega) (by decide)), if_neg (show ¬ (40 : Int32) ≤ nI k from nI_ge (b := 40) (by omega) (by decide)), hn9 hj hk40 hs, sb_w, kn9 hj hk40 hs, sb_w, inR_nI hk40 (by decide), gd_w, nI_clamp (show k < 2 ^ 31 by omega), ← c1, if_pos (show (2 : Int32) = 2 from rfl)]
    unfold f_X1_gramsOfKind_44 f_X9_gramsOf_50 f_X9_gramsOf_63 f_X9_gramsOf_64
    rw [vn9 hj hk40 hs, sb_w]
    simp only [gd_w, lt_w, nI_1, Int64.add_zero]
    by_cases z : gI M (113 + 1) k = 2
    · rw [if_pos z, if_pos z, (c5 z).1, ← c2]
      by_cases y : kN N 163 (40 * j) k = f
      · rw [if_pos y, if_pos y]
        exact gk_lp hj W hs f r (k + 1) F F' _ (by omega) (by omega) (by omega)
      · rw [if_neg y, if_neg y]
        exact gk_lp hj W hs f r (k + 1) F F' _ (by omega) (by omega) (by omega)
    · rw [if_neg z, if_neg z]
      exact gk_lp hj W hs f r (k + 1) F F' _ (by omega) (by omega) (by omega)
theorem gg_lp (hj : j < 4) (W : WS 113 j M N) (hs : gI N 119 46 = nI j) (f : Int32) : ∀ r k F F' s, k + r = 40 → r < F → r < F' → ∃ x, f_X1_gramsOfGrower_5 113 M F f s (nI k) = some x ∧ f_X9_gramsOf_11 F' N 3 f s (nI k) = some (x, N)
  | 0, k, F, F', s, hk, hF, hF' => by
    obtain ⟨F, rfl⟩ : ∃ f, F = f + 1 := ⟨F - 1, by omega⟩
    obtain ⟨F', rfl⟩ : ∃ f, F' = f + 1 := ⟨F' - 1, by omega⟩
    have : k = 40 := by omega
    subst this
    rw [f_X1_gramsOfGrower_5, f_X9_gramsOf_11, if_pos (by decide), if_pos (by decide)]
    exact ⟨s, rfl, rfl⟩
  | r + 1, k, F, F', s, hk, hF, hF' => by
    obtain ⟨F, rfl⟩ : ∃ f, F = f + 1 := ⟨F - 1, by omega⟩
    obtain ⟨F', rfl⟩ : ∃ f, F' = f + 1 := ⟨F' - 1, by omega⟩
    have hk40 : k < 40 := by omega
    obtain ⟨c1, c2, c3, c4, c5, c6⟩ := W k hk40
    rw [f_X1_gramsOfGrower_5, f_X9_gramsOf_11, if_neg (show ¬ (40 : Int32) ≤ nI k from nI_ge (b := 40) (by omega) (by decide)), if_neg (show ¬ (40 : Int32) ≤ nI k from nI_ge (b := 40) (by omega) (by decide)), hn9 hj hk40 hs, sb_w, gn9 hj hk40 hs, sb_w, inR_nI hk40 (by decide), gd_w, nI_clamp (show k < 2 ^ 31 by omega), ← c1, if_neg (show ¬ (3 : Int32) = 2 by decide)]
    unfold f_X1_gramsOfGrower_44 f_X9_gramsOf_50 f_X9_gramsOf_63 f_X9_gramsOf_64
    rw [vn9 hj hk40 hs, sb_w]
    simp only [gd_w, lt_w, nI_1, Int64.add_zero]
    by_cases z : gI M (113 + 1) k = 2
    · rw [if_pos z, if_pos z, (c5 z).2, ← c2]
      by_cases y : gN N 163 (40 * j) k = f
      · rw [if_pos y, if_pos y]
        exact gg_lp hj W hs f r (k + 1) F F' _ (by omega) (by omega) (by omega)
      · rw [if_neg y, if_neg y]
        exact gg_lp hj W hs f r (k + 1) F F' _ (by omega) (by omega) (by omega)
    · rw [if_neg z, if_neg z]
      exact gg_lp hj W hs f r (k + 1) F F' _ (by omega) (by omega) (by omega)
theorem e01 : ((0 : Int32) = 1) = False := eq_false (by decide)
theorem e02 : ((0 : Int32) = 2) = False := eq_false (by decide)
theorem e12 : ((1 : Int32) = 2) = False := eq_false (by decide)
theorem e20 : ((2 : Int32) = 0) = False := eq_false (by decide)
theorem e21 : ((2 : Int32) = 1) = False := eq_false (by decide)
theorem e30 : ((3 : Int32) = 0) = False := eq_false (by decide)
theorem e31 : ((3 : Int32) = 1) = False := eq_false (by decide)
theorem e32 : ((3 : Int32) = 2) = False := eq_false (by decide)
theorem in_of {a : Int32} {n : Nat} (hn : n < 2 ^ 31) (h : inR a n = true) : ∃ c, c < n ∧ a = nI c := by
  rcases ix3 a hn with ⟨z, -⟩ | ⟨c, hc, e, -⟩
  · rw [z] at h; cases h
  · exact ⟨c, hc, e⟩
theorem kept1 {n i : Nat} (hj : j < 4) (hi : i < n) (n10 : n ≤ 10) (W : WS 113 j M N) (hs : gI N 119 46 = nI j) (h13 : gI N 119 13 = nI n) (ok : okR (gI N 133 i) (gI N 134 i) (gI N 135 i)) (r1 : gI M 18 i = gI N 133 i) (r2 : gI M 19 i = gI N 134 i) (r3 : gI M 20 i = gI N 135 i) (r4 : gL M 21 i = gL N 136 i) :
    ∃ b N', f_X4_isKept 113 M (nI i) = some b ∧ (∀ F, f_X9_breaks_7 (F + 1) N (nI j) (nI i) = if b = true then f_X9_breaks_7 F N' (nI j) (nI (i + 1)) else some (nI i, N')) ∧ Ag (fun q i => ¬ (q = 119 ∧ i = 46)) N N' ∧ gI N' 119 46 = nI j := by
  have c31 : i < 2 ^ 31 := by omega
  have ci : inR (nI i) 10 = true := inR_nI (by omega) (by decide)
  have head : ∀ F, f_X9_breaks_7 (F + 1) N (nI j) (nI i) = (if (gI N 133 i) = 0 then (Option.bind (f_X9_holdsNow N (gI N 134 i)) fun r_6 => if r_6 = 1 then (Option.bind (f_X9_numberNow N (gI N 134 i)) fun r_7 => if r_7 < (gL N 136 i) then (f_X9_breaks_68 (f_X9_breaks_7 F) N (nI j) (nI i) 0) else (f_X9_breaks_63 (f_X9_breaks_7 F) N (nI j) (nI i))) else (f_X9_breaks_63 (f_X9_breaks_7 F) N (nI j) (nI i))) else (if (gI N 133 i) = 1 then (Option.bind (f_X9_holdsNow N (gI N 134 i)) fun r_2 => if r_2 = 1 then (Option.bind (f_X9_holdsNow N (gI N 135 i)) fun r_3 => if r_3 = 1 then (Option.bind (f_X9_numberNow N (gI N 134 i)) fun r_4 => Option.bind (f_X9_numberNow N (gI N 135 i)) fun r_5 => if r_5 < r_4 then (f_X9_breaks_122 (f_X9_breaks_7 F) N (nI j) (nI i) 0) else (f_X9_breaks_117 (f_X9_breaks_7 F) N (nI j) (nI i))) else (f_X9_breaks_117 (f_X9_breaks_7 F) N (nI j) (nI i))) else (f_X9_breaks_117 (f_X9_breaks_7 F) N (nI j) (nI i))) else (Option.bind (f_X9_gramsOf N (nI j) (gI N 133 i) (gI N 134 i)) fun r_1 => if r_1.1 < (gL r_1.2 136 i) then (f_X9_breaks_154 (f_X9_breaks_7 F) r_1.2 (nI j) (nI i) 0) else (f_X9_breaks_154 (f_X9_breaks_7 F) r_1.2 (nI j) (nI i) 1)))) := by
    intro F
    rw [f_X9_breaks_7, h13, if_neg (nI_ge hi (by omega))]
    simp only [ci, gd_w, lt_w, nI_clamp c31]
  have t0 : ∀ F (N' : Mem), f_X9_breaks_156 (f_X9_breaks_7 F) N' (nI j) (nI i) 0 = some (nI i, N') := fun F N' => by
    unfold f_X9_breaks_156; rw [if_pos rfl]
  have t1 : ∀ F (N' : Mem), f_X9_breaks_156 (f_X9_breaks_7 F) N' (nI j) (nI i) 1 = f_X9_breaks_7 F N' (nI j) (nI (i + 1)) := fun F N' => by
    unfold f_X9_breaks_156; rw [if_neg (by decide), lt_w, nI_1]
  unfold f_X4_isKept
  simp only [ci, gd_w, nI_clamp c31, r1, r2, r3, r4]
  rcases ok with ⟨k0, ka⟩ | ⟨k0, ka, kb⟩ | ⟨k0, ka⟩ | ⟨k0, ka⟩
  · obtain ⟨c, hc, ec⟩ := in_of (n := 40) (by decide) ka
    obtain ⟨x1, x2, -⟩ := W c hc
    simp only [head, k0, ec, inR_nI hc (by decide), nI_clamp (show c < 2 ^ 31 by omega), gd_w, if_true, hn9 hj hc hs, vn9 hj hc hs, sb_w, f_X9_breaks_68, f_X9_breaks_63, f_X4_isKept_68, t0, t1]
    rw [x1, x2]
    by_cases z : hN N 163 (40 * j) c = 1
    · rw [if_pos z]
      by_cases y : vN N 163 (40 * j) c < gL N 136 i
      · refine ⟨false, N, by rw [if_pos y], fun F => ?_, Ag.rf, hs⟩
        rw [if_pos z, if_pos y, if_neg (by decide)]
      · refine ⟨true, N, by rw [if_neg y], fun F => ?_, Ag.rf, hs⟩
        rw [if_pos z, if_neg y, if_pos rfl]
    · rw [if_neg z]
      refine ⟨true, N, rfl, fun F => ?_, Ag.rf, hs⟩
      rw [if_neg z, if_pos rfl]
  · obtain ⟨c, hc, ec⟩ := in_of (n := 40) (by decide) ka
    obtain ⟨c', hc', ec'⟩ := in_of (n := 40) (by decide) kb
    obtain ⟨x1, x2, -⟩ := W c hc
    obtain ⟨y1, y2, -⟩ := W c' hc'
    simp only [head, k0, ec, ec', inR_nI hc (by decide), inR_nI hc' (by decide), nI_clamp (show c < 2 ^ 31 by omega), nI_clamp (show c' < 2 ^ 31 by omega), gd_w, i10, if_true, if_false, hn9 hj hc hs, vn9 hj hc hs, hn9 hj hc' hs, vn9 hj hc' hs, sb_w, f_X9_breaks_122, f_X9_breaks_117, f_X4_isKept_130, t0, t1]
    rw [x1, x2, y1, y2]
    by_cases z : hN N 163 (40 * j) c = 1
    · rw [if_pos z]
      by_cases z' : hN N 163 (40 * j) c' = 1
      · rw [if_pos z']
        by_cases y : vN N 163 (40 * j) c' < vN N 163 (40 * j) c
        · refine ⟨false, N, by rw [if_pos y], fun F => ?_, Ag.rf, hs⟩
          rw [if_pos z, if_pos z', if_pos y, if_neg (by decide)]
        · refine ⟨true, N, by rw [if_neg y], fun F => ?_, Ag.rf, hs⟩
          rw [if_pos z, if_pos z', if_neg y, if_pos rfl]
      · rw [if_neg z']
        refine ⟨true, N, rfl, fun F => ?_, Ag.rf, hs⟩
        rw [if_pos z, if_neg z', if_pos rfl]
    · rw [if_neg z]
      refine ⟨true, N, rfl, fun F => ?_, Ag.rf, hs⟩
      rw [if_neg z, if_pos rfl]
  · have B : Ag (fun q i => ¬ (q = 119 ∧ i = 46)) N (sI N 119 46 (nI j)) := Ag.rf.tI (by omega)
    obtain ⟨x, g1, g2⟩ := gk_lp hj (W.ag B) gI_s (gI N 134 i) 40 0 FU FU 0 (by omega) (by unfold FU; omega) (by unfold FU; omega)
    have g1' : f_X1_gramsOfKind 113 M (gI N 134 i) = some x := g1
    have g2' : f_X9_gramsOf N (nI j) 2 (gI N 134 i) = some (x, sI N 119 46 (nI j)) := by
      unfold f_X9_gramsOf
      rw [lt_w]
      exact g2
    have b136 : gL (sI N 119 46 (nI j)) 136 i = gL N 136 i := gL_tI
    simp only [head, k0, e20, e21, if_true, if_false, g1', g2', sb_w, f_X9_breaks_154, t0, t1, b136]
    by_cases y : x < gL N 136 i
    · refine ⟨false, _, by rw [if_pos y], fun F => ?_, B, gI_s⟩
      rw [if_pos y, if_neg (by decide)]
    · refine ⟨true, _, by rw [if_neg y], fun F => ?_, B, gI_s⟩
      rw [if_neg y, if_pos rfl]
  · have B : Ag (fun q i => ¬ (q = 119 ∧ i = 46)) N (sI N 119 46 (nI j)) := Ag.rf.tI (by omega)
    obtain ⟨x, g1, g2⟩ := gg_lp hj (W.ag B) gI_s (gI N 134 i) 40 0 FU FU 0 (by omega) (by unfold FU; omega) (by unfold FU; omega)
    have g1' : f_X1_gramsOfGrower 113 M (gI N 134 i) = some x := g1
    have g2' : f_X9_gramsOf N (nI j) 3 (gI N 134 i) = some (x, sI N 119 46 (nI j)) := by
      unfold f_X9_gramsOf
      rw [lt_w]
      exact g2
    have b136 : gL (sI N 119 46 (nI j)) 136 i = gL N 136 i := gL_tI
    simp only [head, k0, e30, e31, e32, if_true, if_false, g1', g2', sb_w, f_X9_breaks_154, t0, t1, b136]
    by_cases y : x < gL N 136 i
    · refine ⟨false, _, by rw [if_pos y], fun F => ?_, B, gI_s⟩
      rw [if_pos y, if_neg (by decide)]
    · refine ⟨true, _, by rw [if_neg y], fun F => ?_, B, gI_s⟩
      rw [if_neg y, if_pos rfl]
end
theorem br_lp {j n : Nat} {M : Mem} (hj : j < 4) (n10 : n ≤ 10) (h17 : gI M 17 4 = nI n) : ∀ r i F F' (N : Mem), WS 113 j M N → gI N 119 46 = nI j → gI N 119 13 = nI n → (∀ i, i < n → okR (gI N 133 i) (gI N 134 i) (gI N 135 i) ∧ gI M 18 i = gI N 133 i ∧ gI M 19 i = gI N 134 i ∧ gI M 20 i = gI N 135 i ∧ gL M 21 i = gL N 136 i) → i + r = n → r < F → r < F' →
    ∃ s N', f_X4_leastBroken_2 113 M F (nI i) = some s ∧ f_X9_breaks_7 F' N (nI j) (nI i) = some (s, N') ∧ Ag (fun q i => ¬ (q = 119 ∧ i = 46)) N N' ∧ (s = -1 ∨ ∃ i, i < 10 ∧ s = nI i)
  | 0, i, F, F', N, W, hs, h13, hr, hi, hF, hF' => by
    obtain ⟨F, rfl⟩ : ∃ f, F = f + 1 := ⟨F - 1, by omega⟩
    obtain ⟨F', rfl⟩ : ∃ f, F' = f + 1 := ⟨F' - 1, by omega⟩
    have : i = n := by omega
    subst this
    rw [f_X4_leastBroken_2, f_X9_breaks_7, h17, h13, if_pos (nI_le (Nat.le_refl _) (by omega)), if_pos (nI_le (Nat.le_refl _) (by omega))]
    exact ⟨-1, N, rfl, rfl, Ag.rf, Or.inl rfl⟩
  | r + 1, i, F, F', N, W, hs, h13, hr, hi, hF, hF' => by
    obtain ⟨F, rfl⟩ : ∃ f, F = f + 1 := ⟨F - 1, by omega⟩
    obtain ⟨F', rfl⟩ : ∃ f, F' = f + 1 := ⟨F' - 1, by omega⟩
    obtain ⟨k1, k2, k3, k4, k5⟩ := hr i (by omega)
    obtain ⟨b, N1, e1, e2, B, s1⟩ := kept1 hj (show i < n by omega) n10 W hs h13 k1 k2 k3 k4 k5
    rw [f_X4_leastBroken_2, h17, if_neg (nI_ge (by omega) (by omega)), e1, sb_w, e2]
    cases b with
    | false =>
      rw [if_pos bI_f, if_neg (by decide)]
      exact ⟨nI i, N1, rfl, rfl, B, Or.inr ⟨i, by omega, rfl⟩⟩
    | true =>
      rw [if_neg (show ¬ bI true = 0 by decide), if_pos rfl, lt_w, nI_1]
      obtain ⟨s, N', f1, f2, f3, f4⟩ := br_lp hj n10 h17 r (i + 1) F F' N1 (W.ag B) s1 (by rw [B.i (by omega)]; exact h13) (fun i hi => by
        rw [B.i (by omega), B.i (by omega), B.i (by omega), B.l (by omega)]; exact hr i hi) (by omega) (by omega) (by omega)
      exact ⟨s, N', f1, f2, B.tr f3, f4⟩
theorem brk_eq {q j t k m a D : Nat} {V : Nat → Int32} {M N : Mem} (S : SL q j t k m a D V M N) (hj : j < 4) (h1q : 65 ≤ q) (hq : q + 12 ≤ 113) (C : PCells M N) (Ru : PRul M N) : ∃ s M' N', f_X8_leastBrokenBy q M = some (s, M') ∧ f_X9_breaks N (nI j) = some (s, N') ∧ (s = -1 ∨ ∃ i, i < 10 ∧ s = nI i) ∧ Ag (fun p i => ¬ (114 ≤ p ∧ p ≤ 117)) M M' ∧ Ag (fun p i => ¬ (p = 119 ∧ i = 46)) N N' := by
  obtain ⟨h1, h2, h3, h4, h5, h6, h7, h8, h9, h10, h11, h12, h13, h14, h15, h16, h17, h18, h19, h20⟩ := S
  unfold f_X8_leastBrokenBy f_X9_breaks
  rw [all_eq, sb_w, lt_w]
  have hI : ∀ q' i, gI (tkA 113 2 M) q' i = if i < 40 ∧ (q' = 113 + 1 ∨ q' = 113 + 3 ∨ q' = 113 + 4) then gI M (2 + (q' - 113)) i else gI M q' i := fun q' i => tkA_I (by omega)
  have hL : ∀ q' i, gL (tkA 113 2 M) q' i = if i < 40 ∧ q' = 113 + 2 then gL M (2 + 2) i else gL M q' i := fun q' i => tkA_L
  have A1 : Ag (fun p i => ¬ (114 ≤ p ∧ p ≤ 117)) M (tkA 113 2 M) := by
    intro q' i z
    refine ⟨?_, ?_, rfl⟩
    · rw [hI, if_neg (by omega)]
    · rw [hL, if_neg (by omega)]
  generalize tkA 113 2 M = X at *
  rw [A1.l (by omega)]
  obtain ⟨M2, e2, A2, w2⟩ := those_eq (qd := 113) (qs := q + 1) (by omega) (gL M q 8) X
  rw [e2, sb_w]
  have B : Ag (fun q i => ¬ (q = 119 ∧ i = 46)) N (sI N 119 46 (nI j)) := Ag.rf.tI (by omega)
  have W : WS 113 j M2 N := by
    intro c hc
    have hw := h8 c
    rw [decide_eq_true hc, Bool.true_and] at hw
    unfold hN vN kN gN
    cases hb : gB N 163 (40 * j + c) with
    | true =>
      rw [hb] at hw
      obtain ⟨x1, x2, x3, x4⟩ := w2 c hc hw
      rw [if_pos rfl, if_pos rfl, if_pos rfl, if_pos rfl, x1, x2, x3, x4, A1.i (by omega), A1.l (by omega), A1.i (by omega), A1.i (by omega)]
      exact h9 c hc hb
    | false =>
      rw [hb] at hw
      have nb : ¬ bt (gL M q 8) c = true := by rw [hw]; decide
      rw [if_neg (by decide), if_neg (by decide), if_neg (by decide), if_neg (by decide), A2.i (fun y => nb y.2.2.2), A2.l (fun y => nb y.2.2.2), A2.i (fun y => nb y.2.2.2), A2.i (fun y => nb y.2.2.2), hI, hI, hI, hL, if_pos (by omega), if_pos (by omega), if_pos (by omega), if_pos (by omega)]
      exact C c hc
  obtain ⟨n, n10, r1, r2, r3⟩ := Ru
  have m2 : ∀ p i, p < 114 → gI M2 p i = gI M p i := fun p i hp => by rw [A2.i (by omega), A1.i (by omega)]
  have l2 : ∀ p i, p < 114 → gL M2 p i = gL M p i := fun p i hp => by rw [A2.l (by omega), A1.l (by omega)]
  obtain ⟨s, N', f1, f2, f3, f4⟩ := br_lp (M := M2) hj n10 (by rw [m2 _ _ (by omega)]; exact r1) n 0 FU FU (sI N 119 46 (nI j)) (W.ag B) gI_s (by rw [B.i (by omega)]; exact r2) (fun i hi => by
    rw [B.i (by omega), B.i (by omega), B.i (by omega), B.l (by omega), m2 _ _ (by omega), m2 _ _ (by omega), m2 _ _ (by omega), l2 _ _ (by omega)]; exact r3 i hi) (by omega) (by unfold FU; omega) (by unfold FU; omega)
  have f1' : f_X4_leastBroken 113 M2 = some s := f1
  rw [f1', sb_w]
  exact ⟨s, M2, N', rfl, f2, f4, A1.tr (A2.mo (fun p i z y => z ⟨by omega, by omega⟩)), B.tr f3⟩

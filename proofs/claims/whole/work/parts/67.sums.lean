theorem lt_w {α β : Type} {a : α} {k : α → Option β} : lt a k = k a := by rw [lt]
theorem sb_w {α β : Type} {a : α} {k : α → Option β} : Option.bind (some a) k = k a := by rw [Option.bind]
theorem gd_w {α : Type} {x : Option α} : gd true x = x := by rw [gd]
theorem grK_lp {M : Mem} (hC : RCells M) (f : Int32) : ∀ d k n n' s, k + d = 40 → d < n → d < n' → ∃ r, f_X1_gramsOfKind_5 2 M n f s (nI k) = some r ∧ f_X9_stock_31 M n' 0 f s (nI k) = some r
  | 0, k, n, n', s, hk, hn, hn' => by
    obtain ⟨n, rfl⟩ : ∃ m, n = m + 1 := ⟨n - 1, by omega⟩
    obtain ⟨n', rfl⟩ : ∃ m, n' = m + 1 := ⟨n' - 1, by omega⟩
    have : k = 40 := by omega
    subst this
    rw [f_X1_gramsOfKind_5, f_X9_stock_31, if_pos (show (40 : Int32) ≤ nI 40 by decide), if_pos (show (40 : Int32) ≤ nI 40 by decide)]
    exact ⟨_, rfl, rfl⟩
  | d + 1, k, n, n', s, hk, hn, hn' => by
    obtain ⟨n, rfl⟩ : ∃ m, n = m + 1 := ⟨n - 1, by omega⟩
    obtain ⟨n', rfl⟩ : ∃ m, n' = m + 1 := ⟨n' - 1, by omega⟩
    have hlt : k < 40 := by omega
    have hge : ¬ (40 : Int32) ≤ nI k := nI_ge (b := 40) hlt (by decide)
    obtain ⟨h1, h2, h3, h4, h5, h6⟩ := hC k hlt
    rw [f_X1_gramsOfKind_5, f_X9_stock_31, if_neg hge, if_neg hge]
    unfold f_X1_gramsOfKind_44 f_X9_stock_71 f_X9_stock_85 f_X9_stock_86
    simp only [inR_nI hlt (by decide), gd_t, nI_clamp (show k < 2 ^ 31 by omega), lt_v, nI_1, if_true]
    by_cases z : gI M 3 k = 2
    · rw [if_pos (show gI M (2 + 1) k = 2 from z), if_pos (h1.symm.trans z), show gI M (2 + 3) k = gI M 122 k from (h5 z).1]
      by_cases y : gI M 122 k = f
      · rw [if_pos y, if_pos y, show gL M (2 + 2) k = gL M 121 k from h2]
        exact grK_lp hC f d (k + 1) n n' _ (by omega) (by omega) (by omega)
      · rw [if_neg y, if_neg y, Int64.add_zero]
        exact grK_lp hC f d (k + 1) n n' _ (by omega) (by omega) (by omega)
    · rw [if_neg (show ¬ gI M (2 + 1) k = 2 from z), if_neg (fun y => z (h1.trans y)), Int64.add_zero]
      exact grK_lp hC f d (k + 1) n n' _ (by omega) (by omega) (by omega)
theorem grG_lp {M : Mem} (hC : RCells M) (f : Int32) : ∀ d k n n' s, k + d = 40 → d < n → d < n' → ∃ r, f_X1_gramsOfGrower_5 2 M n f s (nI k) = some r ∧ f_X9_stock_31 M n' 1 f s (nI k) = some r
  | 0, k, n, n', s, hk, hn, hn' => by
    obtain ⟨n, rfl⟩ : ∃ m, n = m + 1 := ⟨n - 1, by omega⟩
    obtain ⟨n', rfl⟩ : ∃ m, n' = m + 1 := ⟨n' - 1, by omega⟩
    have : k = 40 := by omega
    subst this
    rw [f_X1_gramsOfGrower_5, f_X9_stock_31, if_pos (show (40 : Int32) ≤ nI 40 by decide), if_pos (show (40 : Int32) ≤ nI 40 by decide)]
    exact ⟨_, rfl, rfl⟩
  | d + 1, k, n, n', s, hk, hn, hn' => by
    obtain ⟨n, rfl⟩ : ∃ m, n = m + 1 := ⟨n - 1, by omega⟩
    obtain ⟨n', rfl⟩ : ∃ m, n' = m + 1 := ⟨n' - 1, by omega⟩
    have hlt : k < 40 := by omega
    have hge : ¬ (40 : Int32) ≤ nI k := nI_ge (b := 40) hlt (by decide)
    obtain ⟨h1, h2, h3, h4, h5, h6⟩ := hC k hlt
    rw [f_X1_gramsOfGrower_5, f_X9_stock_31, if_neg hge, if_neg hge]
    unfold f_X1_gramsOfGrower_44 f_X9_stock_71 f_X9_stock_85 f_X9_stock_86
    simp only [inR_nI hlt (by decide), gd_t, nI_clamp (show k < 2 ^ 31 by omega), lt_v, nI_1, i10, if_false]
    by_cases z : gI M 3 k = 2
    · rw [if_pos (show gI M (2 + 1) k = 2 from z), if_pos (h1.symm.trans z), show gI M (2 + 4) k = gI M 123 k from (h5 z).2]
      by_cases y : gI M 123 k = f
      · rw [if_pos y, if_pos y, show gL M (2 + 2) k = gL M 121 k from h2]
        exact grG_lp hC f d (k + 1) n n' _ (by omega) (by omega) (by omega)
      · rw [if_neg y, if_neg y, Int64.add_zero]
        exact grG_lp hC f d (k + 1) n n' _ (by omega) (by omega) (by omega)
    · rw [if_neg (show ¬ gI M (2 + 1) k = 2 from z), if_neg (fun y => z (h1.trans y)), Int64.add_zero]
      exact grG_lp hC f d (k + 1) n n' _ (by omega) (by omega) (by omega)
theorem s_stock : S_stock Rel := by
  intro nT M a f hR
  obtain ⟨e, hC, -⟩ := hR
  obtain ⟨r0, x0, y0⟩ := grK_lp hC f 40 0 FU FU 0 (by omega) (by unfold FU; omega) (by unfold FU; omega)
  obtain ⟨r1, x1, y1⟩ := grG_lp hC f 40 0 FU FU 0 (by omega) (by unfold FU; omega) (by unfold FU; omega)
  have x0' : f_X1_gramsOfKind 2 M f = some r0 := x0
  have x1' : f_X1_gramsOfGrower 2 M f = some r1 := x1
  unfold f_X8_stock f_X9_stock f_X8_stock_23
  rw [kind8, grow8, in9_1, in9_7, x0', x1']
  rcases ix3 a (n := 2) (by decide) with ⟨h, -⟩ | ⟨j, hj, rfl, h⟩
  · have ne := ne_out (by decide) h
    simp only [h, sb_v, bI_f, if_true, show (a = 0) = False from eq_false (ne 0 (by decide)), show (a = 1) = False from eq_false (ne 1 (by decide)), if_false]
    exact ⟨_, rfl, rfl⟩
  · rcases (show j = 0 ∨ j = 1 by omega) with rfl | rfl
    · cases hf : inR f 8 with
      | false =>
        simp only [h, sb_v, bI_t, bI_f, i10, if_false, if_true, show (nI 0 = 0) = True from eq_true rfl, show (nI 0 = 1) = False from eq_false (by decide)]
        exact ⟨_, rfl, rfl⟩
      | true =>
        simp only [h, sb_v, bI_t, i10, if_false, if_true, show (nI 0 = 0) = True from eq_true rfl]
        exact ⟨r0, rfl, y0⟩
    · cases hf : inR f 8 with
      | false =>
        simp only [h, sb_v, bI_t, bI_f, i10, if_false, if_true, show (nI 1 = 0) = False from eq_false (by decide), show (nI 1 = 1) = True from eq_true rfl]
        exact ⟨_, rfl, rfl⟩
      | true =>
        simp only [h, sb_v, bI_t, i10, if_false, if_true, show (nI 1 = 0) = False from eq_false (by decide), show (nI 1 = 1) = True from eq_true rfl]
        exact ⟨r1, rfl, y1⟩
section DIG
variable {nT : Nat} {M : Mem}
theorem dg151 (hR : Rel nT M) : ∀ (e : Nat), gI M 0 9 = nI e → gI M 119 38 = nI e → e ≤ 20 → (∀ i, i < e → gI M 118 i = gI M 155 i) → ∀ d k n n' h, k + d = e → d < n → d < n' → ∃ r, f_X8_digest_151 nT M n h (nI k) = some r ∧ f_X9_digest_153 M n' h (nI k) = some r := by
  intro e m1 m2 he m4 d
  induction d with
  | zero =>
    intro k n n' h hk hn hn'
    obtain ⟨n, rfl⟩ : ∃ m, n = m + 1 := ⟨n - 1, by omega⟩
    obtain ⟨n', rfl⟩ : ∃ m, n' = m + 1 := ⟨n' - 1, by omega⟩
    rw [f_X8_digest_151, f_X9_digest_153, m1, m2, if_pos (nI_le (by omega) (by omega)), if_pos (nI_le (by omega) (by omega))]
    exact ⟨_, rfl, rfl⟩
  | succ d ih =>
    intro k n n' h hk hn hn'
    obtain ⟨n, rfl⟩ : ∃ m, n = m + 1 := ⟨n - 1, by omega⟩
    obtain ⟨n', rfl⟩ : ∃ m, n' = m + 1 := ⟨n' - 1, by omega⟩
    have hlt : k < e := by omega
    have ho : f_X8_order M (nI k) = some (gI M 155 k) := by
      unfold f_X8_order
      rw [m1, tge (nI k) (by omega)]
      simp only [inR_nI hlt (by omega), bI_t, i10, if_false, inR_nI (show k < 20 by omega) (by decide), gd_t, nI_clamp (show k < 2 ^ 31 by omega)]
      rw [m4 k hlt]
    rw [f_X8_digest_151, f_X9_digest_153, m1, m2, if_neg (nI_ge hlt (by omega)), if_neg (nI_ge hlt (by omega)), ho]
    simp only [sb_v, lt_v, inR_nI (show k < 20 by omega) (by decide), gd_t, nI_clamp (show k < 2 ^ 31 by omega), nI_1]
    exact ih (k + 1) n n' _ (by omega) (by omega) (by omega)
theorem dg116 (hR : Rel nT M) {t : Nat} {K8 K9 : Int64 → Int32 → Option Int64} (hK : ∀ h, ∃ r, K8 h (nI (t + 1)) = some r ∧ K9 h (nI (t + 1)) = some r) : ∀ d k n n' h, k + d = 8 → d < n → d < n' → ∃ r, f_X8_digest_116 nT M K8 n h (nI t) (nI k) = some r ∧ f_X9_digest_118 M K9 n' h (nI t) (nI k) = some r := by
  intro d
  induction d with
  | zero =>
    intro k n n' h hk hn hn'
    obtain ⟨n, rfl⟩ : ∃ m, n = m + 1 := ⟨n - 1, by omega⟩
    obtain ⟨n', rfl⟩ : ∃ m, n' = m + 1 := ⟨n' - 1, by omega⟩
    have : k = 8 := by omega
    subst this
    rw [f_X8_digest_116, f_X9_digest_118, if_pos (show (8 : Int32) ≤ nI 8 by decide), if_pos (show (8 : Int32) ≤ nI 8 by decide)]
    simp only [lt_v, nI_1]
    exact hK h
  | succ d ih =>
    intro k n n' h hk hn hn'
    obtain ⟨n, rfl⟩ : ∃ m, n = m + 1 := ⟨n - 1, by omega⟩
    obtain ⟨n', rfl⟩ : ∃ m, n' = m + 1 := ⟨n' - 1, by omega⟩
    have hge : ¬ (8 : Int32) ≤ nI k := nI_ge (b := 8) (by omega) (by decide)
    obtain ⟨r, x, y⟩ := s_answer nT M (nI t) (nI k) hR
    rw [f_X8_digest_116, f_X9_digest_118, if_neg hge, if_neg hge, x, y]
    simp only [sb_v, lt_v, nI_1]
    exact ih (k + 1) n n' _ (by omega) (by omega) (by omega)
theorem dg86 (hR : Rel nT M) {t : Nat} {K8 K9 : Int64 → Int32 → Option Int64} (hK : ∀ h, ∃ r, K8 h (nI (t + 1)) = some r ∧ K9 h (nI (t + 1)) = some r) : ∀ d k n n' h, k + d = 6 → d < n → d < n' → ∃ r, f_X8_digest_86 nT M K8 n h (nI t) (nI k) = some r ∧ f_X9_digest_87 M K9 n' h (nI t) (nI k) = some r := by
  intro d
  induction d with
  | zero =>
    intro k n n' h hk hn hn'
    obtain ⟨n, rfl⟩ : ∃ m, n = m + 1 := ⟨n - 1, by omega⟩
    obtain ⟨n', rfl⟩ : ∃ m, n' = m + 1 := ⟨n' - 1, by omega⟩
    have : k = 6 := by omega
    subst this
    rw [f_X8_digest_86, f_X9_digest_87, if_pos (show (5 : Int32) < nI 6 by decide), if_pos (show (6 : Int32) ≤ nI 6 by decide)]
    exact dg116 hR hK 8 0 FU FU h (by omega) (by unfold FU; omega) (by unfold FU; omega)
  | succ d ih =>
    intro k n n' h hk hn hn'
    obtain ⟨n, rfl⟩ : ∃ m, n = m + 1 := ⟨n - 1, by omega⟩
    obtain ⟨n', rfl⟩ : ∃ m, n' = m + 1 := ⟨n' - 1, by omega⟩
    have hge : ¬ (6 : Int32) ≤ nI k := nI_ge (b := 6) (by omega) (by decide)
    have hge' : ¬ (5 : Int32) < nI k := nI_nlt (a := 5) (b := k) (by omega) (by decide)
    obtain ⟨r, x, y⟩ := s_ticket nT M (nI t) (nI k) hR
    rw [f_X8_digest_86, f_X9_digest_87, if_neg hge', if_neg hge, x, y]
    simp only [sb_v, lt_v, nI_1]
    exact ih (k + 1) n n' _ (by omega) (by omega) (by omega)
theorem dg75 (hR : Rel nT M) : ∀ d k n n' h, k + d = nT → d < n → d < n' → ∃ r, f_X8_digest_75 nT M n h (nI k) = some r ∧ f_X9_digest_76 M n' h (nI k) = some r := by
  obtain ⟨e, hC, hV, hH, hTr, hRu, hN, hT, hMi⟩ := id hR
  have he := Rel.e20 hT hMi
  have h20 := hT.1
  intro d
  induction d with
  | zero =>
    intro k n n' h hk hn hn'
    obtain ⟨n, rfl⟩ : ∃ m, n = m + 1 := ⟨n - 1, by omega⟩
    obtain ⟨n', rfl⟩ : ∃ m, n' = m + 1 := ⟨n' - 1, by omega⟩
    rw [f_X8_digest_75, f_X9_digest_76, hT.2.1, hT.2.2.1, if_pos (nI_le (by omega) (by omega)), if_pos (nI_le (by omega) (by omega))]
    exact dg151 hR e hMi.1 hMi.2.1 he hMi.2.2.2.1 e 0 FU FU h (by omega) (by unfold FU; omega) (by unfold FU; omega)
  | succ d ih =>
    intro k n n' h hk hn hn'
    obtain ⟨n, rfl⟩ : ∃ m, n = m + 1 := ⟨n - 1, by omega⟩
    obtain ⟨n', rfl⟩ : ∃ m, n' = m + 1 := ⟨n' - 1, by omega⟩
    have hlt : k < nT := by omega
    rw [f_X8_digest_75, f_X9_digest_76, hT.2.1, hT.2.2.1, if_neg (nI_ge hlt (by omega)), if_neg (nI_ge hlt (by omega))]
    exact dg86 hR (fun h => ih (k + 1) n n' h (by omega) (by omega) (by omega)) 6 0 FU FU h (by omega) (by unfold FU; omega) (by unfold FU; omega)
theorem dg40 (hR : Rel nT M) {t : Nat} {K8 K9 : Int64 → Int32 → Option Int64} (hK : ∀ h, ∃ r, K8 h (nI (t + 1)) = some r ∧ K9 h (nI (t + 1)) = some r) : ∀ d k n n' h, k + d = 4 → d < n → d < n' → ∃ r, f_X8_digest_40 nT M K8 n h (nI t) (nI k) = some r ∧ f_X9_digest_41 M K9 n' h (nI t) (nI k) = some r := by
  intro d
  induction d with
  | zero =>
    intro k n n' h hk hn hn'
    obtain ⟨n, rfl⟩ : ∃ m, n = m + 1 := ⟨n - 1, by omega⟩
    obtain ⟨n', rfl⟩ : ∃ m, n' = m + 1 := ⟨n' - 1, by omega⟩
    have : k = 4 := by omega
    subst this
    rw [f_X8_digest_40, f_X9_digest_41, if_pos (show (3 : Int32) < nI 4 by decide), if_pos (show (4 : Int32) ≤ nI 4 by decide)]
    simp only [lt_v, nI_1]
    exact hK h
  | succ d ih =>
    intro k n n' h hk hn hn'
    obtain ⟨n, rfl⟩ : ∃ m, n = m + 1 := ⟨n - 1, by omega⟩
    obtain ⟨n', rfl⟩ : ∃ m, n' = m + 1 := ⟨n' - 1, by omega⟩
    have hge : ¬ (4 : Int32) ≤ nI k := nI_ge (b := 4) (by omega) (by decide)
    have hge' : ¬ (3 : Int32) < nI k := nI_nlt (a := 3) (b := k) (by omega) (by decide)
    obtain ⟨r, x, y⟩ := s_cell nT M (nI t) (nI k) hR
    rw [f_X8_digest_40, f_X9_digest_41, if_neg hge', if_neg hge, x, y]
    simp only [sb_v, lt_v, nI_1]
    exact ih (k + 1) n n' _ (by omega) (by omega) (by omega)
theorem dg6 (hR : Rel nT M) : ∀ d k n n' h, k + d = 40 → d < n → d < n' → ∃ r, f_X8_digest_6 nT M n h (nI k) = some r ∧ f_X9_digest_6 M n' h (nI k) = some r := by
  intro d
  induction d with
  | zero =>
    intro k n n' h hk hn hn'
    obtain ⟨n, rfl⟩ : ∃ m, n = m + 1 := ⟨n - 1, by omega⟩
    obtain ⟨n', rfl⟩ : ∃ m, n' = m + 1 := ⟨n' - 1, by omega⟩
    have : k = 40 := by omega
    subst this
    have h20 : nT ≤ 20 := by obtain ⟨e, -, -, -, -, -, -, hT, -⟩ := hR; exact hT.1
    rw [f_X8_digest_6, f_X9_digest_6, if_pos (show (40 : Int32) ≤ nI 40 by decide), if_pos (show (40 : Int32) ≤ nI 40 by decide)]
    have hFU : nT < FU := by unfold FU; omega
    generalize FU = F at hFU ⊢
    exact dg75 hR nT 0 F F h (by omega) hFU hFU
  | succ d ih =>
    intro k n n' h hk hn hn'
    obtain ⟨n, rfl⟩ : ∃ m, n = m + 1 := ⟨n - 1, by omega⟩
    obtain ⟨n', rfl⟩ : ∃ m, n' = m + 1 := ⟨n' - 1, by omega⟩
    have hlt : k < 40 := by omega
    have hge : ¬ (40 : Int32) ≤ nI k := nI_ge (b := 40) hlt (by decide)
    obtain ⟨r, x, y⟩ := s_holds nT M (nI k) hR
    have y' : r = gI M 120 k := by
      unfold f_X9_holds at y
      rw [cell9] at y
      simp only [inR_nI hlt (by decide), sb_v, bI_t, i10, if_false, gd_t, nI_clamp (show k < 2 ^ 31 by omega)] at y
      exact (Option.some.inj y).symm
    obtain ⟨r2, x2, y2⟩ := s_value nT M (nI k) hR
    rw [f_X8_digest_6, f_X9_digest_6]
    have hFU : 4 < FU := by unfold FU; omega
    generalize FU = F at hFU ⊢
    rw [if_neg hge, if_neg hge, x, x2, y2]
    simp only [sb_w, lt_w, inR_nI hlt (by decide), gd_w, nI_clamp (show k < 2 ^ 31 by omega), y']
    generalize 31 * (31 * h + Int32.toInt64 (gI M 120 k)) + r2 = h2
    exact dg40 hR (fun h => ih (k + 1) n n' h (by omega) (by omega) (by omega)) 4 0 F F h2 (by omega) hFU hFU
end DIG
theorem s_digest : S_digest Rel := by
  intro nT M hR
  exact dg6 hR 40 0 FU FU 17 (by omega) (by unfold FU; omega) (by unfold FU; omega)

theorem PT1.ag3 {P Q : Nat → Nat → Prop} {M M' N N' : Mem} {t : Nat} (h : PT1 M N t) (A : Ag P M M') (B : Ag Q N N') (hA : ∀ q i, 189 + 4 * t ≤ q ∧ q ≤ 189 + 4 * t + 3 ∧ ¬ (q = 189 + 4 * t ∧ (i = 2 ∨ i = 3)) → P q i) (hB : ∀ q i, qTk t q i ∧ q ≠ 139 ∧ q ≠ 140 → Q q i) (e2 : gI M' (189 + 4 * t) 2 = gI N' 139 t) (e3 : gI M' (189 + 4 * t) 3 = gI N' 140 t) : PT1 M' N' t := by
  obtain ⟨⟨k, h1, h2, h3⟩, ⟨s, h4, h5, h6⟩, h7, h8, h9, h10, h11, h12, h13, h14, h15, h16, h17⟩ := h
  have a : ∀ i, i ≠ 2 → i ≠ 3 → gI M' (189 + 4 * t) i = gI M (189 + 4 * t) i := fun i _ _ => A.i (hA _ _ (by omega))
  refine ⟨⟨k, h1, ?_, ?_⟩, ⟨s, h4, ?_, ?_⟩, e2, e3, ?_, ?_, ?_, ?_, ?_, ?_, ?_, ?_, ?_⟩
  · rw [a _ (by omega) (by omega)]; exact h2
  · rw [B.i (hB _ _ (by unfold qTk; omega))]; exact h3
  · rw [a _ (by omega) (by omega)]; exact h5
  · rw [B.i (hB _ _ (by unfold qTk; omega))]; exact h6
  · rw [a _ (by omega) (by omega), B.i (hB _ _ (by unfold qTk; omega))]; exact h9
  · rw [a _ (by omega) (by omega), B.i (hB _ _ (by unfold qTk; omega))]; exact h10
  · rw [a _ (by omega) (by omega), B.i (hB _ _ (by unfold qTk; omega))]; exact h11
  · rw [a _ (by omega) (by omega), B.i (hB _ _ (by unfold qTk; omega))]; exact h12
  · rw [a _ (by omega) (by omega), B.i (hB _ _ (by unfold qTk; omega))]; exact h13
  · exact h14.ag A B (fun q i z => hA q i (by omega)) (fun q i z => hB q i (by unfold qTy at z; unfold qTk; omega))
  · rw [B.i (hB _ _ (by unfold qTk; omega)), B.b (hB _ _ (by unfold qTk; omega))]; exact h15
  · rw [B.i (hB _ _ (by unfold qTk; omega))]
    intro z
    obtain ⟨n, k1, k2, k3, k4⟩ := h16 z
    refine ⟨n, k1, ?_, ?_, fun i i1 i2 => ?_⟩
    · rw [a _ (by omega) (by omega)]; exact k2
    · rw [B.i (hB _ _ (by unfold qTk; omega))]; exact k3
    · rw [A.l (hA _ _ (by omega)), B.l (hB _ _ (by unfold qTk; omega))]; exact k4 i i1 i2
  · rw [B.i (hB _ _ (by unfold qTk; omega)), B.i (hB _ _ (by unfold qTk; omega))]; exact h17
theorem R2.tick {nT e t : Nat} {M M' N N' : Mem} (R : R2 nT e M N) (ht : t < nT) (A : Ag (fun q i => ¬ ((q = 0 ∧ i = 11) ∨ (q = 189 + 4 * t ∧ i = 3) ∨ (q = 0 ∧ 13 ≤ i) ∨ (29 ≤ q ∧ q ≤ 117))) M M') (B : Ag (fun q i => ¬ ((q = 119 ∧ i = 41) ∨ (q = 140 ∧ i = t) ∨ (q = 119 ∧ 43 ≤ i) ∨ 159 ≤ q)) N N')
    (a1 : gI M' 0 11 = gI M 0 11 + 1) (a2 : gI M' (189 + 4 * t) 3 = gI M (189 + 4 * t) 3 + 1) (b1 : gI N' 119 41 = gI N 119 41 + 1) (b2 : gI N' 140 t = gI N 140 t + 1) : R2 nT e M' N' := by
  obtain ⟨h1, h2, h3, h4, h5, h6, h7, h8⟩ := R
  have t1 := h7.t1 ht
  refine ⟨h1.ag A B (fun q i z => by omega) (fun q i z => by omega), h2.ag A B (fun q i z => by omega) (fun q i z => by omega), h3.ag A B (fun q i z => by omega) (fun q i z => by omega), h4.ag A B (fun q i z => by omega) (fun q i z => by omega), h5.ag A B (fun q i z => by omega) (fun q i z => by omega), h6.ag A B (fun q i z => by omega) (fun q i z => by omega), ?_, ?_⟩
  · refine h7.up ht A B (fun q i z => by omega) (fun q i z => by unfold qTk at z; omega) ?_
    refine t1.ag3 A B (fun q i z => by omega) (fun q i z => by unfold qTk at z; omega) ?_ ?_
    · rw [A.i (by omega), B.i (by omega)]; exact t1.2.2.1
    · rw [a2, b2, t1.2.2.2.1]
  · obtain ⟨k1, k2, k3, k4, k5, k6, w, k7, k8, k9, k10⟩ := h8
    refine ⟨?_, ?_, ?_, fun i hi => ?_, ?_, ?_, w, k7, k8, ?_, ?_⟩
    · rw [A.i (by omega)]; exact k1
    · rw [B.i (by omega)]; exact k2
    · rw [cntD_lt nT (fun i _ => B.i (by omega))]; exact k3
    · rw [A.i (by omega), B.i (by omega)]; exact k4 i hi
    · rw [A.i (by omega), B.i (by omega)]; exact k5
    · rw [a1, b1, k6]
    · rw [A.i (by omega)]; exact k9
    · rw [B.i (by omega)]; exact k10
/-- a slot's try, once it has ended: V are the versions as it read them -/
def SL (q j t k m a D : Nat) (V : Nat → Int32) (M N : Mem) : Prop := gI M q 3 = nI t ∧ gI M q 4 = nI k ∧ k ≤ 11 ∧ gI N 159 j = (if k = 0 then 0 else if k = 11 then 2 else 1) ∧ gI N 160 j = (if k = 11 then 0 else nI k) ∧ gI N 161 j = (if k = 8 then gI M q 9 else 0) ∧ gI M q 5 = gI N 162 j ∧
  (∀ c, bt (gL M q 8) c = (decide (c < 40) && gB N 163 (40 * j + c))) ∧
  (∀ c, c < 40 → gB N 163 (40 * j + c) = true → CC (gI M (q + 2) c) (gL M (q + 3) c) (gI M (q + 4) c) (gI M (q + 5) c) (gI N 164 (40 * j + c)) (gL N 165 (40 * j + c)) (gI N 166 (40 * j + c)) (gI N 167 (40 * j + c))) ∧
  (∀ c, bt (gL M q 7) c = (decide (c < 40) && gB N 168 (40 * j + c))) ∧ (∀ c, c < 40 → gB N 168 (40 * j + c) = true → gI N 169 (40 * j + c) = V c) ∧
  gI M q 13 = nI (min m 8) ∧ gI N 170 j = nI m ∧ m ≤ 40 ∧ (∀ i, i < m → i < 8 → gL M (q + 8) i = gL N 171 (8 * j + i)) ∧
  gI M q 15 = nI a ∧ gI N 172 j = nI a ∧ a ≤ 40 ∧ (∀ i, i < a → i < 40 → okA (gI N 173 (40 * j + i)) (gI N 174 (40 * j + i)) ∧ gI M (q + 9) i = gI N 173 (40 * j + i) ∧ gI M (q + 10) i = gI N 174 (40 * j + i) ∧ gL M (q + 11) i = gL N 175 (40 * j + i)) ∧
  (k ≠ 0 → D ≤ 6 ∧ gI M q 10 = nI D ∧ gI N 176 j = nI D ∧ WAY q j 0 D M N)
def pSl (j q' i : Nat) : Prop := (159 ≤ q' ∧ q' ≤ 162 ∧ i = j) ∨ (163 ≤ q' ∧ q' ≤ 169 ∧ 40 * j ≤ i ∧ i < 40 * j + 40) ∨ ((q' = 170 ∨ q' = 172 ∨ q' = 176) ∧ i = j) ∨ (q' = 171 ∧ 8 * j ≤ i ∧ i < 8 * j + 8) ∨ (173 ≤ q' ∧ q' ≤ 175 ∧ 40 * j ≤ i ∧ i < 40 * j + 40) ∨ (177 ≤ q' ∧ q' ≤ 178 ∧ 6 * j ≤ i ∧ i < 6 * j + 6)
theorem SL.ag {P Q : Nat → Nat → Prop} {M M' N N' : Mem} {q j t k m a D : Nat} {V : Nat → Int32} (h : SL q j t k m a D V M N) (A : Ag P M M') (B : Ag Q N N') (hA : ∀ q' i, q ≤ q' ∧ q' ≤ q + 11 → P q' i) (hB : ∀ q' i, pSl j q' i → Q q' i) : SL q j t k m a D V M' N' := by
  obtain ⟨h1, h2, h3, h4, h5, h6, h7, h8, h9, h10, h11, h12, h13, h14, h15, h16, h17, h18, h19, h20⟩ := h
  refine ⟨?_, ?_, h3, ?_, ?_, ?_, ?_, fun c => ?_, fun c hc => ?_, fun c => ?_, fun c hc => ?_, ?_, ?_, h14, fun i i1 i2 => ?_, ?_, ?_, h18, fun i i1 i2 => ?_, fun z => ?_⟩
  · rw [A.i (hA _ _ (by omega))]; exact h1
  · rw [A.i (hA _ _ (by omega))]; exact h2
  · rw [B.i (hB _ _ (by unfold pSl; omega))]; exact h4
  · rw [B.i (hB _ _ (by unfold pSl; omega))]; exact h5
  · rw [B.i (hB _ _ (by unfold pSl; omega)), A.i (hA _ _ (by omega))]; exact h6
  · rw [B.i (hB _ _ (by unfold pSl; omega)), A.i (hA _ _ (by omega))]; exact h7
  · rw [A.l (hA _ _ (by omega)), h8 c]
    by_cases hc : c < 40
    · rw [B.b (hB _ _ (by unfold pSl; omega))]
    · simp [hc]
  · rw [B.b (hB _ _ (by unfold pSl; omega)), A.i (hA _ _ (by omega)), A.i (hA _ _ (by omega)), A.i (hA _ _ (by omega)), A.l (hA _ _ (by omega)), B.i (hB _ _ (by unfold pSl; omega)), B.i (hB _ _ (by unfold pSl; omega)), B.i (hB _ _ (by unfold pSl; omega)), B.l (hB _ _ (by unfold pSl; omega))]
    exact h9 c hc
  · rw [A.l (hA _ _ (by omega)), h10 c]
    by_cases hc : c < 40
    · rw [B.b (hB _ _ (by unfold pSl; omega))]
    · simp [hc]
  · rw [B.b (hB _ _ (by unfold pSl; omega)), B.i (hB _ _ (by unfold pSl; omega))]; exact h11 c hc
  · rw [A.i (hA _ _ (by omega))]; exact h12
  · rw [B.i (hB _ _ (by unfold pSl; omega))]; exact h13
  · rw [A.l (hA _ _ (by omega)), B.l (hB _ _ (by unfold pSl; omega))]; exact h15 i i1 i2
  · rw [A.i (hA _ _ (by omega))]; exact h16
  · rw [B.i (hB _ _ (by unfold pSl; omega))]; exact h17
  · rw [A.i (hA _ _ (by omega)), A.i (hA _ _ (by omega)), A.l (hA _ _ (by omega)), B.i (hB _ _ (by unfold pSl; omega)), B.i (hB _ _ (by unfold pSl; omega)), B.l (hB _ _ (by unfold pSl; omega))]
    exact h19 i i1 i2
  · obtain ⟨k1, k2, k3, k4⟩ := h20 z
    refine ⟨k1, ?_, ?_, fun i i1 i2 => ?_⟩
    · rw [A.i (hA _ _ (by omega))]; exact k2
    · rw [B.i (hB _ _ (by unfold pSl; omega))]; exact k3
    · rw [A.i (hA _ _ (by omega)), A.i (hA _ _ (by omega)), B.i (hB _ _ (by unfold pSl; omega)), B.i (hB _ _ (by unfold pSl; omega))]; exact k4 i i1 i2
theorem cd_all : ∀ k, k < 12 → (cd k ≤ 0 ↔ k = 0 ∨ k = 11) ∧ (cd k = 8 ↔ k = 8) ∧ (cd k = 0 ↔ k = 0) ∧ (cd k = -1 ↔ k = 11) := by unfold cd; decide +kernel
theorem cd_n {k : Nat} (h : k ≠ 11) : cd k = nI k := by unfold cd; rw [if_neg h]
def f4 (j k : Nat) (N : Mem) : Mem := sI (sI (sI (sI N 159 j (if k = 0 then 0 else if k = 11 then 2 else 1)) 160 j (if k = 11 then 0 else nI k)) 161 j (if k = 8 then gI N 119 79 else 0)) 162 j (gI N 119 48)
theorem fin117 {j k F : Nat} {N : Mem} (hj : j < 4) (hk : k ≤ 11) (hf : gI N 119 78 = cd k) : f_X9_attempt_117 (F + 1) N (nI j) 0 = some (f4 j k N) := by
  obtain ⟨c1, c2, c3, c4⟩ := cd_all k (by omega)
  have s276 : ∀ e : Int32, f_X9_attempt_276 N (nI j) e (nI j) = some (sI (sI (sI (sI N 159 j e) 160 j (if k = 11 then 0 else nI k)) 161 j (if k = 8 then gI N 119 79 else 0)) 162 j (gI N 119 48)) := by
    intro e
    unfold f_X9_attempt_276
    rw [inR_nI hj (by decide), gd_w, lt_w, nI_clamp (show j < 2 ^ 31 by omega), show gI (sI N 159 j e) 119 78 = cd k by rw [gI_ne (Or.inl (by decide))]; exact hf]
    have s297 : ∀ u, f_X9_attempt_297 (sI N 159 j e) (nI j) u (nI j) = some (sI (sI (sI (sI N 159 j e) 160 j u) 161 j (if k = 8 then gI N 119 79 else 0)) 162 j (gI N 119 48)) := by
      intro u
      unfold f_X9_attempt_297
      rw [inR_nI hj (by decide), gd_w, lt_w, nI_clamp (show j < 2 ^ 31 by omega), show gI (sI (sI N 159 j e) 160 j u) 119 78 = cd k by simp (disch := omega) only [gI_ne]; exact hf, show gI (sI (sI N 159 j e) 160 j u) 119 79 = gI N 119 79 by simp (disch := omega) only [gI_ne]]
      have s320 : ∀ v, f_X9_attempt_320 (sI (sI N 159 j e) 160 j u) (nI j) v (nI j) = some (sI (sI (sI (sI N 159 j e) 160 j u) 161 j v) 162 j (gI N 119 48)) := by
        intro v
        unfold f_X9_attempt_320
        rw [inR_nI hj (by decide), gd_w, lt_w, gd_w, lt_w, nI_clamp (show j < 2 ^ 31 by omega), show gI (sI (sI (sI N 159 j e) 160 j u) 161 j v) 119 48 = gI N 119 48 by simp (disch := omega) only [gI_ne]]
      by_cases z : k = 8
      · rw [if_pos (c2.mpr z), if_pos z, s320]
      · rw [if_neg (fun w => z (c2.mp w)), if_neg z, s320]
    by_cases z : k = 11
    · rw [if_pos (c1.mpr (Or.inr z)), if_pos z, s297]
    · rw [if_neg z]
      by_cases y : k = 0
      · rw [if_pos (c1.mpr (Or.inl y)), s297, y]
        rfl
      · rw [if_neg (fun w => by have := c1.mp w; omega), cd_n z, s297]
  rw [f_X9_attempt_117, if_pos rfl, hf]
  unfold f4
  by_cases z : k = 0
  · rw [if_pos (c3.mpr z), if_pos z, s276]
  · rw [if_neg (fun w => z (c3.mp w)), if_neg z]
    by_cases y : k = 11
    · rw [if_pos (c4.mpr y), s276, if_pos y, if_pos y]
    · rw [if_neg (fun w => y (c4.mp w)), s276, if_neg y, if_neg y]
theorem f4_ag {j k : Nat} {N : Mem} : Ag (fun q i => ¬ (159 ≤ q ∧ q ≤ 162 ∧ i = j)) N (f4 j k N) := by
  unfold f4
  exact (((Ag.rf.tI (by omega)).tI (by omega)).tI (by omega)).tI (by omega)
theorem not_taken {j k D : Nat} {N : Mem} (hj : j < 4) (hs : gI N 119 46 = nI j) (hD : gI N 176 j = nI D) (h1 : 1 ≤ D) (h2 : D ≤ 6) (k1 : 1 ≤ k) (k2 : k ≤ 11) (hk : gI N 119 78 = cd k) (nt : ∀ f, 0 < f → f < D → NT (gI N 179 (6 * j + f)) k) : f_X9_isTaken N = some (false, N) := by
  unfold f_X9_isTaken
  have e3 := tk_lp hj hs k1 k2 hk 0 (D - 1) (FU - D + 1) (by omega) (fun i i1 i2 => nt i i1 (by omega))
  rw [show FU - D + 1 + (D - 1) = FU by unfold FU; omega, show 0 + (D - 1) = D - 1 by omega] at e3
  rw [hs, inR_nI hj (by decide), gd_w, lt_w, nI_clamp (show j < 2 ^ 31 by omega), hD, show nI D - 1 = nI (D - 1) from pk_sub (a := D) (b := 1) (by omega), e3, f_X9_isTaken_12, if_pos (show nI 0 ≤ 0 by decide)]
theorem rs_lp {t j : Nat} (ht : t < 20) (hj : j < 4) : ∀ r k F (N : Mem), k + r = 40 → r < F → ∃ N', f_X9_attempt_68 F N (nI t) (nI j) (nI k) = (Option.bind (f_X9_enter N' (gI N' 137 t) 0) fun r_1 => f_X9_attempt_117 FU r_1 (nI j) 1) ∧ Ag (fun q' i => ¬ ((q' = 163 ∨ q' = 168) ∧ 40 * j + k ≤ i ∧ i < 40 * j + 40)) N N' ∧ ∀ c, k ≤ c → c < 40 → gB N' 163 (40 * j + c) = false ∧ gB N' 168 (40 * j + c) = false
  | 0, k, F, N, hk, hF => by
    obtain ⟨F, rfl⟩ : ∃ f, F = f + 1 := ⟨F - 1, by omega⟩
    have : k = 40 := by omega
    subst this
    refine ⟨N, ?_, Ag.rf, fun c h1 h2 => absurd h1 (by omega)⟩
    rw [f_X9_attempt_68, if_pos (by decide), inR_nI ht (by decide), gd_w, nI_clamp (show t < 2 ^ 31 by omega)]
  | r + 1, k, F, N, hk, hF => by
    obtain ⟨F, rfl⟩ : ∃ f, F = f + 1 := ⟨F - 1, by omega⟩
    rw [f_X9_attempt_68, if_neg (show ¬ (40 : Int32) ≤ nI k from nI_ge (b := 40) (by omega) (by decide)), mx (K := 40) 40 j k rfl, inR_nI (show 40 * j + k < 160 by omega) (by decide), gd_w, lt_w, gd_w, lt_w, lt_w, nI_clamp (show 40 * j + k < 2 ^ 31 by omega), nI_1, iB_0]
    obtain ⟨N', h1, h2, h3⟩ := rs_lp ht hj r (k + 1) F (sB (sB N 163 (40 * j + k) false) 168 (40 * j + k) false) (by omega) (by omega)
    refine ⟨N', h1, ?_, fun c c1 c2 => ?_⟩
    · exact ((Ag.rf.tB (by omega)).tB (by omega)).tr (h2.mo (fun q' i z => by omega))
    · by_cases z : c = k
      · subst z
        rw [h2.b (by omega), h2.b (by omega)]
        simp (disch := omega) only [gB_s, gB_ne]
        exact ⟨trivial, trivial⟩
      · exact h3 c (by omega) c2
theorem at_hd {t j : Nat} {N : Mem} (ht : t < 20) (hj : j < 4) : ∃ N1, f_X9_attempt N (nI t) (nI j) = (Option.bind (f_X9_enter N1 (gI N1 137 t) 0) fun r_1 => f_X9_attempt_117 FU r_1 (nI j) 1) ∧ gI N1 119 46 = nI j ∧ gI N1 119 41 = gI N 119 41 + 1 ∧ gI N1 140 t = gI N 140 t + 1 ∧ gL N1 119 47 = 0 ∧ gI N1 119 48 = nI 0 ∧ gI N1 119 78 = 0 ∧ gI N1 119 79 = 0 ∧ gI N1 176 j = nI 0 ∧ gI N1 170 j = nI 0 ∧ gI N1 172 j = nI 0 ∧ (∀ c, c < 40 → gB N1 163 (40 * j + c) = false ∧ gB N1 168 (40 * j + c) = false) ∧
    Ag (fun q' i => ¬ ((q' = 119 ∧ (i = 41 ∨ i = 46 ∨ i = 47 ∨ i = 48 ∨ i = 78 ∨ i = 79)) ∨ (q' = 140 ∧ i = t) ∨ ((q' = 170 ∨ q' = 172 ∨ q' = 176) ∧ i = j) ∨ ((q' = 163 ∨ q' = 168) ∧ 40 * j ≤ i ∧ i < 40 * j + 40))) N N1 := by
  unfold f_X9_attempt
  rw [lt_w, lt_w, inR_nI ht (by decide), gd_w, gd_w, lt_w, lt_w, lt_w, lt_w, lt_w, inR_nI hj (by decide), gd_w, lt_w, gd_w, lt_w, gd_w, lt_w, nI_clamp (show t < 2 ^ 31 by omega), nI_clamp (show j < 2 ^ 31 by omega)]
  generalize hN : sI (sI (sI (sI (sI (sI (sL (sI (sI (sI N 119 46 (nI j)) 119 41 (gI (sI N 119 46 (nI j)) 119 41 + 1)) 140 t (gI (sI (sI N 119 46 (nI j)) 119 41 (gI (sI N 119 46 (nI j)) 119 41 + 1)) 140 t + 1)) 119 47 0) 119 48 0) 119 78 0) 119 79 0) 176 j 0) 170 j 0) 172 j 0 = N0
  have A0 : Ag (fun q' i => ¬ ((q' = 119 ∧ (i = 41 ∨ i = 46 ∨ i = 47 ∨ i = 48 ∨ i = 78 ∨ i = 79)) ∨ (q' = 140 ∧ i = t) ∨ ((q' = 170 ∨ q' = 172 ∨ q' = 176) ∧ i = j))) N N0 := by
    rw [← hN]
    exact (((((((((Ag.rf.tI (by omega)).tI (by omega)).tI (by omega)).tL (by omega)).tI (by omega)).tI (by omega)).tI (by omega)).tI (by omega)).tI (by omega)).tI (by omega)
  have f1 : gI N0 119 46 = nI j := by rw [← hN]; simp (disch := omega) only [gI_s, gI_ne, gI_tL]
  have f2 : gI N0 119 41 = gI N 119 41 + 1 := by rw [← hN]; simp (disch := omega) only [gI_s, gI_ne, gI_tL]
  have f3 : gI N0 140 t = gI N 140 t + 1 := by rw [← hN]; simp (disch := omega) only [gI_s, gI_ne, gI_tL]
  have f4 : gL N0 119 47 = 0 := by rw [← hN]; simp (disch := omega) only [gL_s, gL_ne, gL_tI]
  have f5 : gI N0 119 48 = nI 0 := by rw [← hN]; simp (disch := omega) only [gI_s, gI_ne, gI_tL]; rfl
  have f6 : gI N0 119 78 = 0 := by rw [← hN]; simp (disch := omega) only [gI_s, gI_ne, gI_tL]
  have f7 : gI N0 119 79 = 0 := by rw [← hN]; simp (disch := omega) only [gI_s, gI_ne, gI_tL]
  have f8 : gI N0 176 j = nI 0 := by rw [← hN]; simp (disch := omega) only [gI_s, gI_ne, gI_tL]; rfl
  have f9 : gI N0 170 j = nI 0 := by rw [← hN]; simp (disch := omega) only [gI_s, gI_ne, gI_tL]; rfl
  have f10 : gI N0 172 j = nI 0 := by rw [← hN]; simp (disch := omega) only [gI_s, gI_ne, gI_tL]; rfl
  clear hN
  obtain ⟨N1, h1, h2, h3⟩ := rs_lp (t := t) ht hj 40 0 FU N0 (by omega) (by unfold FU; omega)
  refine ⟨N1, h1, ?_, ?_, ?_, ?_, ?_, ?_, ?_, ?_, ?_, ?_, fun c hc => h3 c (by omega) hc, ?_⟩
  · rw [h2.i (by omega)]; exact f1
  · rw [h2.i (by omega)]; exact f2
  · rw [h2.i (by omega)]; exact f3
  · rw [h2.l (by omega)]; exact f4
  · rw [h2.i (by omega)]; exact f5
  · rw [h2.i (by omega)]; exact f6
  · rw [h2.i (by omega)]; exact f7
  · rw [h2.i (by omega)]; exact f8
  · rw [h2.i (by omega)]; exact f9
  · rw [h2.i (by omega)]; exact f10
  · exact (A0.mo (fun q' i z => by omega)).tr (h2.mo (fun q' i z => by omega))
theorem bg_eq {q : Nat} {M : Mem} (hq : 65 ≤ q) : ∃ M', f_X0_begin q 2 M = some M' ∧ gI M' q 5 = nI 0 ∧ gL M' q 6 = 0 ∧ gL M' q 7 = 0 ∧ gL M' q 8 = 0 ∧ gI M' q 9 = 0 ∧ gI M' q 13 = nI 0 ∧ gI M' q 15 = nI 0 ∧ (∀ c, c < 40 → gI M' (q + 2) c = gI M 3 c ∧ gL M' (q + 3) c = gL M 4 c ∧ gI M' (q + 4) c = gI M 5 c ∧ gI M' (q + 5) c = gI M 6 c) ∧ Ag (fun q' i => ¬ ((q' = q ∧ i ≠ 3) ∨ (q + 2 ≤ q' ∧ q' ≤ q + 5))) M M' := by
  unfold f_X0_begin
  rw [all_eq, sb_w, lt_w, lt_w, lt_w, lt_w, lt_w, lt_w, lt_w, lt_w, lt_w]
  have hI : ∀ q' i, gI (tkA (q + 1) 2 M) q' i = if i < 40 ∧ (q' = q + 1 + 1 ∨ q' = q + 1 + 3 ∨ q' = q + 1 + 4) then gI M (2 + (q' - (q + 1))) i else gI M q' i := fun q' i => tkA_I (by omega)
  have hL : ∀ q' i, gL (tkA (q + 1) 2 M) q' i = if i < 40 ∧ q' = q + 1 + 2 then gL M (2 + 2) i else gL M q' i := fun q' i => tkA_L
  have A : Ag (fun q' i => ¬ (q + 2 ≤ q' ∧ q' ≤ q + 5)) M (tkA (q + 1) 2 M) := by
    intro q' i z
    refine ⟨?_, ?_, rfl⟩
    · rw [hI, if_neg (by omega)]
    · rw [hL, if_neg (by omega)]
  generalize tkA (q + 1) 2 M = X at *
  refine ⟨_, rfl, ?_, ?_, ?_, ?_, ?_, ?_, ?_, fun c hc => ⟨?_, ?_, ?_, ?_⟩, ?_⟩
  · simp (disch := omega) only [gI_s, gI_ne, gI_tL]; rfl
  · simp (disch := omega) only [gL_s, gL_ne, gL_tI]
  · simp (disch := omega) only [gL_s, gL_ne, gL_tI]
  · simp (disch := omega) only [gL_s, gL_ne, gL_tI]
  · simp (disch := omega) only [gI_s, gI_ne, gI_tL]
  · simp (disch := omega) only [gI_s, gI_ne, gI_tL]; rfl
  · simp (disch := omega) only [gI_s, gI_ne, gI_tL]; rfl
  · simp (disch := omega) only [gI_ne, gI_tL]
    rw [hI, if_pos (by omega), show 2 + (q + 2 - (q + 1)) = 3 by omega]
  · simp (disch := omega) only [gL_ne, gL_tI]
    rw [hL, if_pos (by omega)]
  · simp (disch := omega) only [gI_ne, gI_tL]
    rw [hI, if_pos (by omega), show 2 + (q + 4 - (q + 1)) = 5 by omega]
  · simp (disch := omega) only [gI_ne, gI_tL]
    rw [hI, if_pos (by omega), show 2 + (q + 5 - (q + 1)) = 6 by omega]
  · refine (A.mo (fun q' i z => by omega)).tr ?_
    exact ((((((((Ag.rf.tI (by omega)).tI (by omega)).tL (by omega)).tL (by omega)).tL (by omega)).tI (by omega)).tI (by omega)).tI (by omega)).tI (by omega)
theorem SL.mk {q j t k n m a D : Nat} {M N : Mem} (T : TA q j n m a M N) (h3 : gI M q 3 = nI t) (hk : k ≤ 11) (hm : m ≤ 40) (ha : a ≤ 40) (hD : k ≠ 0 → D ≤ 6 ∧ gI M q 10 = nI D ∧ gI N 176 j = nI D ∧ WAY q j 0 D M N) : SL q j t k m a D (gI N 124) (sI M q 4 (nI k)) (f4 j k N) := by
  have A : Ag (fun q' i => ¬ (q' = q ∧ i = 4)) M (sI M q 4 (nI k)) := Ag.rf.tI (by omega)
  have B : Ag (fun q i => ¬ (159 ≤ q ∧ q ≤ 162 ∧ i = j)) N (f4 j k N) := f4_ag
  refine ⟨?_, gI_s, hk, ?_, ?_, ?_, ?_, fun c => ?_, fun c hc hb => ?_, fun c => ?_, fun c hc hb => ?_, ?_, ?_, hm, fun i i1 i2 => ?_, ?_, ?_, ha, fun i i1 i2 => ?_, fun z => ?_⟩
  · rw [A.i (by omega)]; exact h3
  · unfold f4; simp (disch := omega) only [gI_s, gI_ne]
  · unfold f4; simp (disch := omega) only [gI_s, gI_ne]
  · unfold f4; simp (disch := omega) only [gI_s, gI_ne]; rw [T.to]
  · rw [A.i (by omega), T.st, ← T.st']; unfold f4; simp (disch := omega) only [gI_s, gI_ne]
  · rw [A.l (by omega), B.b (by omega)]; exact T.ce.w c
  · rw [B.b (by omega)] at hb
    rw [A.i (by omega), A.i (by omega), A.i (by omega), A.l (by omega), B.i (by omega), B.i (by omega), B.i (by omega), B.l (by omega)]
    have := T.ce.c c hc
    unfold hN vN kN gN at this
    rw [if_pos hb, if_pos hb, if_pos hb, if_pos hb] at this
    exact this
  · rw [A.l (by omega), B.b (by omega)]; exact T.rd c
  · rw [B.b (by omega)] at hb
    rw [B.i (by omega)]; exact T.rv c hc hb
  · rw [A.i (by omega)]; exact T.sa
  · rw [B.i (by omega)]; exact T.sa'
  · rw [A.l (by omega), B.l (by omega)]; exact T.sv i i1 i2
  · rw [A.i (by omega)]; exact T.ac
  · rw [B.i (by omega)]; exact T.ac'
  · rw [A.i (by omega), A.i (by omega), A.l (by omega), B.i (by omega), B.i (by omega), B.l (by omega)]; exact T.ab i i1 i2
  · obtain ⟨k1, k2, k3, k4⟩ := hD z
    refine ⟨k1, ?_, ?_, fun i i1 i2 => ?_⟩
    · rw [A.i (by omega)]; exact k2
    · rw [B.i (by omega)]; exact k3
    · rw [A.i (by omega), A.i (by omega), B.i (by omega), B.i (by omega)]; exact k4 i i1 i2
def kTM (j t q' i : Nat) : Prop := ¬ ((q' = 0 ∧ i = 11) ∨ (q' = 189 + 4 * t ∧ i = 3) ∨ (29 ≤ q' ∧ q' < 65) ∨ (65 + 12 * j ≤ q' ∧ q' < 65 + 12 * j + 12 ∧ ¬ (q' = 65 + 12 * j ∧ i = 3)))
def kTN (j t q' i : Nat) : Prop := ¬ ((q' = 119 ∧ (i = 41 ∨ i = 46 ∨ i = 47 ∨ i = 48 ∨ i = 78 ∨ i = 79)) ∨ (q' = 140 ∧ i = t) ∨ (159 ≤ q' ∧ q' ≤ 162 ∧ i = j) ∨ (163 ≤ q' ∧ q' ≤ 169 ∧ 40 * j ≤ i ∧ i < 40 * j + 40) ∨ ((q' = 170 ∨ q' = 172 ∨ q' = 176) ∧ i = j) ∨ (q' = 171 ∧ 8 * j ≤ i ∧ i < 8 * j + 8) ∨ (173 ≤ q' ∧ q' ≤ 175 ∧ 40 * j ≤ i ∧ i < 40 * j + 40) ∨ (177 ≤ q' ∧ q' ≤ 182 ∧ 6 * j ≤ i ∧ i < 6 * j + 6) ∨ (183 ≤ q' ∧ q' ≤ 187))
theorem kTN.kr {j t : Nat} {N N' : Mem} (h : Ag (KR j 0) N N') : Ag (kTN j t) N N' := by
  refine h.mo (fun q' i z w => z ?_)
  rcases w with w | w | w | w | w | w | w | w | w | w
  · exact Or.inl ⟨w.1, by omega⟩
  · exact Or.inr (Or.inr (Or.inr (Or.inl w)))
  · exact Or.inr (Or.inr (Or.inr (Or.inr (Or.inl ⟨Or.inl w.1, w.2⟩))))
  · exact Or.inr (Or.inr (Or.inr (Or.inr (Or.inr (Or.inl w)))))
  · exact Or.inr (Or.inr (Or.inr (Or.inr (Or.inl ⟨Or.inr (Or.inl w.1), w.2⟩))))
  · exact Or.inr (Or.inr (Or.inr (Or.inr (Or.inr (Or.inr (Or.inl w))))))
  · exact Or.inr (Or.inr (Or.inr (Or.inr (Or.inl ⟨Or.inr (Or.inr w.1), w.2⟩))))
  · exact Or.inr (Or.inr (Or.inr (Or.inr (Or.inr (Or.inr (Or.inr (Or.inl ⟨by omega, by omega, by omega, by omega⟩)))))))
  · exact Or.inr (Or.inr (Or.inr (Or.inr (Or.inr (Or.inr (Or.inr (Or.inl ⟨by omega, by omega, by omega, by omega⟩)))))))
  · exact Or.inr (Or.inr (Or.inr (Or.inr (Or.inr (Or.inr (Or.inr (Or.inr ⟨w.1, w.2.1⟩)))))))
theorem try_eq {nT e t j : Nat} {M N : Mem} (R : R2 nT e M N) (hj : j < 4) (ht : t < nT) (h3 : gI M (65 + 12 * j) 3 = nI t) :
    ∃ M' N' k m a D, f_X8_makeTry nT (65 + 12 * j) M = some M' ∧ f_X9_attempt N (nI t) (nI j) = some N' ∧ R2 nT e M' N' ∧ SL (65 + 12 * j) j t k m a D (gI N 124) M' N' ∧ Ag (kTM j t) M M' ∧ Ag (kTN j t) N N' := by
  have hq : 65 ≤ 65 + 12 * j := by omega
  have hqj : 65 + 12 * j < 113 := by omega
  have hqq : 65 + 12 * j = 65 + 12 * j := rfl
  have ht20 : t < 20 := by have := R.2.2.2.2.2.2.1.1; omega
  obtain ⟨⟨tr, htr, et1, et2⟩, -⟩ := R.2.2.2.2.2.2.1.t1 ht
  obtain ⟨N1, g0, g1, g2, g3, g4, g5, g6, g7, g8, g9, g10, g11, B1⟩ := at_hd (N := N) ht20 hj
  obtain ⟨N2, e2, b1, b2, b3, -, -, -, -, -, B2⟩ := enter_eq (d := 0) (mo := 0) hj (by omega) (by omega) g1 g8 (gI N1 137 t)
  have hA : Ag (fun q' i => ¬ ((q' = 0 ∧ i = 11) ∨ (q' = 189 + 4 * t ∧ i = 3))) M (sI (sI M (189 + 4 * t) 3 (gI M (189 + 4 * t) 3 + 1)) 0 11 (gI (sI M (189 + 4 * t) 3 (gI M (189 + 4 * t) 3 + 1)) 0 11 + 1)) := (Ag.rf.tI (by omega)).tI (by omega)
  have a1 : gI (sI (sI M (189 + 4 * t) 3 (gI M (189 + 4 * t) 3 + 1)) 0 11 (gI (sI M (189 + 4 * t) 3 (gI M (189 + 4 * t) 3 + 1)) 0 11 + 1)) 0 11 = gI M 0 11 + 1 := by simp (disch := omega) only [gI_s, gI_ne]
  have a2 : gI (sI (sI M (189 + 4 * t) 3 (gI M (189 + 4 * t) 3 + 1)) 0 11 (gI (sI M (189 + 4 * t) 3 (gI M (189 + 4 * t) 3 + 1)) 0 11 + 1)) (189 + 4 * t) 3 = gI M (189 + 4 * t) 3 + 1 := by simp (disch := omega) only [gI_s, gI_ne]
  unfold f_X8_makeTry
  rw [h3, inR_nI ht20 (by decide), gd_w, nI_clamp (show t < 2 ^ 31 by omega), decide_eq_true ht, gd_w, lt_w, lt_w]
  generalize sI (sI M (189 + 4 * t) 3 (gI M (189 + 4 * t) 3 + 1)) 0 11 (gI (sI M (189 + 4 * t) 3 (gI M (189 + 4 * t) 3 + 1)) 0 11 + 1) = M2 at *
  generalize hQ : 65 + 12 * j = q at *
  obtain ⟨M3, c0, c1, c2, c3, c4, c5, c6, c7, c8, A3⟩ := bg_eq (q := q) (M := M2) hq
  rw [c0, sb_w]
  have A23 : Ag (fun q' i => ¬ ((q' = 0 ∧ i = 11) ∨ (q' = 189 + 4 * t ∧ i = 3) ∨ (q' = q ∧ i ≠ 3) ∨ (q + 2 ≤ q' ∧ q' ≤ q + 5))) M M3 := (hA.mo (fun q' i z => by omega)).tr (A3.mo (fun q' i z => by omega))
  have B12 : Ag (fun q' i => ¬ ((q' = 119 ∧ (i = 41 ∨ i = 46 ∨ i = 47 ∨ i = 48 ∨ i = 78 ∨ i = 79)) ∨ (q' = 140 ∧ i = t) ∨ ((q' = 170 ∨ q' = 172 ∨ q' = 176) ∧ i = j) ∨ ((q' = 163 ∨ q' = 168) ∧ 40 * j ≤ i ∧ i < 40 * j + 40) ∨ (177 ≤ q' ∧ q' ≤ 182 ∧ i = 6 * j + 0) ∨ (183 ≤ q' ∧ q' ≤ 187))) N N2 := (B1.mo (fun q' i z => by omega)).tr (B2.mo (fun q' i z => by omega))
  have w163 : ∀ c, c < 40 → gB N2 163 (40 * j + c) = false := fun c hc => by rw [B2.b (by omega)]; exact (g11 c hc).1
  have w168 : ∀ c, c < 40 → gB N2 168 (40 * j + c) = false := fun c hc => by rw [B2.b (by omega)]; exact (g11 c hc).2
  have T3 : TA q j 0 0 0 M3 N2 := by
    refine ⟨?_, ?_, ⟨fun c => ?_, fun c hc => ?_⟩, fun c => ?_, fun c hc hb => ?_, c1, ?_, c6, ?_, fun i h => absurd h (by omega), c7, ?_, fun i h => absurd h (by omega), ?_⟩
    · rw [B2.i (by omega)]; exact g1
    · rw [c2, B2.l (by omega), g4]
    · rw [c4, bt_0]
      by_cases hc : c < 40
      · rw [w163 c hc]; simp
      · simp [hc]
    · obtain ⟨x1, x2, x3, x4⟩ := c8 c hc
      unfold hN vN kN gN
      rw [if_neg (by rw [w163 c hc]; decide), if_neg (by rw [w163 c hc]; decide), if_neg (by rw [w163 c hc]; decide), if_neg (by rw [w163 c hc]; decide), B12.i (by omega), B12.l (by omega), B12.i (by omega), B12.i (by omega)]
      show CC (gI M3 (q + 2) c) (gL M3 (q + 3) c) (gI M3 (q + 4) c) (gI M3 (q + 5) c) _ _ _ _
      rw [x1, x2, x3, x4, hA.i (by omega), hA.l (by omega), hA.i (by omega), hA.i (by omega)]
      exact R.1 c hc
    · rw [c3, bt_0]
      by_cases hc : c < 40
      · rw [w168 c hc]; simp
      · simp [hc]
    · rw [w168 c hc] at hb; cases hb
    · rw [B2.i (by omega)]; exact g5
    · rw [B2.i (by omega)]; exact g9
    · rw [B2.i (by omega)]; exact g10
    · rw [c5, B2.i (by omega), g7]
  have e137 : gI N1 137 t = nI tr := by rw [B1.i (by omega)]; exact et2
  have H : HD q j 0 0 0 0 tr 0 M3 N2 := by
    refine ⟨T3, ?_, b1, ?_, b3, ?_, Nat.le_refl _, Nat.le_refl _, by omega, htr, by omega⟩
    · exact (R.2.2.2.1.rt).ag A23 B12 (fun q' i z => by omega) (fun q' i z => by omega)
    · rw [b2]; exact e137
    · rw [B2.i (by omega)]; exact g6
  obtain ⟨r, M4, d1, d2⟩ := sim_all (q := q) hq hj 5 0 (by omega) tr 0 0 0 FU M3 N2 H (by unfold FU; omega)
  have et1' : gI M3 (189 + 4 * t) 0 = nI tr := by rw [A23.i (by omega)]; exact et1
  unfold f_X0_go
  rw [et1', show f_T q 7 M3 (nI tr) 0 = f_T q (7 - 0) M3 (nI tr) (nI 0) from rfl, d1, sb_w, lt_w, g0, show f_X9_enter N1 (gI N1 137 t) 0 = f_X9_enter N1 (gI N1 137 t) (nI 0) from rfl, e2, sb_w]
  have fin : ∀ (k n m a D : Nat) (N5 : Mem), TA q j n m a M4 N5 → k ≤ 11 → m ≤ 40 → a ≤ 40 → (k ≠ 0 → D ≤ 6 ∧ gI M4 q 10 = nI D ∧ gI N5 176 j = nI D ∧ WAY q j 0 D M4 N5) → Ag (KC q 0) M3 M4 → Ag (KR j 0) N2 N5 → r = nI k → f_X9_attempt_117 FU N2 (nI j) 1 = some (f4 j k N5) →
      ∃ M' N' k m a D, some (sI M4 q 4 r) = some M' ∧ f_X9_attempt_117 FU N2 (nI j) 1 = some N' ∧ R2 nT e M' N' ∧ SL q j t k m a D (gI N 124) M' N' ∧ Ag (kTM j t) M M' ∧ Ag (kTN j t) N N' := by
    intro k n m a D N5 T5 hk hm ha hD A5 B5 hr hR
    subst hr
    have h33 : gI M4 q 3 = nI t := by rw [A5.i (by unfold KC; omega), A23.i (by omega)]; exact h3
    have AA : Ag (kTM j t) M (sI M4 q 4 (nI k)) := by
      refine ((A23.mo (fun q' i z => ?_)).tr (A5.mo (fun q' i z => ?_))).tI ?_
      · unfold kTM at z; omega
      · unfold kTM at z; unfold KC; omega
      · unfold kTM; omega
    have BB : Ag (kTN j t) N (f4 j k N5) := by
      refine ((B12.mo (fun q' i z => ?_)).tr (kTN.kr B5)).tr (f4_ag.mo (fun q' i z => ?_))
      · unfold kTN at z; omega
      · unfold kTN at z; omega
    have V : gI N 124 = gI N5 124 := by
      funext c
      rw [B5.i (by unfold KR; omega), B12.i (by omega)]
    refine ⟨_, _, k, m, a, D, rfl, hR, ?_, ?_, AA, BB⟩
    · refine R.tick ht (AA.mo (fun q' i z => by unfold kTM; omega)) (BB.mo (fun q' i z => by unfold kTN; omega)) ?_ ?_ ?_ ?_
      · simp (disch := omega) only [gI_ne]; rw [A5.i (by unfold KC; omega), A3.i (by omega)]; exact a1
      · simp (disch := omega) only [gI_ne]; rw [A5.i (by unfold KC; omega), A3.i (by omega)]; exact a2
      · rw [f4_ag.i (by omega), B5.i (by unfold KR; omega), B2.i (by omega)]; exact g2
      · rw [f4_ag.i (by omega), B5.i (by unfold KR; omega), B2.i (by omega)]; exact g3
    · rw [V]
      exact SL.mk T5 h33 hk hm ha hD
  rcases d2 with ⟨h0, F, N5, n, m, a, p, s, k1, ⟨T5, RT5, i1, i2, i3, i4, i5, i6, i7, i8, i9⟩, k3, k4, k5, k6, k7, k8, A5, B5⟩ | ⟨k, h0, F, N5, n, m, a, D, k1, T5, k3, k4, k5, k6, k7, k8, k9, k10, k11, k12, k13, k14, k15, k16, k17, k18, k19, A5, B5⟩
  · obtain ⟨F, rfl⟩ : ∃ f, F = f + 1 + 1 := ⟨F - 2, by omega⟩
    refine fin 0 n m a 0 (sI N5 176 j (nI 0)) (T5.ag Ag.rf (Ag.rf.tI (by unfold PN; omega))) (by omega) (by omega) (by omega) (fun z => absurd rfl z) A5 (B5.tI (by unfold KR; omega)) h0 ?_
    rw [k1, head_ge hj (by omega) i8 i1 i2 i3 k3 k4 i9, if_pos rfl]
    exact fin117 hj (by omega) (by simp (disch := omega) only [gI_ne]; rw [i4]; decide)
  · obtain ⟨F, rfl⟩ : ∃ f, F = f + 1 := ⟨F - 1, by omega⟩
    refine fin k n m a D N5 T5 k5 (by omega) (by omega) (fun _ => ⟨k7, k10, k8, k11⟩) A5 B5 h0 ?_
    rw [k1]
    unfold CT
    by_cases z : k = 10
    · rw [if_pos z]
      exact fin117 hj k5 k3
    · rw [if_neg z, not_taken hj T5.sl k8 (by omega) k7 k4 k5 k3 k9, sb_w, if_pos (show bI false = 0 from rfl)]
      exact fin117 hj k5 k3

theorem CRel.cq {M M' N N' : Mem} {qd qs b o b' o' : Nat} {w : Int64} (H : CRel M N qs w b o)
    (h : ∀ c, c < 40 → gI M' (qd + 1) c = gI M (qs + 1) c ∧ gL M' (qd + 2) c = gL M (qs + 2) c ∧ gI M' (qd + 3) c = gI M (qs + 3) c ∧ gI M' (qd + 4) c = gI M (qs + 4) c)
    (k : ∀ c, c < 40 → cp5 N N' b o b' o' c)
    (s : ∀ c, c < 40 → gI N' 120 c = gI N 120 c ∧ gL N' 121 c = gL N 121 c ∧ gI N' 122 c = gI N 122 c ∧ gI N' 123 c = gI N 123 c) : CRel M' N' qd w b' o' := by
  refine ⟨fun c => ?_, fun c hc => ?_⟩
  · rw [H.w c]
    by_cases hc : c < 40
    · rw [(k c hc).1]
    · simp [hc]
  · obtain ⟨k1, k2, k3, k4, k5⟩ := k c hc
    obtain ⟨s1, s2, s3, s4⟩ := s c hc
    obtain ⟨h1, h2, h3, h4⟩ := h c hc
    unfold hN vN kN gN
    rw [k1, k2, k3, k4, k5, s1, s2, s3, s4, h1, h2, h3, h4]
    exact H.c c hc
abbrev MK (j d m a : Nat) (M N : Mem) : Prop := CRel M N (29 + 6 * d + 1) (gL M (29 + 6 * d) 2) 183 (40 * (d + 1)) ∧ gL M (29 + 6 * d) 1 = gL N 180 (6 * j + (d + 1)) ∧ gI M (29 + 6 * d) 3 = nI (min m 8) ∧ gI N 181 (6 * j + (d + 1)) = nI m ∧ gI M (29 + 6 * d) 4 = nI a ∧ gI N 182 (6 * j + (d + 1)) = nI a
theorem MK.ag {j d m a : Nat} {M M' N N' : Mem} {P Q : Nat → Nat → Prop} (K : MK j d m a M N) (A : Ag P M M') (B : Ag Q N N') (hA : ∀ q' i, 29 + 6 * d ≤ q' ∧ q' < 29 + 6 * d + 6 → P q' i) (hB : ∀ q' i, (120 ≤ q' ∧ q' ≤ 123) ∨ (180 ≤ q' ∧ q' ≤ 182 ∧ i = 6 * j + (d + 1)) ∨ (183 ≤ q' ∧ q' ≤ 187 ∧ 40 * (d + 1) ≤ i ∧ i < 40 * (d + 1) + 40) → Q q' i) : MK j d m a M' N' := by
  obtain ⟨k1, k2, k3, k4, k5, k6⟩ := K
  refine ⟨?_, ?_, ?_, ?_, ?_, ?_⟩
  · rw [A.l (hA _ _ (by omega))]
    exact k1.ag A B (fun q i k => hA _ _ (by unfold pcC at k; omega)) (fun q i k => hB _ _ (by unfold pcD at k; omega))
  · rw [A.l (hA _ _ (by omega)), B.l (hB _ _ (by omega))]; exact k2
  · rw [A.i (hA _ _ (by omega))]; exact k3
  · rw [B.i (hB _ _ (by omega))]; exact k4
  · rw [A.i (hA _ _ (by omega))]; exact k5
  · rw [B.i (hB _ _ (by omega))]; exact k6
theorem tkA_ag {qd qs : Nat} {M : Mem} (h : qs + 5 ≤ qd ∨ qd + 5 ≤ qs) : Ag (fun q' i => ¬ (qd + 1 ≤ q' ∧ q' ≤ qd + 4 ∧ i < 40)) M (tkA qd qs M) := by
  intro q' i k
  refine ⟨?_, ?_, tkA_B⟩
  · rw [tkA_I h, if_neg (by omega)]
  · rw [tkA_L, if_neg (by omega)]
theorem tkA_c {qd qs : Nat} {M : Mem} (h : qs + 5 ≤ qd ∨ qd + 5 ≤ qs) (c : Nat) (hc : c < 40) : gI (tkA qd qs M) (qd + 1) c = gI M (qs + 1) c ∧ gL (tkA qd qs M) (qd + 2) c = gL M (qs + 2) c ∧ gI (tkA qd qs M) (qd + 3) c = gI M (qs + 3) c ∧ gI (tkA qd qs M) (qd + 4) c = gI M (qs + 4) c := by
  rw [tkA_I h, tkA_I h, tkA_I h, tkA_L, if_pos (by omega), if_pos (by omega), if_pos (by omega), if_pos (by omega), show qs + (qd + 1 - qd) = qs + 1 by omega, show qs + (qd + 3 - qd) = qs + 3 by omega, show qs + (qd + 4 - qd) = qs + 4 by omega]
  exact ⟨rfl, rfl, rfl, rfl⟩
theorem mark_eq {q d : Nat} {M : Mem} (hq : 65 ≤ q) (hd : d < 6) : ∃ M', f_X0_mark q (29 + 6 * d) M = some M' ∧ Ag (fun q' i => ¬ (29 + 6 * d ≤ q' ∧ q' < 29 + 6 * d + 6)) M M' ∧ gL M' (29 + 6 * d) 1 = gL M q 6 ∧ gL M' (29 + 6 * d) 2 = gL M q 8 ∧ gI M' (29 + 6 * d) 3 = gI M q 13 ∧ gI M' (29 + 6 * d) 4 = gI M q 15 ∧
    (∀ c, c < 40 → gI M' (29 + 6 * d + 1 + 1) c = gI M (q + 1 + 1) c ∧ gL M' (29 + 6 * d + 1 + 2) c = gL M (q + 1 + 2) c ∧ gI M' (29 + 6 * d + 1 + 3) c = gI M (q + 1 + 3) c ∧ gI M' (29 + 6 * d + 1 + 4) c = gI M (q + 1 + 4) c) := by
  unfold f_X0_mark
  rw [all_eq, sb_w]
  simp only [lt_w]
  have A := tkA_ag (qd := 29 + 6 * d + 1) (qs := q + 1) (M := M) (by omega)
  have B := tkA_c (qd := 29 + 6 * d + 1) (qs := q + 1) (M := M) (by omega)
  generalize tkA (29 + 6 * d + 1) (q + 1) M = R at *
  refine ⟨_, rfl, ?_, ?_, ?_, ?_, ?_, ?_⟩
  · exact ((((A.mo (fun q' i z => by omega)).tL (by omega)).tL (by omega)).tI (by omega)).tI (by omega)
  · simp (disch := omega) only [gI_s, gL_s, gB_s, gI_ne, gL_ne, gB_ne, gI_tL, gI_tB, gL_tI, gL_tB, gB_tI, gB_tL]; exact A.l (by omega)
  · simp (disch := omega) only [gI_s, gL_s, gB_s, gI_ne, gL_ne, gB_ne, gI_tL, gI_tB, gL_tI, gL_tB, gB_tI, gB_tL]; exact A.l (by omega)
  · simp (disch := omega) only [gI_s, gL_s, gB_s, gI_ne, gL_ne, gB_ne, gI_tL, gI_tB, gL_tI, gL_tB, gB_tI, gB_tL]; exact A.i (by omega)
  · simp (disch := omega) only [gI_s, gL_s, gB_s, gI_ne, gL_ne, gB_ne, gI_tL, gI_tB, gL_tI, gL_tB, gB_tI, gB_tL]; exact A.i (by omega)
  · intro c hc
    simp (disch := omega) only [gI_s, gL_s, gB_s, gI_ne, gL_ne, gB_ne, gI_tL, gI_tB, gL_tI, gL_tB, gB_tI, gB_tL]
    exact B c hc
theorem undoC_eq {q d : Nat} {M : Mem} (hq : 65 ≤ q) (hd : d < 6) : ∃ M', f_X0_undo q (29 + 6 * d) M = some M' ∧ Ag (fun q' i => ¬ ((q + 2 ≤ q' ∧ q' ≤ q + 5) ∨ (q' = q ∧ (i = 8 ∨ i = 13 ∨ i = 15)))) M M' ∧ gL M' q 8 = gL M (29 + 6 * d) 2 ∧ gI M' q 13 = gI M (29 + 6 * d) 3 ∧ gI M' q 15 = gI M (29 + 6 * d) 4 ∧
    (∀ c, c < 40 → gI M' (q + 1 + 1) c = gI M (29 + 6 * d + 1 + 1) c ∧ gL M' (q + 1 + 2) c = gL M (29 + 6 * d + 1 + 2) c ∧ gI M' (q + 1 + 3) c = gI M (29 + 6 * d + 1 + 3) c ∧ gI M' (q + 1 + 4) c = gI M (29 + 6 * d + 1 + 4) c) := by
  unfold f_X0_undo
  rw [all_eq, sb_w]
  simp only [lt_w]
  have A := tkA_ag (qd := q + 1) (qs := 29 + 6 * d + 1) (M := M) (by omega)
  have B := tkA_c (qd := q + 1) (qs := 29 + 6 * d + 1) (M := M) (by omega)
  generalize tkA (q + 1) (29 + 6 * d + 1) M = R at *
  refine ⟨_, rfl, ?_, ?_, ?_, ?_, ?_⟩
  · exact (((A.mo (fun q' i z => by omega)).tL (by omega)).tI (by omega)).tI (by omega)
  · simp (disch := omega) only [gI_s, gL_s, gB_s, gI_ne, gL_ne, gB_ne, gI_tL, gI_tB, gL_tI, gL_tB, gB_tI, gB_tL]; exact A.l (by omega)
  · simp (disch := omega) only [gI_s, gL_s, gB_s, gI_ne, gL_ne, gB_ne, gI_tL, gI_tB, gL_tI, gL_tB, gB_tI, gB_tL]; exact A.i (by omega)
  · simp (disch := omega) only [gI_s, gL_s, gB_s, gI_ne, gL_ne, gB_ne, gI_tL, gI_tB, gL_tI, gL_tB, gB_tI, gB_tL]; exact A.i (by omega)
  · intro c hc
    simp (disch := omega) only [gI_s, gL_s, gB_s, gI_ne, gL_ne, gB_ne, gI_tL, gI_tB, gL_tI, gL_tB, gB_tI, gB_tL]
    exact B c hc
theorem TA.mk {q j d n m a mo : Nat} {M N : Mem} (T : TA q j n m a M N) (hq : 65 ≤ q) (hj : j < 4) (hd : d < 5) (h0 : 0 < mo) (hm : mo ≤ 2) (hp : gI N 176 j = nI (d + 1)) (tr : Int32) :
    ∃ M' N', f_X0_mark q (29 + 6 * d) M = some M' ∧ f_X9_enter N tr (nI mo) = some N' ∧ TA q j n m a M' N' ∧ MK j d m a M' N' ∧ gI N' 176 j = nI (d + 2) ∧ gI N' 177 (6 * j + (d + 1)) = tr ∧ gI N' 178 (6 * j + (d + 1)) = nI 0 ∧ gI N' 179 (6 * j + (d + 1)) = nI mo ∧
    Ag (fun q' i => ¬ (29 + 6 * d ≤ q' ∧ q' < 29 + 6 * d + 6)) M M' ∧ Ag (fun q' i => ¬ ((q' = 176 ∧ i = j) ∨ (177 ≤ q' ∧ q' ≤ 182 ∧ i = 6 * j + (d + 1)) ∨ (183 ≤ q' ∧ q' ≤ 187 ∧ 40 * (d + 1) ≤ i ∧ i < 40 * (d + 1) + 40))) N N' := by
  obtain ⟨M', e1, A, a1, a2, a3, a4, a5⟩ := mark_eq (M := M) hq (show d < 6 by omega)
  obtain ⟨N', e2, b1, b2, b3, b4, b5, b6, b7, b8, B⟩ := enter_eq (d := d + 1) hj (by omega) hm T.sl hp tr
  refine ⟨M', N', e1, e2, ?_, ⟨?_, ?_, ?_, ?_, ?_, ?_⟩, b1, b2, b3, b4, A, B⟩
  · exact T.ag (A.mo (fun q' i z => by unfold PM at z; omega)) (B.mo (fun q' i z => by unfold PN at z; omega))
  · rw [a2]
    exact T.ce.cq a5 (b8 h0) (fun c hc => ⟨B.i (by omega), B.l (by omega), B.i (by omega), B.i (by omega)⟩)
  · rw [a1, b5]; exact T.x
  · rw [a3]; exact T.sa
  · rw [b6]; exact T.sa'
  · rw [a4]; exact T.ac
  · rw [b7]; exact T.ac'
theorem TA.un {q j d n m a m' a' : Nat} {M N M' N' : Mem} (T : TA q j n m' a' M N) (K : MK j d m a M N) (hm : m ≤ m') (ha : a ≤ a') (hq : 65 ≤ q) (hj : j < 4) (hd : d < 5)
    (A : Ag (fun q' i => ¬ ((q + 2 ≤ q' ∧ q' ≤ q + 5) ∨ (q' = q ∧ (i = 8 ∨ i = 13 ∨ i = 15)))) M M') (a1 : gL M' q 8 = gL M (29 + 6 * d) 2) (a2 : gI M' q 13 = gI M (29 + 6 * d) 3) (a3 : gI M' q 15 = gI M (29 + 6 * d) 4)
    (a4 : ∀ c, c < 40 → gI M' (q + 1 + 1) c = gI M (29 + 6 * d + 1 + 1) c ∧ gL M' (q + 1 + 2) c = gL M (29 + 6 * d + 1 + 2) c ∧ gI M' (q + 1 + 3) c = gI M (29 + 6 * d + 1 + 3) c ∧ gI M' (q + 1 + 4) c = gI M (29 + 6 * d + 1 + 4) c)
    (B : Ag (fun q' i => ¬ ((q' = 176 ∧ i = j) ∨ (163 ≤ q' ∧ q' ≤ 167 ∧ 40 * j ≤ i ∧ i < 40 * j + 40) ∨ (q' = 170 ∧ i = j) ∨ (q' = 172 ∧ i = j))) N N') (b1 : gI N' 170 j = gI N 181 (6 * j + (d + 1))) (b2 : gI N' 172 j = gI N 182 (6 * j + (d + 1))) (b3 : ∀ c, c < 40 → cp5 N N' 183 (40 * (d + 1)) 163 (40 * j) c) : TA q j n m a M' N' := by
  obtain ⟨k1, k2, k3, k4, k5, k6⟩ := K
  refine ⟨?_, ?_, ?_, ?_, ?_, ?_, ?_, ?_, ?_, ?_, ?_, ?_, ?_, ?_⟩
  · rw [B.i (by omega)]; exact T.sl
  · rw [A.l (by omega), B.l (by omega)]; exact T.x
  · rw [a1]
    exact k1.cq a4 b3 (fun c hc => ⟨B.i (by omega), B.l (by omega), B.i (by omega), B.i (by omega)⟩)
  · intro c
    rw [A.l (by omega), B.b (by omega)]; exact T.rd c
  · intro c hc
    rw [B.b (by omega), B.i (by omega), B.i (by omega)]; exact T.rv c hc
  · rw [A.i (by omega)]; exact T.st
  · rw [B.i (by omega)]; exact T.st'
  · rw [a2]; exact k3
  · rw [b1]; exact k4
  · intro i h1 h2
    rw [A.l (by omega), B.l (by omega)]; exact T.sv i (by omega) h2
  · rw [a3]; exact k5
  · rw [b2]; exact k6
  · intro i h1 h2
    rw [A.i (by omega), A.i (by omega), A.l (by omega), B.i (by omega), B.i (by omega), B.l (by omega)]
    exact T.ab i (by omega) h2
  · rw [A.i (by omega), B.i (by omega)]; exact T.to
def NT (mo : Int32) (k : Nat) : Prop := ¬ (mo = 1 ∧ k ≠ 10 ∧ k ≠ 11) ∧ ¬ (mo = 2 ∧ (k = 8 ∨ k = 11))
theorem nI_m1 {f : Nat} : nI (f + 1) + (-1) = nI f := by
  rw [← Int32.sub_eq_add_neg]
  exact pk_sub (a := f + 1) (b := 1) (by omega)
theorem cd_le {k : Nat} (h1 : 1 ≤ k) (h2 : k ≤ 11) : (cd k ≤ 0 ↔ k = 11) ∧ (cd k = 10 ↔ k = 10) ∧ (cd k = -1 ↔ k = 11) ∧ (cd k = 8 ↔ k = 8) ∧ ¬ cd k = 0 := by
  have : ∀ k, k < 12 → 1 ≤ k → ((cd k ≤ 0 ↔ k = 11) ∧ (cd k = 10 ↔ k = 10) ∧ (cd k = -1 ↔ k = 11) ∧ (cd k = 8 ↔ k = 8) ∧ ¬ cd k = 0) := by unfold cd; decide +kernel
  exact this k (by omega) h1
theorem tk_no {j f k G : Nat} {N : Mem} (hj : j < 4) (hf : f + 1 < 6) (hs : gI N 119 46 = nI j) (h1 : 1 ≤ k) (h2 : k ≤ 11) (hk : gI N 119 78 = cd k) (nt : NT (gI N 179 (6 * j + (f + 1))) k) : f_X9_isTaken_12 (G + 1) N (nI (f + 1)) = f_X9_isTaken_12 G N (nI f) := by
  obtain ⟨c1, c2, c3, c4, c5⟩ := cd_le h1 h2
  rw [f_X9_isTaken_12, if_neg (show ¬ nI (f + 1) ≤ 0 from nI_ge (a := 0) (b := f + 1) (by omega) (by omega)), hs, mx (K := 6) 6 j (f + 1) rfl, inR_nI (show 6 * j + (f + 1) < 24 by omega) (by decide), gd_w, lt_w, nI_clamp (show 6 * j + (f + 1) < 2 ^ 31 by omega), hk]
  unfold NT at nt
  generalize gI N 179 (6 * j + (f + 1)) = mo at *
  have fin : f_X9_isTaken_84 (f_X9_isTaken_12 G) N (nI (f + 1)) 0 = f_X9_isTaken_12 G N (nI f) := by
    unfold f_X9_isTaken_84 f_X9_isTaken_85
    rw [if_pos rfl, if_pos rfl, lt_w, nI_m1]
  have s56 : f_X9_isTaken_56 (f_X9_isTaken_12 G) N (nI (f + 1)) mo = f_X9_isTaken_12 G N (nI f) := by
    unfold f_X9_isTaken_56 f_X9_isTaken_57
    rw [hk]
    by_cases z : mo = 2
    · have z2 : ¬ (k = 8 ∨ k = 11) := fun w => nt.2 ⟨z, w⟩
      rw [if_pos z, if_neg (fun w => z2 (Or.inr (c3.mp w))), if_neg (fun w => z2 (Or.inl (c4.mp w)))]
      exact fin
    · rw [if_neg z]
      exact fin
  by_cases z : mo = 1
  · rw [if_pos z]
    have z2 : ¬ (k ≠ 10 ∧ k ≠ 11) := fun w => nt.1 ⟨z, w⟩
    by_cases y : k = 11
    · rw [if_pos (c1.mpr y)]
      exact s56
    · have y2 : k = 10 := by omega
      rw [if_neg (fun w => y (c1.mp w)), if_pos (c2.mpr y2)]
      exact s56
  · rw [if_neg z]
    exact s56
theorem tk_lp {j k : Nat} {N : Mem} (hj : j < 4) (hs : gI N 119 46 = nI j) (h1 : 1 ≤ k) (h2 : k ≤ 11) (hk : gI N 119 78 = cd k) (f : Nat) : ∀ r G, f + r < 6 → (∀ i, f < i → i ≤ f + r → NT (gI N 179 (6 * j + i)) k) → f_X9_isTaken_12 (G + r) N (nI (f + r)) = f_X9_isTaken_12 G N (nI f)
  | 0, G, _, _ => rfl
  | r + 1, G, h, nt => by
    have e := tk_no (G := G + r) (f := f + r) hj (by omega) hs h1 h2 hk (nt (f + r + 1) (by omega) (by omega))
    rw [show G + (r + 1) = G + r + 1 by omega, show f + (r + 1) = f + r + 1 by omega, e]
    exact tk_lp hj hs h1 h2 hk f r G (by omega) (fun i i1 i2 => nt i i1 (by omega))
theorem tk_17 {j f k G : Nat} {N : Mem} (hj : j < 4) (hf : f + 1 < 6) (hs : gI N 119 46 = nI j) (h1 : 1 ≤ k) (h2 : k ≤ 9) (hk : gI N 119 78 = cd k) (mo : gI N 179 (6 * j + (f + 1)) = nI 1) : f_X9_isTaken_12 (G + 1) N (nI (f + 1)) = f_X9_isTaken_96 N (nI (f + 1)) 1 := by
  obtain ⟨c1, c2, c3, c4, c5⟩ := cd_le h1 (show k ≤ 11 by omega)
  rw [f_X9_isTaken_12, if_neg (show ¬ nI (f + 1) ≤ 0 from nI_ge (a := 0) (b := f + 1) (by omega) (by omega)), hs, mx (K := 6) 6 j (f + 1) rfl, inR_nI (show 6 * j + (f + 1) < 24 by omega) (by decide), gd_w, lt_w, nI_clamp (show 6 * j + (f + 1) < 2 ^ 31 by omega), hk, mo, if_pos (show nI 1 = 1 from rfl), if_neg (fun w => absurd (c1.mp w) (by omega)), if_neg (fun w => absurd (c2.mp w) (by omega))]
  unfold f_X9_isTaken_57 f_X9_isTaken_84 f_X9_isTaken_85
  rw [if_neg (show ¬ nI 1 = 2 by decide), if_neg (show ¬ (1 : Int32) = 0 by decide)]
theorem tk_18 {j f k G : Nat} {N : Mem} (hj : j < 4) (hf : f + 1 < 6) (hs : gI N 119 46 = nI j) (h1 : k = 8 ∨ k = 11) (hk : gI N 119 78 = cd k) (mo : gI N 179 (6 * j + (f + 1)) = nI 2) : f_X9_isTaken_12 (G + 1) N (nI (f + 1)) = f_X9_isTaken_96 N (nI (f + 1)) 0 := by
  obtain ⟨c1, c2, c3, c4, c5⟩ := cd_le (show 1 ≤ k by omega) (show k ≤ 11 by omega)
  rw [f_X9_isTaken_12, if_neg (show ¬ nI (f + 1) ≤ 0 from nI_ge (a := 0) (b := f + 1) (by omega) (by omega)), hs, mx (K := 6) 6 j (f + 1) rfl, inR_nI (show 6 * j + (f + 1) < 24 by omega) (by decide), gd_w, lt_w, nI_clamp (show 6 * j + (f + 1) < 2 ^ 31 by omega), mo, if_neg (show ¬ nI 2 = 1 by decide)]
  unfold f_X9_isTaken_56 f_X9_isTaken_57
  rw [if_pos (show nI 2 = 2 from rfl), hk]
  have e : f_X9_isTaken_80 (f_X9_isTaken_12 G) N (nI (f + 1)) 0 = f_X9_isTaken_96 N (nI (f + 1)) 0 := by
    unfold f_X9_isTaken_80 f_X9_isTaken_85
    rw [if_pos rfl, if_neg (show ¬ (1 : Int32) = 0 by decide)]
  by_cases z : k = 11
  · rw [if_pos (c3.mpr z)]
    exact e
  · rw [if_neg (fun w => z (c3.mp w)), if_pos (c4.mpr (by omega))]
    exact e
theorem neg_k : ∀ k, k < 12 → Int32.toInt64 ((-1) - nI k) = (-1) - Int32.toInt64 (nI k) := by decide +kernel
theorem t96_1 {q j d n m a m' a' k p : Nat} {M N : Mem} (T : TA q j n m' a' M N) (K : MK j d m a M N) (hm : m ≤ m') (ha : a ≤ a') (hq : 65 ≤ q) (hj : j < 4) (hd : d < 5) (h1 : 1 ≤ k) (h2 : k ≤ 9) (hk : gI N 119 78 = cd k) (hp : gI N 178 (6 * j + d) = nI p) :
    ∃ M' N', f_X0_undo q (29 + 6 * d) M = some M' ∧ f_X9_isTaken_96 N (nI (d + 1)) 1 = some (true, N') ∧ TA q j n m a (sL M' q 6 (Int32.toInt64 ((-1) - nI k))) N' ∧ gI N' 119 78 = 0 ∧ gI N' 176 j = nI (d + 1) ∧ gI N' 178 (6 * j + d) = nI (p + 1) ∧
    Ag (fun q' i => ¬ ((q + 2 ≤ q' ∧ q' ≤ q + 5) ∨ (q' = q ∧ (i = 6 ∨ i = 8 ∨ i = 13 ∨ i = 15)))) M (sL M' q 6 (Int32.toInt64 ((-1) - nI k))) ∧ Ag (fun q' i => ¬ ((q' = 119 ∧ (i = 47 ∨ i = 78)) ∨ (q' = 176 ∧ i = j) ∨ (163 ≤ q' ∧ q' ≤ 167 ∧ 40 * j ≤ i ∧ i < 40 * j + 40) ∨ (q' = 170 ∧ i = j) ∨ (q' = 172 ∧ i = j) ∨ (q' = 178 ∧ i = 6 * j + d))) N N' := by
  obtain ⟨M', e1, A, a1, a2, a3, a4⟩ := undoC_eq (M := M) hq (show d < 6 by omega)
  have T0 : TA q j n m' a' M (sI N 176 j (nI (d + 1 + 1))) := T.ag Ag.rf (Ag.rf.tI (by unfold PN; omega))
  have K0 : MK j d m a M (sI N 176 j (nI (d + 1 + 1))) := K.ag (P := fun _ _ => True) (Q := fun q' _ => q' ≠ 176) Ag.rf (Ag.rf.tI (by omega)) (fun _ _ _ => trivial) (fun q' i z => by omega)
  obtain ⟨N', e2, b0, b1, b2, B, b3⟩ := undo_eq (d := d + 1) hj (by omega) T0.sl gI_s
  have T1 := T0.un K0 hm ha hq hj hd A a1 a2 a3 a4 B b1 b2 b3
  have f1 : gI N' 119 78 = cd k := by rw [B.i (by omega)]; simp (disch := omega) only [gI_s, gL_s, gB_s, gI_ne, gL_ne, gB_ne, gI_tL, gI_tB, gL_tI, gL_tB, gB_tI, gB_tL]; exact hk
  have f2 : gI N' 178 (6 * j + d) = nI p := by rw [B.i (by omega)]; simp (disch := omega) only [gI_s, gL_s, gB_s, gI_ne, gL_ne, gB_ne, gI_tL, gI_tB, gL_tI, gL_tB, gB_tI, gB_tL]; exact hp
  have B' : Ag (fun q' i => ¬ ((q' = 176 ∧ i = j) ∨ (163 ≤ q' ∧ q' ≤ 167 ∧ 40 * j ≤ i ∧ i < 40 * j + 40) ∨ (q' = 170 ∧ i = j) ∨ (q' = 172 ∧ i = j))) N N' := (Ag.rf.tI (by omega)).tr B
  have ck : cd k = nI k := by unfold cd; rw [if_neg (by omega)]
  have T2 : TF q j n m a M' N' (sL M' q 6 (Int32.toInt64 ((-1) - nI k))) (sL N' 119 47 (Int32.toInt64 ((-1) - nI k))) := TF.px ⟨T1, Ag.rf, Ag.rf⟩ rfl
  refine ⟨M', sI (sI (sL N' 119 47 (Int32.toInt64 ((-1) - nI k))) 178 (6 * j + d) (nI (p + 1))) 119 78 0, e1, ?_, ?_, ?_, ?_, ?_, ?_, ?_⟩
  · unfold f_X9_isTaken_96
    rw [T.sl, inR_nI hj (by decide), gd_w, lt_w, nI_clamp (show j < 2 ^ 31 by omega), nI_1, e2, sb_w, lt_w, T1.sl, mx (K := 6) 6 j (d + 1) rfl, if_neg (show ¬ (1 : Int32) = 0 by decide), lt_w, show nI (6 * j + (d + 1)) - 1 = nI (6 * j + d) from pk_sub (a := 6 * j + (d + 1)) (b := 1) (by omega), inR_nI (show 6 * j + d < 24 by omega) (by decide), gd_w, gd_w, lt_w, f1, ck, ← neg_k k (by omega), nI_clamp (show 6 * j + d < 2 ^ 31 by omega)]
    rw [show gI (sL N' 119 47 (Int32.toInt64 ((-1) - nI k))) 178 (6 * j + d) = nI p by simp (disch := omega) only [gI_s, gL_s, gB_s, gI_ne, gL_ne, gB_ne, gI_tL, gI_tB, gL_tI, gL_tB, gB_tI, gB_tL]; exact f2, nI_1]
    unfold f_X9_isTaken_202
    rw [lt_w]
  · exact T2.t.ag Ag.rf ((Ag.rf.tI (by unfold PN; omega)).tI (by unfold PN; omega))
  · simp (disch := omega) only [gI_s, gL_s, gB_s, gI_ne, gL_ne, gB_ne, gI_tL, gI_tB, gL_tI, gL_tB, gB_tI, gB_tL]
  · simp (disch := omega) only [gI_s, gL_s, gB_s, gI_ne, gL_ne, gB_ne, gI_tL, gI_tB, gL_tI, gL_tB, gB_tI, gB_tL]; exact b0
  · simp (disch := omega) only [gI_s, gL_s, gB_s, gI_ne, gL_ne, gB_ne, gI_tL, gI_tB, gL_tI, gL_tB, gB_tI, gB_tL]
  · exact (A.mo (fun q' i z => by omega)).tL (by omega)
  · exact (((B'.mo (fun q' i z => by omega)).tL (by omega)).tI (by omega)).tI (by omega)
theorem t96_0 {q j d n m a m' a' p t : Nat} {M N : Mem} (T : TA q j n m' a' M N) (K : MK j d m a M N) (hm : m ≤ m') (ha : a ≤ a') (hq : 65 ≤ q) (hj : j < 4) (hd : d < 5) (ht : gI N 177 (6 * j + d) = nI t) (hp : gI N 178 (6 * j + d) = nI p) (htp : 24 * t + p < 384) :
    ∃ M' N', f_X0_undo q (29 + 6 * d) M = some M' ∧ f_X9_isTaken_96 N (nI (d + 1)) 0 = some (true, N') ∧ TA q j n m a (sL M' q 6 (gL M' (29 + 6 * d) 1)) N' ∧ gI N' 119 78 = 0 ∧ gI N' 176 j = nI (d + 2) ∧ gI N' 177 (6 * j + (d + 1)) = gI N 131 (24 * t + p) ∧ gI N' 178 (6 * j + (d + 1)) = nI 0 ∧ gI N' 179 (6 * j + (d + 1)) = nI 0 ∧
    Ag (fun q' i => ¬ ((q + 2 ≤ q' ∧ q' ≤ q + 5) ∨ (q' = q ∧ (i = 6 ∨ i = 8 ∨ i = 13 ∨ i = 15)))) M (sL M' q 6 (gL M' (29 + 6 * d) 1)) ∧ Ag (fun q' i => ¬ ((q' = 119 ∧ (i = 47 ∨ i = 78)) ∨ (q' = 176 ∧ i = j) ∨ (163 ≤ q' ∧ q' ≤ 167 ∧ 40 * j ≤ i ∧ i < 40 * j + 40) ∨ (q' = 170 ∧ i = j) ∨ (q' = 172 ∧ i = j) ∨ (177 ≤ q' ∧ q' ≤ 182 ∧ i = 6 * j + (d + 1)) ∨ (183 ≤ q' ∧ q' ≤ 187 ∧ 40 * (d + 1) ≤ i ∧ i < 40 * (d + 1) + 40))) N N' := by
  obtain ⟨M', e1, A, a1, a2, a3, a4⟩ := undoC_eq (M := M) hq (show d < 6 by omega)
  have T0 : TA q j n m' a' M (sI N 176 j (nI (d + 1 + 1))) := T.ag Ag.rf (Ag.rf.tI (by unfold PN; omega))
  have K0 : MK j d m a M (sI N 176 j (nI (d + 1 + 1))) := K.ag (P := fun _ _ => True) (Q := fun q' _ => q' ≠ 176) Ag.rf (Ag.rf.tI (by omega)) (fun _ _ _ => trivial) (fun q' i z => by omega)
  obtain ⟨N', e2, b0, b1, b2, B, b3⟩ := undo_eq (d := d + 1) hj (by omega) T0.sl gI_s
  have T1 := T0.un K0 hm ha hq hj hd A a1 a2 a3 a4 B b1 b2 b3
  have B' : Ag (fun q' i => ¬ ((q' = 176 ∧ i = j) ∨ (163 ≤ q' ∧ q' ≤ 167 ∧ 40 * j ≤ i ∧ i < 40 * j + 40) ∨ (q' = 170 ∧ i = j) ∨ (q' = 172 ∧ i = j))) N N' := (Ag.rf.tI (by omega)).tr B
  have f2 : gI N' 178 (6 * j + d) = nI p := by rw [B'.i (by omega)]; exact hp
  have f3 : gI N' 177 (6 * j + d) = nI t := by rw [B'.i (by omega)]; exact ht
  have hx : gL M' (29 + 6 * d) 1 = gL N' 180 (6 * j + (d + 1)) := by rw [A.l (by omega), B'.l (by omega)]; exact K.2.1
  have T2 : TF q j n m a M' N' (sL M' q 6 (gL M' (29 + 6 * d) 1)) (sL N' 119 47 (gL N' 180 (6 * j + (d + 1)))) := TF.px ⟨T1, Ag.rf, Ag.rf⟩ hx
  obtain ⟨N2, e3, c1, c2, c3, c4, c5, c6, c7, c8, C⟩ := enter_eq (d := d + 1) (mo := 0) hj (by omega) (by omega) T2.t.sl (by simp (disch := omega) only [gI_s, gL_s, gB_s, gI_ne, gL_ne, gB_ne, gI_tL, gI_tB, gL_tI, gL_tB, gB_tI, gB_tL]; exact b0) (gI (sL N' 119 47 (gL N' 180 (6 * j + (d + 1)))) 131 (24 * t + p))
  refine ⟨M', sI N2 119 78 0, e1, ?_, ?_, ?_, ?_, ?_, ?_, ?_, ?_, ?_⟩
  · unfold f_X9_isTaken_96
    rw [T.sl, inR_nI hj (by decide), gd_w, lt_w, nI_clamp (show j < 2 ^ 31 by omega), nI_1, e2, sb_w, lt_w, T1.sl, mx (K := 6) 6 j (d + 1) rfl, if_pos rfl, inR_nI (show 6 * j + (d + 1) < 24 by omega) (by decide), gd_w, lt_w, show nI (6 * j + (d + 1)) - 1 = nI (6 * j + d) from pk_sub (a := 6 * j + (d + 1)) (b := 1) (by omega), inR_nI (show 6 * j + d < 24 by omega) (by decide), gd_w, gd_w, nI_clamp (show 6 * j + d < 2 ^ 31 by omega), nI_clamp (show 6 * j + (d + 1) < 2 ^ 31 by omega)]
    rw [show gI (sL N' 119 47 (gL N' 180 (6 * j + (d + 1)))) 177 (6 * j + d) = nI t by simp (disch := omega) only [gI_s, gL_s, gB_s, gI_ne, gL_ne, gB_ne, gI_tL, gI_tB, gL_tI, gL_tB, gB_tI, gB_tL]; exact f3, show gI (sL N' 119 47 (gL N' 180 (6 * j + (d + 1)))) 178 (6 * j + d) = nI p by simp (disch := omega) only [gI_s, gL_s, gB_s, gI_ne, gL_ne, gB_ne, gI_tL, gI_tB, gL_tI, gL_tB, gB_tI, gB_tL]; exact f2, mx (K := 24) 24 t p rfl, inR_nI htp (by decide), gd_w, nI_clamp (show 24 * t + p < 2 ^ 31 by omega), show (0 : Int32) = nI 0 from rfl, e3, sb_w]
    unfold f_X9_isTaken_202
    rw [lt_w]
    rfl
  · exact T2.t.ag Ag.rf ((C.mo (fun q' i z => by unfold PN at z; omega)).tI (by unfold PN; omega))
  · simp (disch := omega) only [gI_s, gL_s, gB_s, gI_ne, gL_ne, gB_ne, gI_tL, gI_tB, gL_tI, gL_tB, gB_tI, gB_tL]
  · simp (disch := omega) only [gI_s, gL_s, gB_s, gI_ne, gL_ne, gB_ne, gI_tL, gI_tB, gL_tI, gL_tB, gB_tI, gB_tL]; exact c1
  · simp (disch := omega) only [gI_s, gL_s, gB_s, gI_ne, gL_ne, gB_ne, gI_tL, gI_tB, gL_tI, gL_tB, gB_tI, gB_tL]; rw [c2]; simp (disch := omega) only [gI_s, gL_s, gB_s, gI_ne, gL_ne, gB_ne, gI_tL, gI_tB, gL_tI, gL_tB, gB_tI, gB_tL]; exact B'.i (by omega)
  · simp (disch := omega) only [gI_s, gL_s, gB_s, gI_ne, gL_ne, gB_ne, gI_tL, gI_tB, gL_tI, gL_tB, gB_tI, gB_tL]; exact c3
  · simp (disch := omega) only [gI_s, gL_s, gB_s, gI_ne, gL_ne, gB_ne, gI_tL, gI_tB, gL_tI, gL_tB, gB_tI, gB_tL]; exact c4
  · exact (A.mo (fun q' i z => by omega)).tL (by omega)
  · exact (((B'.mo (fun q' i z => by omega)).tL (by omega)).tr (C.mo (fun q' i z => by omega))).tI (by omega)

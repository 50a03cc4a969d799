theorem TA.sm {q j n m a : Nat} {M N M' : Mem} (T : TA q j n m a M N) (A : Ag (fun q' i => ¬ ((q + 2 ≤ q' ∧ q' ≤ q + 5) ∨ (q' = q ∧ (i = 8 ∨ i = 13 ∨ i = 15)) ∨ (29 ≤ q' ∧ q' < 65))) M M') (hq : 65 ≤ q) (a1 : gL M' q 8 = gL M q 8) (a2 : gI M' q 13 = gI M q 13) (a3 : gI M' q 15 = gI M q 15)
    (a4 : ∀ c, c < 40 → gI M' (q + 1 + 1) c = gI M (q + 1 + 1) c ∧ gL M' (q + 1 + 2) c = gL M (q + 1 + 2) c ∧ gI M' (q + 1 + 3) c = gI M (q + 1 + 3) c ∧ gI M' (q + 1 + 4) c = gI M (q + 1 + 4) c) : TA q j n m a M' N := by
  refine ⟨T.sl, ?_, ?_, ?_, T.rv, ?_, T.st', ?_, T.sa', ?_, ?_, T.ac', ?_, ?_⟩
  · rw [A.l (by omega)]; exact T.x
  · rw [a1]
    exact T.ce.cq a4 (fun c _ => ⟨rfl, rfl, rfl, rfl, rfl⟩) (fun c _ => ⟨rfl, rfl, rfl, rfl⟩)
  · intro c
    rw [A.l (by omega)]; exact T.rd c
  · rw [A.i (by omega)]; exact T.st
  · rw [a2]; exact T.sa
  · intro i h1 h2
    rw [A.l (by omega)]; exact T.sv i h1 h2
  · rw [a3]; exact T.ac
  · intro i h1 h2
    rw [A.i (by omega), A.i (by omega), A.l (by omega)]
    exact T.ab i h1 h2
  · rw [A.i (by omega)]; exact T.to
theorem KC.mk {q d : Nat} {M M' : Mem} (h : Ag (fun q' i => ¬ (29 + 6 * d ≤ q' ∧ q' < 29 + 6 * d + 6)) M M') (hd : d < 6) : Ag (KC q d) M M' := h.mo (fun q' i z w => z (Or.inr (Or.inr (Or.inr (Or.inr (⟨w.1, by omega⟩))))))
theorem KC.un {q d : Nat} {M M' : Mem} (h : Ag (fun q' i => ¬ ((q + 2 ≤ q' ∧ q' ≤ q + 5) ∨ (q' = q ∧ (i = 8 ∨ i = 13 ∨ i = 15)))) M M') : Ag (KC q d) M M' := by
  refine h.mo (fun q' i z w => ?_)
  rcases w with w | w
  · exact z (Or.inr (Or.inl w))
  · exact z (Or.inl ⟨w.1, by omega, by omega⟩)
theorem KC.t9 {q d : Nat} {M M' : Mem} (h : Ag (fun q' i => ¬ ((q + 2 ≤ q' ∧ q' ≤ q + 5) ∨ (q' = q ∧ (i = 6 ∨ i = 8 ∨ i = 13 ∨ i = 15)))) M M') : Ag (KC q d) M M' := by
  refine h.mo (fun q' i z w => ?_)
  rcases w with w | w
  · exact z (Or.inr (Or.inl w))
  · exact z (Or.inl ⟨w.1, by omega, by omega⟩)
theorem KR.en {j d : Nat} {N N' : Mem} (h : Ag (fun q' i => ¬ ((q' = 176 ∧ i = j) ∨ (177 ≤ q' ∧ q' ≤ 182 ∧ i = 6 * j + (d + 1)) ∨ (183 ≤ q' ∧ q' ≤ 187 ∧ 40 * (d + 1) ≤ i ∧ i < 40 * (d + 1) + 40))) N N') (hd : d < 5) : Ag (KR j d) N N' := by
  refine h.mo (fun q' i z w => ?_)
  rcases w with w | w | w
  · exact z (Or.inr (Or.inr (Or.inr (Or.inr (Or.inr (Or.inr (Or.inl w)))))))
  · by_cases e : q' = 178
    · exact z (Or.inr (Or.inr (Or.inr (Or.inr (Or.inr (Or.inr (Or.inr (Or.inl ⟨e, by omega, by omega⟩))))))))
    · exact z (Or.inr (Or.inr (Or.inr (Or.inr (Or.inr (Or.inr (Or.inr (Or.inr (Or.inl ⟨by omega, by omega, by omega⟩)))))))))
  · exact z (Or.inr (Or.inr (Or.inr (Or.inr (Or.inr (Or.inr (Or.inr (Or.inr (Or.inr (⟨w.1, w.2.1, w.2.2.1, by omega⟩))))))))))
theorem KR.t1 {j d : Nat} {N N' : Mem} (h : Ag (fun q' i => ¬ ((q' = 119 ∧ (i = 47 ∨ i = 78)) ∨ (q' = 176 ∧ i = j) ∨ (163 ≤ q' ∧ q' ≤ 167 ∧ 40 * j ≤ i ∧ i < 40 * j + 40) ∨ (q' = 170 ∧ i = j) ∨ (q' = 172 ∧ i = j) ∨ (q' = 178 ∧ i = 6 * j + d))) N N') (hd : d < 5) : Ag (KR j d) N N' := by
  refine h.mo (fun q' i z w => ?_)
  rcases w with w | w | w | w | w | w
  · exact z (Or.inl ⟨w.1, by omega⟩)
  · exact z (Or.inr (Or.inr (Or.inr (Or.inr (Or.inr (Or.inr (Or.inl w)))))))
  · exact z (Or.inr (Or.inl ⟨w.1, by omega, w.2.2⟩))
  · exact z (Or.inr (Or.inr (Or.inl w)))
  · exact z (Or.inr (Or.inr (Or.inr (Or.inr (Or.inl w)))))
  · exact z (Or.inr (Or.inr (Or.inr (Or.inr (Or.inr (Or.inr (Or.inr (Or.inl ⟨w.1, by omega, by omega⟩))))))))
theorem KR.t0 {j d : Nat} {N N' : Mem} (h : Ag (fun q' i => ¬ ((q' = 119 ∧ (i = 47 ∨ i = 78)) ∨ (q' = 176 ∧ i = j) ∨ (163 ≤ q' ∧ q' ≤ 167 ∧ 40 * j ≤ i ∧ i < 40 * j + 40) ∨ (q' = 170 ∧ i = j) ∨ (q' = 172 ∧ i = j) ∨ (177 ≤ q' ∧ q' ≤ 182 ∧ i = 6 * j + (d + 1)) ∨ (183 ≤ q' ∧ q' ≤ 187 ∧ 40 * (d + 1) ≤ i ∧ i < 40 * (d + 1) + 40))) N N') (hd : d < 5) : Ag (KR j d) N N' := by
  refine h.mo (fun q' i z w => ?_)
  rcases w with w | w | w | w | w | w | w
  · exact z (Or.inl ⟨w.1, by omega⟩)
  · exact z (Or.inr (Or.inr (Or.inr (Or.inr (Or.inr (Or.inr (Or.inl w)))))))
  · exact z (Or.inr (Or.inl ⟨w.1, by omega, w.2.2⟩))
  · exact z (Or.inr (Or.inr (Or.inl w)))
  · exact z (Or.inr (Or.inr (Or.inr (Or.inr (Or.inl w)))))
  · by_cases e : q' = 178
    · exact z (Or.inr (Or.inr (Or.inr (Or.inr (Or.inr (Or.inr (Or.inr (Or.inl ⟨e, by omega, by omega⟩))))))))
    · exact z (Or.inr (Or.inr (Or.inr (Or.inr (Or.inr (Or.inr (Or.inr (Or.inr (Or.inl ⟨by omega, by omega, by omega⟩)))))))))
  · exact z (Or.inr (Or.inr (Or.inr (Or.inr (Or.inr (Or.inr (Or.inr (Or.inr (Or.inr (⟨w.1, w.2.1, w.2.2.1, by omega⟩))))))))))
def TL (F j : Nat) (r_1 : Mem) : Option Mem := if gI r_1 119 78 = 0 then f_X9_attempt_117 F r_1 (nI j) 1 else Option.bind (f_X9_isTaken r_1) fun r => if bI r.1 = 0 then f_X9_attempt_117 F r.2 (nI j) 0 else f_X9_attempt_117 F r.2 (nI j) 1
theorem TL_0 {F j : Nat} {N : Mem} (h : gI N 119 78 = 0) : TL F j N = f_X9_attempt_117 F N (nI j) 1 := by
  unfold TL
  rw [if_pos h]
theorem TL_k {F j k : Nat} {N : Mem} (h : gI N 119 78 = cd k) (h1 : 1 ≤ k) (h2 : k ≤ 11) (h3 : k ≠ 10) : TL F j N = CT k F j N := by
  unfold TL CT
  rw [if_neg h3, if_neg (by rw [h]; exact (cd_le h1 h2).2.2.2.2)]
theorem isU17 : ∀ k, k < 12 → f_X0_isUndone 17 (nI k) = some (decide (k ≠ 0 ∧ k ≠ 10 ∧ k ≠ 11)) := by decide +kernel
theorem isU18 : ∀ k, k < 12 → f_X0_isUndone 18 (nI k) = some (decide (k = 8 ∨ k = 11)) := by decide +kernel
def SIM (q j d : Nat) : Prop := ∀ tr n m a F (M N : Mem), HD q j d n m a tr 0 M N → 3 * (40 - n) + (d + 1) + 1 < F → ∃ e M', f_T q (7 - d) M (nI tr) (nI d) = some (e, M') ∧ Out q j d n m a tr M N (f_X9_attempt_117 F N (nI j) 1) e M'
def GP (j d o p : Nat) (t1 : Int32) (N : Mem) : Option Mem := if d = 5 then (if o = 17 then some (sI (sL (sI (sI N 119 78 9) 119 78 0) 119 47 (-10)) 178 (6 * j + d) (nI (p + 1))) else some (sI N 119 78 9)) else f_X9_enter N t1 (nI (o - 16))
theorem deep (q : Nat) (M : Mem) (t : Int32) : f_T q 1 M t (nI 5 + 1) = some (9, M) := by
  rw [f_T]
  unfold f_X0_doTrade
  rw [if_neg (by decide)]
theorem nt_0 (k : Nat) : NT (nI 0) k := ⟨fun h => absurd h.1 (by decide), fun h => absurd h.1 (by decide)⟩
section
variable {q j d n m a tr p F o t1 : Nat} {M N : Mem}
theorem part5 (hq : 65 ≤ q) (hj : j < 4) (hd : d = 5) (T : TA q j n m a M N) (RT : RTr M N) (hp : gI N 176 j = nI (d + 1)) (h7 : gI N 177 (6 * j + d) = nI tr) (h8 : gI N 178 (6 * j + d) = nI p) (mn : m ≤ n) (an : a ≤ n) (n40 : n ≤ 40) (htr : tr < 16) (hp24 : p < 24) (w7 : gI M (q + 6) d = nI tr) (w8 : gI M (q + 7) d = nI p) (w10 : gI M q 10 = nI (d + 1)) (ho : o = 16 ∨ o = 17 ∨ o = 18) (a2 : Int32) (pot : 3 * (40 - n) + (d + 2) + 1 < F) :
    ∃ e M', f_X0_doPart (f_T q (6 - d)) q M (nI o) (nI t1) a2 (nI d) = some (e, M') ∧ POut q j d n m a tr p M N (Option.bind (GP j d o p (nI t1) N) (TL F j)) e M' := by
  subst hd
  unfold f_X0_doPart GP
  have fail : ∀ M1, TA q j n m a M1 N → Ag (fun q' i => ¬ (29 + 6 * 5 ≤ q' ∧ q' < 29 + 6 * 5 + 6)) M M1 → POut q j 5 n m a tr p M N (Option.bind (some (sI N 119 78 9)) (TL F j)) 9 M1 := by
    intro M1 T1 A
    right
    refine ⟨9, rfl, F, sI N 119 78 9, n, m, a, 6, ?_, ?_, gI_s, by omega, by omega, by omega, by omega, ?_, fun f g1 g2 => absurd g1 (by omega), ?_, ?_, mn, an, n40, by omega, by omega, by omega, by omega, fun _ => by omega, ?_, ?_⟩
    · rw [sb_w, TL_k (k := 9) (N := sI N 119 78 9) (by rw [gI_s]; rfl) (by omega) (by omega) (by omega)]
    · exact T1.ag Ag.rf (Ag.rf.tI (by unfold PN; omega))
    · simp (disch := omega) only [gI_s, gL_s, gB_s, gI_ne, gL_ne, gB_ne, gI_tL, gI_tB, gL_tI, gL_tB, gB_tI, gB_tL]; exact hp
    · rw [A.i (by omega)]; exact w10
    · intro i g1 g2
      have : i = 5 := by omega
      subst this
      rw [A.i (by omega), A.i (by omega)]
      simp (disch := omega) only [gI_s, gL_s, gB_s, gI_ne, gL_ne, gB_ne, gI_tL, gI_tB, gL_tI, gL_tB, gB_tI, gB_tL]
      exact ⟨w7.trans h7.symm, w8.trans h8.symm⟩
    · exact KC.mk A (by omega)
    · exact Ag.rf.tI (by unfold KR; omega)
  rcases ho with rfl | rfl | rfl
  · rw [if_pos (show nI 16 = 16 from rfl), show 6 - 5 = 1 from rfl, deep, sb_w, if_pos rfl, if_neg (by omega)]
    exact ⟨9, M, rfl, fail M T Ag.rf⟩
  · rw [if_neg (show ¬ nI 17 = 16 by decide), inR_nI (show 5 < 6 by decide) (by decide), gd_w, nI_clamp (show 5 < 2 ^ 31 by decide)]
    obtain ⟨M1, e1, A1, b1, b2, b3, b4, b5⟩ := mark_eq (q := q) (d := 5) (M := M) hq (by omega)
    obtain ⟨M2, e2, A2, c2, c3, c4, c5⟩ := undoC_eq (q := q) (d := 5) (M := M1) hq (by omega)
    rw [e1, sb_w, show 6 - 5 = 1 from rfl, deep, sb_w]
    rw [show f_X0_isUndone (nI 17) 9 = some true from by decide +kernel, sb_w, if_neg (show ¬ bI true = 0 by decide), e2, sb_w, if_pos (show nI 17 = 17 from rfl), lt_w, if_pos rfl, if_pos rfl]
    refine ⟨0, _, rfl, Or.inl ⟨rfl, F, sI (sL (sI (sI N 119 78 9) 119 78 0) 119 47 (-10)) 178 (6 * j + 5) (nI (p + 1)), n, m, a, ?_, ?_, by omega, by omega, by omega, by omega, ?_, ?_⟩⟩
    · rw [sb_w, TL_0 (by simp (disch := omega) only [gI_s, gL_s, gB_s, gI_ne, gL_ne, gB_ne, gI_tL, gI_tB, gL_tI, gL_tB, gB_tI, gB_tL])]
    · have T2 : TA q j n m a M2 N := by
        refine T.sm ((A1.mo (fun q' i z => by omega)).tr (A2.mo (fun q' i z => by omega))) hq ?_ ?_ ?_ ?_
        · rw [c2, b2]
        · rw [c3, b3]
        · rw [c4, b4]
        · intro c hc
          obtain ⟨x1, x2, x3, x4⟩ := c5 c hc
          obtain ⟨y1, y2, y3, y4⟩ := b5 c hc
          exact ⟨x1.trans y1, x2.trans y2, x3.trans y3, x4.trans y4⟩
      have T3 : TF q j n m a M2 N (sL M2 q 6 (Int32.toInt64 ((-1) - 9))) (sL (sI (sI N 119 78 9) 119 78 0) 119 47 (-10)) := TF.px ((TF.pf ⟨T2, Ag.rf, Ag.rf⟩ 9).pf 0) rfl
      refine ⟨T3.t.ag Ag.rf (Ag.rf.tI (by unfold PN; omega)), ?_, ?_, ?_, ?_, ?_, mn, an, n40, htr, by omega⟩
      · exact RT.ag (P := fun q' _ => q' ≤ 16) (Q := fun q' _ => 119 < q' ∧ q' < 150) (((A1.mo (fun q' i z => by omega)).tr (A2.mo (fun q' i z => by omega))).tL (by omega)) ((((Ag.rf.tI (by omega)).tI (by omega)).tL (by omega)).tI (by omega)) (fun q' i z => by omega) (fun q' i z => by omega)
      · simp (disch := omega) only [gI_s, gL_s, gB_s, gI_ne, gL_ne, gB_ne, gI_tL, gI_tB, gL_tI, gL_tB, gB_tI, gB_tL]; exact hp
      · simp (disch := omega) only [gI_s, gL_s, gB_s, gI_ne, gL_ne, gB_ne, gI_tL, gI_tB, gL_tI, gL_tB, gB_tI, gB_tL]; exact h7
      · simp (disch := omega) only [gI_s, gL_s, gB_s, gI_ne, gL_ne, gB_ne, gI_tL, gI_tB, gL_tI, gL_tB, gB_tI, gB_tL]
      · simp (disch := omega) only [gI_s, gL_s, gB_s, gI_ne, gL_ne, gB_ne, gI_tL, gI_tB, gL_tI, gL_tB, gB_tI, gB_tL]
    · exact ((KC.mk A1 (by omega)).tr (KC.un A2)).tL (by unfold KC; omega)
    · exact (((Ag.rf.tI (by unfold KR; omega)).tI (by unfold KR; omega)).tL (by unfold KR; omega)).tI (by unfold KR; omega)
  · rw [if_neg (show ¬ nI 18 = 16 by decide), inR_nI (show 5 < 6 by decide) (by decide), gd_w, nI_clamp (show 5 < 2 ^ 31 by decide)]
    obtain ⟨M1, e1, A1, b1, b2, b3, b4, b5⟩ := mark_eq (q := q) (d := 5) (M := M) hq (by omega)
    rw [e1, sb_w, show 6 - 5 = 1 from rfl, deep, sb_w]
    rw [show f_X0_isUndone (nI 18) 9 = some false from by decide +kernel, sb_w, if_pos (show bI false = 0 from rfl), if_pos rfl, if_neg (by omega)]
    exact ⟨9, M1, rfl, fail M1 (T.ag (A1.mo (fun q' i z => by unfold PM at z; omega)) Ag.rf) A1⟩
theorem taken_at {k D : Nat} (hj : j < 4) (hs : gI N 119 46 = nI j) (hD : gI N 176 j = nI D) (h1 : d + 2 ≤ D) (h2 : D ≤ 6) (k1 : 1 ≤ k) (k2 : k ≤ 11) (hk : gI N 119 78 = cd k) (nt : ∀ f, d + 1 < f → f < D → NT (gI N 179 (6 * j + f)) k) : ∃ G, f_X9_isTaken N = f_X9_isTaken_12 (G + 1) N (nI (d + 1)) := by
  unfold f_X9_isTaken
  have e := tk_lp hj hs k1 k2 hk (d + 1) (D - (d + 2)) (4990 + 1) (by omega) (fun i i1 i2 => nt i i1 (by omega))
  have e2 : ∀ r G, f_X9_isTaken_12 (G + r) N (nI (d + 1)) = f_X9_isTaken_12 (G + r) N (nI (d + 1)) := fun _ _ => rfl
  refine ⟨FU - (D - (d + 2)) - 1, ?_⟩
  have e3 := tk_lp hj hs k1 k2 hk (d + 1) (D - (d + 2)) (FU - (D - (d + 2)) - 1 + 1) (by omega) (fun i i1 i2 => nt i i1 (by omega))
  rw [hs, inR_nI hj (by decide), gd_w, lt_w, nI_clamp (show j < 2 ^ 31 by omega), hD, show nI D - 1 = nI (D - 1) from pk_sub (a := D) (b := 1) (by omega), ← e3]
  rw [show FU - (D - (d + 2)) - 1 + 1 + (D - (d + 2)) = FU by unfold FU; omega, show d + 1 + (D - (d + 2)) = D - 1 by omega]
theorem part4 (hq : 65 ≤ q) (hj : j < 4) (hd : d < 5) (IH : SIM q j (d + 1)) (T : TA q j n m a M N) (RT : RTr M N) (hp : gI N 176 j = nI (d + 1)) (h7 : gI N 177 (6 * j + d) = nI tr) (h8 : gI N 178 (6 * j + d) = nI p) (hf : gI N 119 78 = 0) (mn : m ≤ n) (an : a ≤ n) (n40 : n ≤ 40) (htr : tr < 16) (hp24 : p < 24) (w7 : gI M (q + 6) d = nI tr) (w8 : gI M (q + 7) d = nI p) (ho : o = 16 ∨ o = 17 ∨ o = 18) (ht1 : t1 < 16) (a2 : Int32) (ha2 : o = 18 → a2 = gI N 131 (24 * tr + p) ∧ ∃ t2, t2 < 16 ∧ a2 = nI t2) (pot : 3 * (40 - n) + (d + 2) + 1 < F) :
    ∃ e M', f_X0_doPart (f_T q (6 - d)) q M (nI o) (nI t1) a2 (nI d) = some (e, M') ∧ POut q j d n m a tr p M N (Option.bind (GP j d o p (nI t1) N) (TL F j)) e M' := by
  unfold f_X0_doPart GP
  rw [if_neg (show ¬ d = 5 by omega), show 6 - d = 7 - (d + 1) by omega]
  by_cases h16 : o = 16
  · subst h16
    rw [if_pos (show nI 16 = 16 from rfl), nI_1]
    obtain ⟨N1, e1, b1, b2, b3, b4, -, -, -, -, B⟩ := enter_eq (d := d + 1) (mo := 0) hj (by omega) (by omega) T.sl hp (nI t1)
    obtain ⟨e, M', c1, c2⟩ := IH t1 n m a F M N1 ⟨T.ag Ag.rf (B.mo (fun q' i z => by unfold PN at z; omega)), RT.ag (P := fun _ _ => True) (Q := fun q' _ => q' < 150) Ag.rf (B.mo (fun q' i z => by omega)) (fun _ _ _ => trivial) (fun q' i z => by omega), b1, b2, b3, by rw [B.i (by omega)]; exact hf, mn, an, n40, ht1, by omega⟩ pot
    rw [c1, sb_w, show 16 - 16 = 0 from rfl, e1, sb_w, TL_0 (by rw [B.i (by omega)]; exact hf)]
    refine ⟨e, M', rfl, ?_⟩
    refine POut.pre (after hq hj hd c2 htr hp24 (by rw [B.i (by omega)]; exact h7) (by rw [B.i (by omega)]; exact h8) w7 w8 (fun k _ _ _ => by rw [b4]; exact nt_0 k)) (Nat.le_refl _) (Nat.le_refl _) (Nat.le_refl _) Ag.rf ?_
    exact KR.en B hd
  · have hni : ¬ nI o = 16 := by rcases ho with rfl | rfl | rfl; exact absurd rfl h16; decide; decide
    rw [if_neg hni, inR_nI (show d < 6 by omega) (by decide), gd_w, nI_clamp (show d < 2 ^ 31 by omega), nI_1]
    obtain ⟨M1, N1, e1, e2, T1, K1, b1, b2, b3, b4, A, B⟩ := T.mk (mo := o - 16) hq hj hd (by omega) (by omega) hp (nI t1)
    have RT1 : RTr M1 N1 := RT.ag (P := fun q' _ => q' < 29) (Q := fun q' _ => q' < 150) (A.mo (fun q' i z => by omega)) (B.mo (fun q' i z => by omega)) (fun q' i z => by omega) (fun q' i z => by omega)
    have f1 : gI N1 119 78 = 0 := by rw [B.i (by omega)]; exact hf
    obtain ⟨e, M2, c1, c2⟩ := IH t1 n m a F M1 N1 ⟨T1, RT1, b1, b2, b3, f1, mn, an, n40, ht1, by omega⟩ pot
    have h71 : gI N1 177 (6 * j + d) = nI tr := by rw [B.i (by omega)]; exact h7
    have h81 : gI N1 178 (6 * j + d) = nI p := by rw [B.i (by omega)]; exact h8
    have w71 : gI M1 (q + 6) d = nI tr := by rw [A.i (by omega)]; exact w7
    have w81 : gI M1 (q + 7) d = nI p := by rw [A.i (by omega)]; exact w8
    have AK : Ag (KC q d) M M1 := KC.mk A (by omega)
    have BK : Ag (KR j d) N N1 := KR.en B hd
    rw [e1, sb_w, c1, sb_w, e2, sb_w, TL_0 f1]
    -- not undone
    have pass : (∀ k, e = nI k → 1 ≤ k → k ≤ 11 → NT (nI (o - 16)) k) → POut q j d n m a tr p M N (f_X9_attempt_117 F N1 (nI j) 1) e M2 := fun nt =>
      POut.pre (after hq hj hd c2 htr hp24 h71 h81 w71 w81 (fun k x y z => by rw [b4]; exact nt k x y z)) (Nat.le_refl _) (Nat.le_refl _) (Nat.le_refl _) AK BK
    by_cases u : f_X0_isUndone (nI o) e = some false
    · rw [u, sb_w, if_pos (show bI false = 0 from rfl)]
      refine ⟨e, M2, rfl, pass ?_⟩
      intro k x y z
      subst x
      rcases ho with rfl | rfl | rfl
      · exact absurd rfl h16
      · have := isU17 k (by omega)
        rw [show f_X0_isUndone (nI 17) (nI k) = f_X0_isUndone 17 (nI k) from rfl, this] at u
        have u := of_decide_eq_false (Option.some.inj u)
        exact ⟨fun w => u ⟨by omega, w.2.1, w.2.2⟩, fun w => absurd w.1 (by decide)⟩
      · have := isU18 k (by omega)
        rw [show f_X0_isUndone (nI 18) (nI k) = f_X0_isUndone 18 (nI k) from rfl, this] at u
        have u := of_decide_eq_false (Option.some.inj u)
        exact ⟨fun w => absurd w.1 (by decide), fun w => u w.2⟩
    · rcases c2 with ⟨h0, -⟩ | ⟨k, h0, F', N2, n2, m2, a2', D, r1, T2, r3, r4, r5, r6, r7, r8, r9, r10, r11, r12, r13, r14, r15, r16, r17, r18, r19, A2, B2⟩
      · exfalso
        apply u
        subst h0
        rcases ho with rfl | rfl | rfl
        · exact absurd rfl h16
        · decide +kernel
        · decide +kernel
      · subst h0
        have K2 : MK j d m a M2 N2 := K1.ag A2 B2 (fun q' i z => by unfold KC; omega) (fun q' i z => by unfold KR; omega)
        have RT2 : RTr M2 N2 := RT1.ag A2 B2 (fun q' i z => by unfold KC; omega) (fun q' i z => by unfold KR; omega)
        have h82 : gI N2 178 (6 * j + d) = nI p := by rw [B2.i (by unfold KR; omega)]; exact h81
        have h72 : gI N2 177 (6 * j + d) = nI tr := by rw [B2.i (by unfold KR; omega)]; exact h71
        have mo2 : gI N2 179 (6 * j + (d + 1)) = nI (o - 16) := by rw [B2.i (by unfold KR; omega)]; exact b4
        obtain ⟨G, tk⟩ := taken_at (d := d) hj T2.sl r8 r6 r7 r4 r5 r3 r9
        rcases ho with rfl | rfl | rfl
        · exact absurd rfl h16
        · have hu := isU17 k (by omega)
          have hk : k ≠ 0 ∧ k ≠ 10 ∧ k ≠ 11 := by
            apply Classical.byContradiction
            intro w
            apply u
            rw [show f_X0_isUndone (nI 17) (nI k) = f_X0_isUndone 17 (nI k) from rfl, hu, decide_eq_false w]
          rw [show f_X0_isUndone (nI 17) (nI k) = f_X0_isUndone 17 (nI k) from rfl, hu, decide_eq_true hk, sb_w, if_neg (show ¬ bI true = 0 by decide)]
          obtain ⟨M3, N3, g1, g2, T3, g4, g5, g6, A3, B3⟩ := t96_1 T2 K2 r16 r17 hq hj hd r4 (show k ≤ 9 by omega) r3 h82
          rw [g1, sb_w, if_pos (show nI 17 = 17 from rfl), lt_w]
          rw [tk_17 hj (by omega) T2.sl r4 (by omega) r3 mo2, g2] at tk
          have hR : f_X9_attempt_117 F N1 (nI j) 1 = f_X9_attempt_117 F' N3 (nI j) 1 := by
            rw [r1]
            unfold CT
            rw [if_neg hk.2.1, tk, sb_w, if_neg (show ¬ bI true = 0 by decide)]
          refine ⟨0, _, rfl, Or.inl ⟨rfl, F', N3, n2, m, a, hR, ⟨T3, ?_, g5, ?_, g6, g4, by omega, by omega, r14, htr, by omega⟩, r15, Nat.le_refl _, Nat.le_refl _, ?_, ?_, ?_⟩⟩
          · exact RT2.ag A3 B3 (fun q' i z => by omega) (fun q' i z => by omega)
          · rw [B3.i (by omega)]; exact h72
          · have := r19 hk.2.1
            omega
          · exact (AK.tr A2.up).tr (KC.t9 A3)
          · exact (BK.tr B2.vp).tr (KR.t1 B3 hd)
        · have hu := isU18 k (by omega)
          have hk : k = 8 ∨ k = 11 := by
            apply Classical.byContradiction
            intro w
            apply u
            rw [show f_X0_isUndone (nI 18) (nI k) = f_X0_isUndone 18 (nI k) from rfl, hu, decide_eq_false w]
          rw [show f_X0_isUndone (nI 18) (nI k) = f_X0_isUndone 18 (nI k) from rfl, hu, decide_eq_true hk, sb_w, if_neg (show ¬ bI true = 0 by decide)]
          obtain ⟨M3, N3, g1, g2, T3, g4, g5, g6, g7, g8, A3, B3⟩ := t96_0 T2 K2 r16 r17 hq hj hd h72 h82 (by omega)
          rw [g1, sb_w, if_neg (show ¬ nI 18 = 17 by decide), lt_w]
          rw [tk_18 hj (by omega) T2.sl hk r3 mo2, g2] at tk
          have hR : f_X9_attempt_117 F N1 (nI j) 1 = f_X9_attempt_117 F' N3 (nI j) 1 := by
            rw [r1]
            unfold CT
            rw [if_neg (by omega), tk, sb_w, if_neg (show ¬ bI true = 0 by decide)]
          obtain ⟨x1, t2, x2, x3⟩ := ha2 rfl
          have A03 : Ag (KC q d) M (sL M3 q 6 (gL M3 (29 + 6 * d) 1)) := (AK.tr A2.up).tr (KC.t9 A3)
          have B03 : Ag (KR j d) N N3 := (BK.tr B2.vp).tr (KR.t0 B3 hd)
          have g6' : gI N3 177 (6 * j + (d + 1)) = nI t2 := by
            rw [g6, B2.i (by unfold KR; omega), BK.i (by unfold KR; omega), ← x1, x3]
          have RT3 := RT2.ag A3 B3 (fun q' i z => by omega) (fun q' i z => by omega)
          obtain ⟨e', M4, y1, y2⟩ := IH t2 n2 m a F' (sL M3 q 6 (gL M3 (29 + 6 * d) 1)) N3 ⟨T3, RT3, g5, g6', g7, g4, by omega, by omega, r14, x2, by omega⟩ (by have := r19 (by omega); omega)
          rw [x3, y1, sb_w, hR]
          refine ⟨e', M4, rfl, ?_⟩
          refine POut.pre (after hq hj hd y2 htr hp24 ?_ ?_ ?_ ?_ (fun k _ _ _ => by rw [g8]; exact nt_0 k)) r15 (Nat.le_refl _) (Nat.le_refl _) A03 B03
          · rw [B3.i (by omega)]; exact h72
          · rw [B3.i (by omega)]; exact h82
          · rw [A3.i (by omega), A2.i (by unfold KC; omega)]; exact w71
          · rw [A3.i (by omega), A2.i (by unfold KC; omega)]; exact w81
end

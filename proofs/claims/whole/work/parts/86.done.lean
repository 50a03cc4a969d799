theorem ka_eq (r q : Nat) (X : Mem) : f_X6_keepAnswers r q X = some (cpL (sI X r 16 (gI X q 13)) (q + 8) 0 (r + 3) 0 8) := by
  unfold f_X6_keepAnswers
  rw [show okC 0 0 8 8 8 = true by decide]
  rfl
theorem cnt_lt {N : Mem} {t nT : Nat} (ht : t < nT) (h : ¬ gI N 138 t = 1) : cntD N nT + 1 ≤ nT := by
  have e := cntD_1 (N := N) (N' := sI N 138 t 1) (t := t) (fun i hi => gI_ne (Or.inr hi)) h nT
  rw [if_pos ⟨ht, gI_s⟩] at e
  rw [← e]
  exact cntD_le _ nT
def Z0 (t : Nat) (N N' : Mem) : Prop := ∀ s, s ≠ t → gI N 138 s = 0 → gI N' 138 s = 0
theorem Z0.tr {t : Nat} {N N' N'' : Mem} (h : Z0 t N N') (h' : Z0 t N' N'') : Z0 t N N'' := fun s hs h0 => h' s hs (h s hs h0)
theorem Z0.ag {t : Nat} {N N' : Mem} {Q : Nat → Nat → Prop} (B : Ag Q N N') (hB : ∀ i, i ≠ t → Q 138 i) : Z0 t N N' := fun s hs h0 => by rw [B.i (hB s hs)]; exact h0
set_option maxHeartbeats 4000000 in
theorem eff_eq {nT e t q j m a D : Nat} {V : Nat → Int32} {M N : Mem} (R : R2 nT e M N) (S : SL q j t 0 m a D V M N) (h1q : 65 ≤ q) (hq : q + 12 ≤ 113) (ht : t < nT) (hj : j < 4) (st : gI N 138 t = 0) :
    ∃ M' N', f_X8_takeEffect nT (189 + 4 * t) q M = some M' ∧ f_X9_takeEffect N (nI t) (nI j) = some N' ∧ R2 nT (e + 1) M' N' ∧ (∀ c, c < 40 → gI N' 124 c = gI N 124 c + (if bt (gL M q 8) c = true then 1 else 0)) ∧ gL M' 0 13 = gL M 0 13 ||| gL M q 8 ∧ Ag (fun p _ => (29 ≤ p ∧ p ≤ 112) ∨ (119 ≤ p ∧ p ≤ 188)) M M' ∧ Ag (fun p i => p < 119 ∨ 159 ≤ p ∨ (p = 119 ∧ 43 ≤ i)) N N' ∧ Z0 t N N' := by
  obtain ⟨h1, h2, h3, h4, h5, h6, h7, h8, h9, h10, h11, h12, h13, h14, h15, h16, h17, h18, h19, h20⟩ := S
  obtain ⟨RC, RV, RH, RT, RR, RN, RK, RM⟩ := R
  have nT20 := RK.1
  have t1 := RK.t1 ht
  have elt : e + 1 ≤ nT := by rw [RM.2.2.1]; exact cnt_lt ht (by rw [st]; decide)
  have e9 : gI M 0 9 = nI e := RM.1
  have e38 : gI N 119 38 = nI e := RM.2.1
  generalize hw : gL M q 8 = w at *
  -- the class, up to its acts
  have c1 : ∃ X3, f_X8_takeEffect nT (189 + 4 * t) q M = f_X8_takeEffect_56 nT (189 + 4 * t) q FU X3 (nI 0) ∧ gI X3 (189 + 4 * t) 1 = 1 ∧ gI X3 (189 + 4 * t) 16 = nI (min m 8) ∧ (∀ i, i < 8 → gL X3 (189 + 4 * t + 3) i = gL M (q + 8) i) ∧ gI X3 118 e = nI t ∧ (∀ i, i ≠ e → gI X3 118 i = gI M 118 i) ∧ gI X3 0 9 = nI (e + 1) ∧ gL X3 0 13 = gL M 0 13 ||| w ∧ (∀ c, c < 40 → bt w c = true → (gI X3 3 c = gI M (q + 2) c ∧ gL X3 4 c = gL M (q + 3) c ∧ gI X3 5 c = gI M (q + 4) c ∧ gI X3 6 c = gI M (q + 5) c) ∧ cellW t M X3 c) ∧ (∀ c, c < 40 → bt w c = false → (gI X3 3 c = gI M 3 c ∧ gL X3 4 c = gL M 4 c ∧ gI X3 5 c = gI M 5 c ∧ gI X3 6 c = gI M 6 c) ∧ cellK M X3 c) ∧
      Ag (fun p i => ¬ ((p = 189 + 4 * t ∧ (i = 1 ∨ i = 16)) ∨ p = 189 + 4 * t + 3 ∨ p = 118 ∨ (p = 0 ∧ (i = 9 ∨ i = 13)) ∨ (3 ≤ p ∧ p ≤ 10))) M X3 := by
    unfold f_X8_takeEffect
    rw [lt_w, ka_eq, sb_w, show gI (sI M (189 + 4 * t) 1 1) q 13 = gI M q 13 from gI_ne (by omega), h12]
    have A1 : Ag (fun p i => ¬ ((p = 189 + 4 * t ∧ (i = 1 ∨ i = 16)) ∨ p = 189 + 4 * t + 3)) M (cpL (sI (sI M (189 + 4 * t) 1 1) (189 + 4 * t) 16 (nI (min m 8))) (q + 8) 0 (189 + 4 * t + 3) 0 8) := ((Ag.rf.tI (by omega)).tI (by omega)).tCL (fun i hi => by omega)
    have x1 : gI (cpL (sI (sI M (189 + 4 * t) 1 1) (189 + 4 * t) 16 (nI (min m 8))) (q + 8) 0 (189 + 4 * t + 3) 0 8) (189 + 4 * t) 1 = 1 := by rw [gI_cpL, gI_ne (by omega), gI_s]
    have x2 : gI (cpL (sI (sI M (189 + 4 * t) 1 1) (189 + 4 * t) 16 (nI (min m 8))) (q + 8) 0 (189 + 4 * t + 3) 0 8) (189 + 4 * t) 16 = nI (min m 8) := by rw [gI_cpL, gI_s]
    have x3 : ∀ i, i < 8 → gL (cpL (sI (sI M (189 + 4 * t) 1 1) (189 + 4 * t) 16 (nI (min m 8))) (q + 8) 0 (189 + 4 * t + 3) 0 8) (189 + 4 * t + 3) i = gL M (q + 8) i := fun i hi => by rw [gL_cp, if_pos ⟨rfl, hi⟩, gL_tI, gL_tI]
    generalize cpL (sI (sI M (189 + 4 * t) 1 1) (189 + 4 * t) 16 (nI (min m 8))) (q + 8) 0 (189 + 4 * t + 3) 0 8 = X1 at *
    have y9 : gI X1 0 9 = nI e := by rw [A1.i (by omega)]; exact e9
    have y3 : gI X1 q 3 = nI t := by rw [A1.i (by omega)]; exact h1
    rw [y9, y3, inR_nI (show e < 20 by omega) (by decide), gd_w, lt_w, nI_clamp (show e < 2 ^ 31 by omega), show gI (sI X1 118 e (nI t)) 0 9 = nI e by rw [gI_ne (by omega)]; exact y9, lt_w, nI_1]
    have A2 : Ag (fun p i => ¬ ((p = 118 ∧ i = e) ∨ (p = 0 ∧ i = 9))) X1 (sI (sI X1 118 e (nI t)) 0 9 (nI (e + 1))) := (Ag.rf.tI (by omega)).tI (by omega)
    have x4 : gI (sI (sI X1 118 e (nI t)) 0 9 (nI (e + 1))) 118 e = nI t := by rw [gI_ne (by omega), gI_s]
    have x5 : gI (sI (sI X1 118 e (nI t)) 0 9 (nI (e + 1))) 0 9 = nI (e + 1) := gI_s
    generalize sI (sI X1 118 e (nI t)) 0 9 (nI (e + 1)) = X2 at *
    unfold f_X5_takeWritten
    have w2 : gL X2 q 8 = w := by rw [A2.l (by omega), A1.l (by omega)]; exact hw
    rw [w2]
    obtain ⟨Y, f1, A3, f3⟩ := those_eq (qd := 2) (qs := q + 1) (by omega) w X2
    rw [f1, sb_w]
    have A3' : Ag (fun p _ => ¬ (3 ≤ p ∧ p ≤ 6)) X2 Y := A3.mo (fun p i z y => z ⟨by omega, by omega⟩)
    obtain ⟨Z, g1, A4, g3, g4⟩ := tw_lp (t := t) h1q w 40 0 FU Y (by rw [A3'.l (by omega)]; exact w2) (by rw [A3'.i (by omega), A2.i (by omega)]; exact y3) (fun c hc => by
      obtain ⟨n, n1, n2, n3, n4⟩ := RH c hc
      exact ⟨min n 12, by omega, by rw [A3'.i (by omega), A2.i (by omega), A1.i (by omega)]; exact n3⟩) (by omega) (by unfold FU; omega)
    rw [show (0 : Int32) = nI 0 from rfl, g1, sb_w, lt_w, A4.l (show ¬ (7 ≤ q ∧ q ≤ 10) by omega), A3'.l (show ¬ (3 ≤ q ∧ q ≤ 6) by omega), w2, A4.l (show ¬ (7 ≤ 0 ∧ 0 ≤ 10) by omega), A3'.l (show ¬ (3 ≤ 0 ∧ 0 ≤ 6) by omega), A2.l (by omega), A1.l (by omega)]
    have A5 : Ag (fun p i => ¬ (p = 0 ∧ i = 13)) Z (sL Z 0 13 (gL M 0 13 ||| w)) := Ag.rf.tL (by omega)
    have mb : ∀ p i, ¬ (3 ≤ p ∧ p ≤ 10) → ¬ ((p = 189 + 4 * t ∧ (i = 1 ∨ i = 16)) ∨ p = 189 + 4 * t + 3 ∨ p = 118 ∨ (p = 0 ∧ (i = 9 ∨ i = 13))) → gI (sL Z 0 13 (gL M 0 13 ||| w)) p i = gI M p i := fun p i z y => by rw [A5.i (by omega), A4.i (by omega), A3'.i (by omega), A2.i (by omega), A1.i (by omega)]
    have r710 : ∀ p i, 7 ≤ p → p ≤ 10 → gI Y p i = gI M p i := fun p i z y => by rw [A3'.i (by omega), A2.i (by omega), A1.i (by omega)]
    refine ⟨_, rfl, ?_, ?_, fun i hi => ?_, ?_, fun i hi => ?_, ?_, gL_s, fun c hc hb => ⟨?_, ?_⟩, fun c hc hb => ⟨?_, ?_⟩, ?_⟩
    · rw [A5.i (by omega), A4.i (by omega), A3'.i (by omega), A2.i (by omega)]; exact x1
    · rw [A5.i (by omega), A4.i (by omega), A3'.i (by omega), A2.i (by omega)]; exact x2
    · rw [A5.l (by omega), A4.l (by omega), A3'.l (by omega), A2.l (by omega)]; exact x3 i hi
    · rw [A5.i (by omega), A4.i (by omega), A3'.i (by omega)]; exact x4
    · rw [A5.i (by omega), A4.i (by omega), A3'.i (by omega), A2.i (by omega), A1.i (by omega)]
    · rw [A5.i (by omega), A4.i (by omega), A3'.i (by omega)]; exact x5
    · obtain ⟨u1, u2, u3, u4⟩ := f3 c hc hb
      rw [A5.i (by omega), A5.l (by omega), A5.i (by omega), A5.i (by omega), A4.i (by omega), A4.l (by omega), A4.i (by omega), A4.i (by omega)]
      refine ⟨u1.trans ?_, u2.trans ?_, u3.trans ?_, u4.trans ?_⟩
      · rw [A2.i (by omega), A1.i (by omega)]
      · rw [A2.l (by omega), A1.l (by omega)]
      · rw [A2.i (by omega), A1.i (by omega)]
      · rw [A2.i (by omega), A1.i (by omega)]
    · obtain ⟨u1, u2, u3⟩ := g4 c (by omega) hc hb
      refine ⟨?_, ?_, fun h h12 eh => ?_⟩
      · rw [A5.i (by omega), u1, r710 _ _ (by omega) (by omega)]
      · rw [A5.i (by omega)]; exact u2
      · obtain ⟨v1, v2⟩ := u3 h h12 (by rw [r710 _ _ (by omega) (by omega)]; exact eh)
        refine ⟨?_, fun i hi => ?_⟩
        · rw [A5.i (by omega)]; exact v1
        · rw [A5.i (by omega), v2 i hi, r710 _ _ (by omega) (by omega)]
    · have nb : ¬ bt w c = true := by rw [hb]; decide
      rw [A5.i (by omega), A5.l (by omega), A5.i (by omega), A5.i (by omega), A4.i (by omega), A4.l (by omega), A4.i (by omega), A4.i (by omega), A3.i (fun y => nb y.2.2.2), A3.l (fun y => nb y.2.2.2), A3.i (fun y => nb y.2.2.2), A3.i (fun y => nb y.2.2.2), A2.i (by omega), A2.l (by omega), A2.i (by omega), A2.i (by omega), A1.i (by omega), A1.l (by omega), A1.i (by omega), A1.i (by omega)]
      exact ⟨rfl, rfl, rfl, rfl⟩
    · obtain ⟨u1, u2, u3, u4⟩ := g3 c hc (Or.inr hb)
      refine ⟨?_, ?_, ?_, fun i hi => ?_⟩
      · rw [A5.i (by omega), u1, r710 _ _ (by omega) (by omega)]
      · rw [A5.i (by omega), u2, r710 _ _ (by omega) (by omega)]
      · rw [A5.i (by omega), u3, r710 _ _ (by omega) (by omega)]
      · rw [A5.i (by omega), u4 i hi, r710 _ _ (by omega) (by omega)]
    · exact ((((A1.mo (fun p i z => by omega)).tr (A2.mo (fun p i z => by omega))).tr (A3'.mo (fun p i z => by omega))).tr (A4.mo (fun p i z => by omega))).tr (A5.mo (fun p i z => by omega))
  -- the reference, up to its acts
  have c2 : ∃ N3, f_X9_takeEffect N (nI t) (nI j) = f_X9_takeEffect_226 FU N3 (nI t) (nI j) (nI 0) ∧ gI N3 138 t = 1 ∧ gI N3 155 e = nI t ∧ (∀ i, i ≠ e → gI N3 155 i = gI N 155 i) ∧ gI N3 119 38 = nI (e + 1) ∧ gI N3 147 t = nI m ∧ (∀ x, x < min m 8 → gL N3 146 (8 * t + x) = gL N 171 (8 * j + x)) ∧ (∀ c, c < 40 → gB N 163 (40 * j + c) = true → rcW t j N N3 c) ∧ (∀ c, c < 40 → gB N 163 (40 * j + c) = false → rcK N N3 c) ∧
      Ag (fun p i => ¬ ((120 ≤ p ∧ p ≤ 127) ∨ (p = 138 ∧ i = t) ∨ p = 155 ∨ (p = 119 ∧ i = 38) ∨ (p = 147 ∧ i = t) ∨ (p = 146 ∧ 8 * t ≤ i ∧ i < 8 * t + 8))) N N3 := by
    unfold f_X9_takeEffect
    obtain ⟨N1, F', f1, B1, f3, f4⟩ := te_lp (t := t) hj 40 0 FU N (fun c _ hc => by
      obtain ⟨n, n1, n2, n3, n4⟩ := RH c hc
      exact ⟨n, by omega, n2⟩) (by omega) (by unfold FU; omega)
    rw [show (0 : Int32) = nI 0 from rfl, f1, f_X9_takeEffect_2, if_pos (show (40 : Int32) ≤ nI 40 by decide), inR_nI (show t < 20 by omega) (by decide), gd_w, lt_w, nI_clamp (show t < 2 ^ 31 by omega), show gI (sI N1 138 t 1) 119 38 = nI e by rw [gI_ne (by omega), B1.i (by omega)]; exact e38, inR_nI (show e < 20 by omega) (by decide), gd_w, lt_w, nI_clamp (show e < 2 ^ 31 by omega), show gI (sI (sI N1 138 t 1) 155 e (nI t)) 119 38 = nI e by rw [gI_ne (by omega), gI_ne (by omega), B1.i (by omega)]; exact e38, lt_w, nI_1, inR_nI hj (by decide), gd_w, gd_w, lt_w, nI_clamp (show j < 2 ^ 31 by omega), show gI (sI (sI (sI N1 138 t 1) 155 e (nI t)) 119 38 (nI (e + 1))) 170 j = nI m by rw [gI_ne (by omega), gI_ne (by omega), gI_ne (by omega), B1.i (by omega)]; exact h13]
    have B2 : Ag (fun p i => ¬ ((p = 138 ∧ i = t) ∨ (p = 155 ∧ i = e) ∨ (p = 119 ∧ i = 38) ∨ (p = 147 ∧ i = t))) N1 (sI (sI (sI (sI N1 138 t 1) 155 e (nI t)) 119 38 (nI (e + 1))) 147 t (nI m)) := (((Ag.rf.tI (by omega)).tI (by omega)).tI (by omega)).tI (by omega)
    have x1 : gI (sI (sI (sI (sI N1 138 t 1) 155 e (nI t)) 119 38 (nI (e + 1))) 147 t (nI m)) 138 t = 1 := by simp (disch := omega) only [gI_s, gI_ne]
    have x2 : gI (sI (sI (sI (sI N1 138 t 1) 155 e (nI t)) 119 38 (nI (e + 1))) 147 t (nI m)) 155 e = nI t := by simp (disch := omega) only [gI_s, gI_ne]
    have x3 : gI (sI (sI (sI (sI N1 138 t 1) 155 e (nI t)) 119 38 (nI (e + 1))) 147 t (nI m)) 119 38 = nI (e + 1) := by simp (disch := omega) only [gI_s, gI_ne]
    have x4 : gI (sI (sI (sI (sI N1 138 t 1) 155 e (nI t)) 119 38 (nI (e + 1))) 147 t (nI m)) 147 t = nI m := gI_s
    generalize sI (sI (sI (sI N1 138 t 1) 155 e (nI t)) 119 38 (nI (e + 1))) 147 t (nI m) = N2 at *
    obtain ⟨N3, g1, B3, g3⟩ := an_lp (t := t) (m := m) (show t < 20 by omega) hj h14 (min m 8) 0 FU N2 (by rw [B2.i (by omega), B1.i (by omega)]; exact h13) (by omega) (by unfold FU; omega)
    rw [show (0 : Int32) = nI 0 from rfl, g1]
    have B23 : ∀ p i, 120 ≤ p → p ≤ 127 → gI N3 p i = gI N1 p i ∧ gL N3 p i = gL N1 p i := fun p i z y => ⟨by rw [B3.i (by omega), B2.i (by omega)], by rw [B3.l (by omega), B2.l (by omega)]⟩
    refine ⟨N3, rfl, ?_, ?_, fun i hi => ?_, ?_, ?_, fun x hx => ?_, fun c hc hb => ?_, fun c hc hb => ?_, ?_⟩
    · rw [B3.i (by omega)]; exact x1
    · rw [B3.i (by omega)]; exact x2
    · rw [B3.i (by omega), B2.i (by omega), B1.i (by omega)]
    · rw [B3.i (by omega)]; exact x3
    · rw [B3.i (by omega)]; exact x4
    · rw [g3 x (by omega) hx, B2.l (by omega), B1.l (by omega)]
    · obtain ⟨u0, u1, u2, u3, u4, u5, u6⟩ := f4 c (by omega) hc hb
      refine ⟨(B23 _ _ (by omega) (by omega)).1.trans u0, (B23 _ _ (by omega) (by omega)).2.trans u1, (B23 _ _ (by omega) (by omega)).1.trans u2, (B23 _ _ (by omega) (by omega)).1.trans u3, (B23 _ _ (by omega) (by omega)).1.trans u4, (B23 _ _ (by omega) (by omega)).1.trans u5, fun n hn en => ?_⟩
      obtain ⟨v1, v2⟩ := u6 n hn en
      exact ⟨(B23 _ _ (by omega) (by omega)).1.trans v1, fun i hi => (B23 _ _ (by omega) (by omega)).1.trans (v2 i hi)⟩
    · obtain ⟨u0, u1, u2, u3, u4, u5, u6, u7⟩ := f3 c hc (Or.inr hb)
      exact ⟨(B23 _ _ (by omega) (by omega)).1.trans u0, (B23 _ _ (by omega) (by omega)).2.trans u1, (B23 _ _ (by omega) (by omega)).1.trans u2, (B23 _ _ (by omega) (by omega)).1.trans u3, (B23 _ _ (by omega) (by omega)).1.trans u4, (B23 _ _ (by omega) (by omega)).1.trans u5, (B23 _ _ (by omega) (by omega)).1.trans u6, fun i hi => (B23 _ _ (by omega) (by omega)).1.trans (u7 i hi)⟩
    · exact ((B1.mo (fun p i z => by omega)).tr (B2.mo (fun p i z => by omega))).tr (B3.mo (fun p i z => by omega))
  obtain ⟨X3, a0, a1, a2, a3, a4, a5, a6, a7, a8, a9, AX⟩ := c1
  obtain ⟨N3, b0, b1, b2, b3, b4, b5, b6, b7, b8, BX⟩ := c2
  have bit : ∀ c, c < 40 → bt w c = gB N 163 (40 * j + c) := fun c hc => by rw [h8 c, decide_eq_true hc, Bool.true_and]
  have C3 : PCells X3 N3 := by
    intro c hc
    cases hb : bt w c with
    | true =>
      obtain ⟨⟨u0, u1, u2, u3⟩, -⟩ := a8 c hc hb
      have hg : gB N 163 (40 * j + c) = true := by rw [← bit c hc]; exact hb
      obtain ⟨v0, v1, v2, v3, -⟩ := b7 c hc hg
      rw [u0, u1, u2, u3, v0, v1, v2, v3]
      exact h9 c hc hg
    | false =>
      obtain ⟨⟨u0, u1, u2, u3⟩, -⟩ := a9 c hc hb
      obtain ⟨v0, v1, v2, v3, -⟩ := b8 c hc (by rw [← bit c hc]; exact hb)
      rw [u0, u1, u2, u3, v0, v1, v2, v3]
      exact RC c hc
  obtain ⟨n, n1, n2, n3, n4⟩ := RN
  obtain ⟨M8, N8, d1, d2, d3, d4, d5, AM8, BN8⟩ := acts_lp (nT := nT) (r := 189 + 4 * t) (t := t) (w := w) h1q hj h18 a 0 n FU FU X3 N3 (by omega) (by unfold FU; omega) (by unfold FU; omega) (by omega) (by rw [AX.i (by omega)]; exact h1) (by rw [AX.l (by omega)]; exact hw) (by rw [AX.i (by omega)]; exact h16) (by rw [BX.i (by omega)]; exact h17) C3 (fun i i1 i2 => by
    rw [AX.i (by omega), AX.i (by omega), AX.l (by omega), BX.i (by omega), BX.i (by omega), BX.l (by omega)]; exact h19 i i1 i2) (by rw [AX.i (by omega)]; exact n2) (by rw [BX.i (by omega)]; exact n3) (fun i i1 i2 => by
    rw [AX.i (by omega), AX.i (by omega), AX.l (by omega), BX.i (by omega), BX.i (by omega), BX.l (by omega)]; exact n4 i i1 i2)
  have AW : Ag (fun p i => ¬ ((p = 189 + 4 * t ∧ (i = 1 ∨ i = 16)) ∨ p = 189 + 4 * t + 3 ∨ p = 118 ∨ (p = 0 ∧ (i = 9 ∨ i = 13)) ∨ (3 ≤ p ∧ p ≤ 10) ∨ (22 ≤ p ∧ p ≤ 25))) M M8 := (AX.mo (fun p i z => by omega)).tr (AM8.mo (fun p i z => by omega))
  have BW : Ag (fun p i => ¬ ((120 ≤ p ∧ p ≤ 127) ∨ (p = 138 ∧ i = t) ∨ (155 ≤ p ∧ p ≤ 158) ∨ (p = 119 ∧ (i = 38 ∨ i = 42)) ∨ (p = 147 ∧ i = t) ∨ (p = 146 ∧ 8 * t ≤ i ∧ i < 8 * t + 8))) N N8 := (BX.mo (fun p i z => by omega)).tr (BN8.mo (fun p i z => by omega))
  have R8 : R2 nT (e + 1) M8 N8 := by
    refine ⟨C3.ag AM8 BN8 (fun q i z => by omega) (fun q i z => by omega), fun c hc => ?_, fun c hc => ?_, RT.ag AW BW (fun q i z => by omega) (fun q i z => by omega), RR.ag AW BW (fun q i z => by omega) (fun q i z => by omega), ⟨n + a, by omega, d3, d4, d5⟩, ?_, ?_⟩
    · rw [AM8.i (by omega), AM8.i (by omega), BN8.i (by omega), BN8.i (by omega)]
      cases hb : bt w c with
      | true =>
        obtain ⟨-, u7, u8, -⟩ := a8 c hc hb
        obtain ⟨-, -, -, -, v4, v5, -⟩ := b7 c hc (by rw [← bit c hc]; exact hb)
        rw [u7, u8, v4, v5, (RV c hc).1]
        exact ⟨rfl, rfl⟩
      | false =>
        obtain ⟨-, u7, u8, -⟩ := a9 c hc hb
        obtain ⟨-, -, -, -, v4, v5, -⟩ := b8 c hc (by rw [← bit c hc]; exact hb)
        rw [u7, u8, v4, v5]
        exact RV c hc
    · obtain ⟨y, y1, y2, y3, y4⟩ := RH c hc
      cases hb : bt w c with
      | true =>
        obtain ⟨-, -, -, u9⟩ := a8 c hc hb
        obtain ⟨-, -, -, -, -, -, v6⟩ := b7 c hc (by rw [← bit c hc]; exact hb)
        obtain ⟨p1, p2⟩ := u9 (min y 12) (by omega) y3
        obtain ⟨q1, q2⟩ := v6 y (by omega) y2
        refine ⟨y + 1, by omega, ?_, ?_, fun i i1 i2 => ?_⟩
        · rw [BN8.i (by omega)]; exact q1
        · rw [AM8.i (by omega), p1]; congr 1; omega
        · rw [AM8.i (by omega), BN8.i (by omega), p2 i i2, q2 i i2]
          by_cases z : i = y
          · rw [if_pos z, if_pos (by omega)]
          · rw [if_neg z, if_neg (by omega)]
            exact y4 i (by omega) i2
      | false =>
        obtain ⟨-, -, -, u9, u10⟩ := a9 c hc hb
        obtain ⟨-, -, -, -, -, -, v6, v7⟩ := b8 c hc (by rw [← bit c hc]; exact hb)
        refine ⟨y, by omega, ?_, ?_, fun i i1 i2 => ?_⟩
        · rw [BN8.i (by omega), v6]; exact y2
        · rw [AM8.i (by omega), u9]; exact y3
        · rw [AM8.i (by omega), BN8.i (by omega), u10 i i2, v7 i i2]
          exact y4 i i1 i2
    · refine RK.up ht AW BW (fun q i z => by omega) (fun q i z => by unfold qTk at z; omega) ?_
      obtain ⟨⟨tr, g1, g2, g3⟩, ⟨s, g4, g5, g6⟩, g7, g8, g9, g10, g11, g12, g13, g14, g15, g16, g17⟩ := t1
      have row : ∀ i, i ≠ 1 → i ≠ 16 → gI M8 (189 + 4 * t) i = gI M (189 + 4 * t) i := fun i i1 i2 => AW.i (by omega)
      refine ⟨⟨tr, g1, ?_, ?_⟩, ⟨1, by decide, ?_, ?_⟩, ?_, ?_, ?_, ?_, ?_, ?_, ?_, ?_, fun z => ?_, fun _ => ⟨m, h14, ?_, ?_, fun i i1 i2 => ?_⟩, fun _ => ?_⟩
      · rw [row _ (by decide) (by decide)]; exact g2
      · rw [BW.i (by omega)]; exact g3
      · rw [AM8.i (by omega)]; exact a1
      · rw [BN8.i (by omega)]; exact b1
      · rw [row _ (by decide) (by decide), BW.i (by omega)]; exact g7
      · rw [row _ (by decide) (by decide), BW.i (by omega)]; exact g8
      · rw [row _ (by decide) (by decide), BW.i (by omega)]; exact g9
      · rw [row _ (by decide) (by decide), BW.i (by omega)]; exact g10
      · rw [row _ (by decide) (by decide), BW.i (by omega)]; exact g11
      · rw [row _ (by decide) (by decide), BW.i (by omega)]; exact g12
      · rw [row _ (by decide) (by decide), BW.i (by omega)]; exact g13
      · exact g14.ag AW BW (fun q i z => by omega) (fun q i z => by unfold qTy at z; omega)
      · rw [BN8.i (by omega), b1] at z; exact absurd z (by decide)
      · rw [AM8.i (by omega)]; exact a2
      · rw [BN8.i (by omega)]; exact b5
      · rw [AM8.l (by omega), BN8.l (by omega), a3 i i2, b6 i (by omega)]; exact h15 i i1 i2
      · rw [BW.i (by omega)]; exact g17 (by rw [st]; decide)
    · obtain ⟨m1, m2, m3, m4, m5, m6, ww, o1, o2, o3, o4⟩ := RM
      refine ⟨?_, ?_, ?_, fun i hi => ?_, ?_, ?_, ww, o1, o2, ?_, ?_⟩
      · rw [AM8.i (by omega)]; exact a6
      · rw [BN8.i (by omega)]; exact b4
      · have := cntD_1 (N := N) (N' := N8) (t := t) (fun i hi => BW.i (by omega)) (by rw [st]; decide) nT
        rw [if_pos ⟨ht, by rw [BN8.i (by omega)]; exact b1⟩] at this
        rw [this, m3]
      · rw [AM8.i (by omega), BN8.i (by omega)]
        by_cases z : i = e
        · subst z; rw [a4, b2]
        · rw [a5 i z, b3 i z]; exact m4 i (by omega)
      · rw [AW.i (by omega), BW.i (by omega)]; exact m5
      · rw [AW.i (by omega), BW.i (by omega)]; exact m6
      · rw [AW.i (by omega)]; exact o3
      · rw [BW.i (by omega)]; exact o4
  obtain ⟨M9, N9, z1, z2, R9, A9, B9, z3⟩ := wake2 (t := t) (ch := w) R8 hj (fun c => by rw [BW.b (by omega)]; exact h8 c)
  refine ⟨M9, N9, ?_, ?_, R9, fun c hc => ?_, ?_, ?_, ?_, fun s hs h0 => z3 s (by rw [BW.i (by omega)]; exact h0)⟩
  · rw [a0, d1, z1, sb_w]
  · rw [b0, d2, z2]
  · rw [B9.i (by omega), BN8.i (by omega)]
    cases hb : bt w c with
    | true =>
      rw [if_pos rfl]
      exact (b7 c hc (by rw [← bit c hc]; exact hb)).2.2.2.2.1
    | false =>
      rw [if_neg (by decide), Int32.add_zero]
      exact (b8 c hc (by rw [← bit c hc]; exact hb)).2.2.2.2.1
  · rw [A9.l (by omega), AM8.l (by omega)]; exact a7
  · exact (AW.mo (fun p i z => by omega)).tr (A9.mo (fun p i z => by omega))
  · exact (BW.mo (fun p i z => by omega)).tr (B9.mo (fun p i z => by omega))

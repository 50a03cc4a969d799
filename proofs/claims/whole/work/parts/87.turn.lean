/-- the versions since the round began: V then -/
def VR (V : Nat → Int32) (x : Nat) (M N : Mem) : Prop := ∀ c, c < 40 → ∃ y, y ≤ x ∧ gI N 124 c = V c + nI y ∧ bt (gL M 0 13) c = decide (0 < y)
theorem VR.ag {V : Nat → Int32} {x x' : Nat} {M M' N N' : Mem} {P Q : Nat → Nat → Prop} (h : VR V x M N) (A : Ag P M M') (B : Ag Q N N') (hA : P 0 13) (hB : ∀ i, Q 124 i) (hx : x ≤ x') : VR V x' M' N' := by
  intro c hc
  obtain ⟨y, y1, y2, y3⟩ := h c hc
  exact ⟨y, by omega, by rw [B.i (hB _)]; exact y2, by rw [A.l hA]; exact y3⟩
theorem add_self {a : Int32} {y : Nat} (hy : y < 2 ^ 31) : a = a + nI y ↔ y = 0 := by
  constructor
  · intro h
    have h2 : nI y + a - a = a - a := by rw [Int32.add_comm (nI y) a, ← h]
    rw [Int32.add_sub_cancel, Int32.sub_self] at h2
    exact (nI_eq (a := y) (b := 0) hy (by decide)).mp h2
  · intro h
    subst h
    exact (Int32.add_zero a).symm
theorem VR.ch {V : Nat → Int32} {x : Nat} {M N : Mem} (h : VR V x M N) (hx : x ≤ 10) : ∀ c, c < 40 → (V c = gI N 124 c ↔ bt (gL M 0 13) c = false) := by
  intro c hc
  obtain ⟨y, y1, y2, y3⟩ := h c hc
  rw [y2, y3, add_self (by omega)]
  constructor
  · intro z; subst z; decide
  · intro z
    have := of_decide_eq_false z
    omega
theorem VR.eff {V : Nat → Int32} {x : Nat} {M M' N N' : Mem} {w : Int64} (h : VR V x M N) (h1 : ∀ c, c < 40 → gI N' 124 c = gI N 124 c + (if bt w c = true then 1 else 0)) (h2 : gL M' 0 13 = gL M 0 13 ||| w) : VR V (x + 1) M' N' := by
  intro c hc
  obtain ⟨y, y1, y2, y3⟩ := h c hc
  rw [h1 c hc, h2, bt_or, y3, y2]
  cases hb : bt w c with
  | true =>
    refine ⟨y + 1, by omega, ?_, ?_⟩
    · rw [if_pos rfl, Int32.add_assoc, nI_1]
    · rw [Bool.or_true]; exact (decide_eq_true (by omega)).symm
  | false =>
    refine ⟨y, by omega, ?_, ?_⟩
    · rw [if_neg (by decide), Int32.add_zero]
    · rw [Bool.or_false]
def tM (j p : Nat) (_ : Nat) : Prop := (65 ≤ p ∧ p ≤ 112 ∧ ¬ (65 + 12 * j ≤ p ∧ p < 65 + 12 * j + 12)) ∨ (119 ≤ p ∧ p ≤ 188)
def tN (j p i : Nat) : Prop := p < 119 ∨ 188 ≤ p ∨ (p = 119 ∧ i = 81) ∨ (159 ≤ p ∧ p ≤ 178 ∧ ¬ pSl j p i)
section
variable {nT e t j q k m a D x : Nat} {V W : Nat → Int32} {M M' N N' : Mem}
/-- what a turn may change of ticket t: all but its trade and who woke it -/
theorem R2.mod {P Q : Nat → Nat → Prop} (R : R2 nT e M N) (ht : t < nT) (A : Ag P M M') (B : Ag Q N N') (hA : ∀ p i, p ≤ 28 ∧ ¬ (p = 0 ∧ 13 ≤ i) ∨ p = 118 ∨ (189 ≤ p ∧ ¬ (189 + 4 * t ≤ p ∧ p ≤ 189 + 4 * t + 3)) → P p i) (hB : ∀ p i, (120 ≤ p ∧ p ≤ 158 ∧ ¬ qTk t p i) ∨ (p = 119 ∧ i ≤ 42) → Q p i) (n1 : ¬ gI N 138 t = 1) (n2 : ¬ gI N' 138 t = 1) (h1 : PT1 M' N' t) : R2 nT e M' N' := by
  obtain ⟨RC, RV, RH, RT, RR, RN, RK, RM⟩ := R
  refine ⟨RC.ag A B (fun p i z => hA p i (by omega)) (fun p i z => hB p i (by unfold qTk; omega)), RV.ag A B (fun p i z => hA p i (by omega)) (fun p i z => hB p i (by unfold qTk; omega)), RH.ag A B (fun p i z => hA p i (by omega)) (fun p i z => hB p i (by unfold qTk; omega)), RT.ag A B (fun p i z => hA p i (by omega)) (fun p i z => hB p i (by unfold qTk; omega)), RR.ag A B (fun p i z => hA p i (by omega)) (fun p i z => hB p i (by unfold qTk; omega)), RN.ag A B (fun p i z => hA p i (by omega)) (fun p i z => hB p i (by unfold qTk; omega)), ?_, ?_⟩
  · exact RK.up ht A B (fun p i z => hA p i (by omega)) (fun p i z => hB p i (z.elim (fun y => Or.inl ⟨by omega, by omega, y.2.2⟩) (fun y => Or.inr ⟨y.1, by omega⟩))) h1
  · obtain ⟨m1, m2, m3, m4, m5, m6, ww, o1, o2, o3, o4⟩ := RM
    refine ⟨?_, ?_, ?_, fun i hi => ?_, ?_, ?_, ww, o1, o2, ?_, ?_⟩
    · rw [A.i (hA _ _ (by omega))]; exact m1
    · rw [B.i (hB _ _ (by omega))]; exact m2
    · have := cntD_1 (N := N) (N' := N') (t := t) (fun i hi => B.i (hB _ _ (by unfold qTk; omega))) n1 nT
      rw [if_neg (fun z => n2 z.2)] at this
      rw [this, m3]; rfl
    · rw [A.i (hA _ _ (by omega)), B.i (hB _ _ (by unfold qTk; omega))]; exact m4 i hi
    · rw [A.i (hA _ _ (by omega)), B.i (hB _ _ (by omega))]; exact m5
    · rw [A.i (hA _ _ (by omega)), B.i (hB _ _ (by omega))]; exact m6
    · rw [A.i (hA _ _ (by omega))]; exact o3
    · rw [B.i (hB _ _ (by omega))]; exact o4
theorem R2.t1 (R : R2 nT e M N) (ht : t < nT) : PT1 M N t := R.2.2.2.2.2.2.1.t1 ht
theorem R2.n20 (R : R2 nT e M N) : nT ≤ 20 := R.2.2.2.2.2.2.1.1
/-- the try that counts is kept -/
theorem R2.kept (R : R2 nT e M N) (ht : t < nT) (st : gI N 138 t = 0) (A : Ag (fun p i => ¬ ((p = 189 + 4 * t ∧ 9 ≤ i ∧ i ≤ 13) ∨ p = 189 + 4 * t + 1 ∨ p = 189 + 4 * t + 2)) M M') (B : Ag (fun p i => ¬ qTy t p i) N N') (T : PTry M' N' t) : R2 nT e M' N' := by
  have s' : gI N' 138 t = 0 := by rw [B.i (by unfold qTy; omega)]; exact st
  refine R.mod ht A B (fun p i z => by omega) (fun p i z => by unfold qTk at z; unfold qTy; omega) (by rw [st]; decide) (by rw [s']; decide) ?_
  obtain ⟨⟨tr, g1, g2, g3⟩, ⟨s, g4, g5, g6⟩, g7, g8, g9, g10, g11, g12, g13, g14, g15, g16, g17⟩ := R.t1 ht
  refine ⟨⟨tr, g1, ?_, ?_⟩, ⟨s, g4, ?_, ?_⟩, ?_, ?_, ?_, ?_, ?_, ?_, ?_, T, fun z => ?_, fun z => ?_, fun z => ?_⟩
  · rw [A.i (by omega)]; exact g2
  · rw [B.i (by unfold qTy; omega)]; exact g3
  · rw [A.i (by omega)]; exact g5
  · rw [B.i (by unfold qTy; omega)]; exact g6
  · rw [A.i (by omega), B.i (by unfold qTy; omega)]; exact g7
  · rw [A.i (by omega), B.i (by unfold qTy; omega)]; exact g8
  · rw [A.i (by omega), B.i (by unfold qTy; omega)]; exact g9
  · rw [A.i (by omega), B.i (by unfold qTy; omega)]; exact g10
  · rw [A.i (by omega), B.i (by unfold qTy; omega)]; exact g11
  · rw [A.i (by omega), B.i (by unfold qTy; omega)]; exact g12
  · rw [A.i (by omega), B.i (by unfold qTy; omega)]; exact g13
  · rw [s'] at z; exact absurd z (by decide)
  · rw [s'] at z; exact absurd z (by decide)
  · rw [B.i (by unfold qTy; omega)]; exact g17 (by rw [st]; decide)
/-- a turn ends without an effect -/
theorem R2.fin {s : Nat} (R : R2 nT e M N) (ht : t < nT) (st : gI N 138 t = 0) (A : Ag (fun p i => ¬ (p = 189 + 4 * t ∧ (i = 1 ∨ i = 4 ∨ i = 5 ∨ i = 6))) M M') (B : Ag (fun p i => ¬ ((p = 138 ∨ p = 141 ∨ p = 142 ∨ p = 143) ∧ i = t)) N N') (s2 : 2 ≤ s) (s6 : s < 6) (a1 : gI M' (189 + 4 * t) 1 = nI s) (b1 : gI N' 138 t = nI s) (f4 : gI M' (189 + 4 * t) 4 = gI N' 141 t) (f5 : gI M' (189 + 4 * t) 5 = gI N' 142 t) (f6 : gI M' (189 + 4 * t) 6 = gI N' 143 t) (h3 : s = 3 → gB N 148 t = true) (h4 : s ≠ 4 → gI N' 143 t = -1) : R2 nT e M' N' := by
  have n1 : ¬ nI s = 1 := fun z => by have := (nI_eq (a := s) (b := 1) (by omega) (by omega)).mp z; omega
  refine R.mod ht A B (fun p i z => by omega) (fun p i z => by unfold qTk at z; omega) (by rw [st]; decide) (by rw [b1]; exact n1) ?_
  obtain ⟨⟨tr, g1, g2, g3⟩, -, g7, g8, -, -, -, g12, g13, g14, g15, g16, g17⟩ := R.t1 ht
  refine ⟨⟨tr, g1, ?_, ?_⟩, ⟨s, s6, a1, b1⟩, ?_, ?_, f4, f5, f6, ?_, ?_, ?_, fun z => ?_, fun z => ?_, fun z => ?_⟩
  · rw [A.i (by omega)]; exact g2
  · rw [B.i (by omega)]; exact g3
  · rw [A.i (by omega), B.i (by omega)]; exact g7
  · rw [A.i (by omega), B.i (by omega)]; exact g8
  · rw [A.i (by omega), B.i (by omega)]; exact g12
  · rw [A.i (by omega), B.i (by omega)]; exact g13
  · exact g14.ag A B (fun q i z => by omega) (fun q i z => by unfold qTy at z; omega)
  · rw [B.b (by omega)]
    rw [b1] at z
    exact h3 ((nI_eq (a := s) (b := 3) (by omega) (by omega)).mp z)
  · rw [b1] at z; exact absurd z n1
  · rw [b1] at z
    exact h4 (fun y => z (by rw [y]; rfl))
theorem end_eq {cl : Nat} (R : R2 nT e M N) (S : SL q j t k m a D W M N) (hV : VR V x M N) (h1q : q = 65 + 12 * j) (hj : j < 4) (ht : t < nT) (st : gI N 138 t = 0) (hcl : cl ≤ 2) :
    ∃ M' N' e', f_X8_endTurn nT (189 + 4 * t) q M = some M' ∧ f_X9_turn_63 N (nI t) (nI j) (nI cl) = some N' ∧ R2 nT e' M' N' ∧ VR V (x + 1) M' N' ∧ Ag (tM j) M M' ∧ Ag (tN j) N N' ∧ Z0 t N N' := by
  have nT20 := R.n20
  have ht20 : t < 20 := by omega
  obtain ⟨M1, N1, c1, c2, T1, c4, A1, B1⟩ := keep_eq S ht20 hj (by omega)
  have R1 := R.kept ht st A1 B1 T1
  have S1 : SL q j t k m a D W M1 N1 := S.ag A1 B1 (fun p i z => by omega) (fun p i z => by unfold pSl at z; unfold qTy; omega)
  have V1 : VR V x M1 N1 := hV.ag A1 B1 (by omega) (fun i => by unfold qTy; omega) (Nat.le_refl _)
  have st1 : gI N1 138 t = 0 := by rw [B1.i (by unfold qTy; omega)]; exact st
  have AT1 : Ag (tM j) M M1 := A1.mo (fun p i z => by unfold tM at z; omega)
  have BT1 : Ag (tN j) N N1 := B1.mo (fun p i z => by unfold tN at z; unfold qTy; omega)
  have ZT1 : Z0 t N N1 := Z0.ag B1 (fun i _ => by unfold qTy; omega)
  obtain ⟨-, -, g7, -, g9, g10, g11, -, -, -, -, -, g17⟩ := R1.t1 ht
  have g143 : gI N1 143 t = -1 := g17 (by rw [st1]; decide)
  have hk4 : gI M1 q 4 = nI k := S1.2.1
  have k11 : k ≤ 11 := S1.2.2.1
  have h159 := S1.2.2.2.1
  have h160 := S1.2.2.2.2.1
  have h161 := S1.2.2.2.2.2.1
  unfold f_X8_endTurn f_X9_turn_63
  rw [c1, sb_w, hk4, if_pos (show nI cl ≤ 2 from nI_le (b := 2) hcl (by decide)), c2, sb_w, inR_nI hj (by decide), gd_w, nI_clamp (show j < 2 ^ 31 by omega), h159]
  by_cases z11 : k = 11
  · subst z11
    have fin : ∀ s : Nat, 2 ≤ s → s < 6 → s ≠ 4 → ∃ M' N' e', f_X8_endTurn_28 nT (189 + 4 * t) q M1 (nI s) = some M' ∧ f_X9_turn_163 N1 (nI s) (nI t) = some N' ∧ R2 nT e' M' N' ∧ VR V (x + 1) M' N' ∧ Ag (tM j) M M' ∧ Ag (tN j) N N' ∧ Z0 t N N' := by
      intro s s2 s6 s4
      unfold f_X8_endTurn_28 f_X9_turn_163
      rw [lt_w, inR_nI ht20 (by decide), gd_w, lt_w, nI_clamp (show t < 2 ^ 31 by omega)]
      have A2 : Ag (fun p i => ¬ (p = 189 + 4 * t ∧ i = 1)) M1 (sI M1 (189 + 4 * t) 1 (nI s)) := Ag.rf.tI (by omega)
      have B2 : Ag (fun p i => ¬ (p = 138 ∧ i = t)) N1 (sI N1 138 t (nI s)) := Ag.rf.tI (by omega)
      refine ⟨_, _, e, rfl, rfl, ?_, V1.ag A2 B2 (by omega) (fun i => by omega) (by omega), AT1.tr (A2.mo (fun p i z => by unfold tM at z; omega)), BT1.tr (B2.mo (fun p i z => by unfold tN at z; omega)), ZT1.tr (Z0.ag B2 (fun i hi => by omega))⟩
      refine R1.fin (s := s) ht st1 (A2.mo (fun p i z => by omega)) (B2.mo (fun p i z => by omega)) s2 s6 gI_s gI_s ?_ ?_ ?_ (fun _ => c4) (fun _ => ?_)
      · rw [A2.i (by omega), B2.i (by omega)]; exact g9
      · rw [A2.i (by omega), B2.i (by omega)]; exact g10
      · rw [A2.i (by omega), B2.i (by omega)]; exact g11
      · rw [B2.i (by omega)]; exact g143
    rw [if_pos (show nI 11 = 11 from rfl), if_neg (show ¬ (11 : Nat) = 0 by decide), if_pos (show (11 : Nat) = 11 from rfl), if_neg (show ¬ (2 : Int32) = 1 by decide), gd_w, if_pos (show (2 : Int32) = 2 from rfl), inR_nI ht20 (by decide), gd_w, nI_clamp (show t < 2 ^ 31 by omega), ← g7]
    by_cases y : gI M1 (189 + 4 * t) 2 < 5
    · rw [if_pos y, if_pos y]
      exact fin 3 (by omega) (by omega) (by omega)
    · rw [if_neg y, if_neg y]
      exact fin 5 (by omega) (by omega) (by omega)
  · rw [if_neg (show ¬ nI k = 11 from fun w => z11 ((nI_eq (a := k) (b := 11) (by omega) (by omega)).mp w))]
    by_cases z0 : k = 0
    · subst z0
      rw [if_pos (show nI 0 = 0 from rfl), if_pos (show (0 : Nat) = 0 from rfl), if_neg (show ¬ (0 : Int32) = 1 by decide), gd_w, if_neg (show ¬ (0 : Int32) = 2 by decide)]
      obtain ⟨s, M2, N2, d1, d2, d3, A2, B2⟩ := brk_eq S1 hj (by omega) (by omega) R1.1 R1.2.2.2.2.1
      have R2' : R2 nT e M2 N2 := R1.ag A2 B2 (fun p i z => by omega) (fun p i z => by omega)
      have S2 : SL q j t 0 m a D W M2 N2 := S1.ag A2 B2 (fun p i z => by omega) (fun p i z => by unfold pSl at z; omega)
      have V2 : VR V x M2 N2 := V1.ag A2 B2 (by omega) (fun i => by omega) (Nat.le_refl _)
      have st2 : gI N2 138 t = 0 := by rw [B2.i (by omega)]; exact st1
      have AT2 : Ag (tM j) M M2 := AT1.tr (A2.mo (fun p i z => by unfold tM at z; omega))
      have BT2 : Ag (tN j) N N2 := BT1.tr (B2.mo (fun p i z => by unfold tN at z; omega))
      have ZT2 : Z0 t N N2 := ZT1.tr (Z0.ag B2 (fun i hi => by omega))
      have m6 : gI M2 (189 + 4 * t) 6 = -1 := by rw [A2.i (by omega), g11]; exact g143
      rw [d1, sb_w, d2, sb_w, lt_w, gI_s]
      by_cases zs : s = -1
      · subst zs
        rw [if_pos rfl, if_pos rfl]
        have A3 : Ag (fun _ _ => True) M2 (sI M2 (189 + 4 * t) 6 (-1)) := by
          intro p i _
          refine ⟨?_, gL_tI, gB_tI⟩
          by_cases y : p = 189 + 4 * t ∧ i = 6
          · rw [y.1, y.2, gI_s, m6]
          · rw [gI_ne (by omega)]
        have R3 : R2 nT e (sI M2 (189 + 4 * t) 6 (-1)) N2 := R2'.ag A3 (Ag.rf (P := fun _ _ => True)) (fun _ _ _ => trivial) (fun _ _ _ => trivial)
        have S3 : SL q j t 0 m a D W (sI M2 (189 + 4 * t) 6 (-1)) N2 := S2.ag A3 (Ag.rf (P := fun _ _ => True)) (fun _ _ _ => trivial) (fun _ _ _ => trivial)
        have V3 : VR V x (sI M2 (189 + 4 * t) 6 (-1)) N2 := V2.ag A3 (Ag.rf (P := fun _ _ => True)) trivial (fun _ => trivial) (Nat.le_refl _)
        obtain ⟨M4, N4, e1, e2, R4, e4, e5, A4, B4, z4⟩ := eff_eq R3 S3 (by omega) (by omega) ht hj st2
        rw [e1, sb_w, e2, sb_w]
        exact ⟨M4, N4, e + 1, rfl, rfl, R4, V3.eff e4 e5, (AT2.tr (A3.mo (fun _ _ _ => trivial))).tr (A4.mo (fun p i z => by unfold tM at z; omega)), BT2.tr (B4.mo (fun p i z => by unfold tN at z; omega)), ZT2.tr z4⟩
      · rw [if_neg zs, if_neg zs, lt_w, inR_nI ht20 (by decide), gd_w, lt_w, gd_w, lt_w, nI_clamp (show t < 2 ^ 31 by omega)]
        have A3 : Ag (fun p i => ¬ (p = 189 + 4 * t ∧ (i = 1 ∨ i = 6))) M2 (sI (sI M2 (189 + 4 * t) 6 s) (189 + 4 * t) 1 4) := (Ag.rf.tI (by omega)).tI (by omega)
        have B3 : Ag (fun p i => ¬ ((p = 138 ∨ p = 143) ∧ i = t)) N2 (sI (sI N2 138 t 4) 143 t s) := (Ag.rf.tI (by omega)).tI (by omega)
        refine ⟨_, _, e, rfl, rfl, ?_, V2.ag A3 B3 (by omega) (fun i => by omega) (by omega), AT2.tr (A3.mo (fun p i z => by unfold tM at z; omega)), BT2.tr (B3.mo (fun p i z => by unfold tN at z; omega)), ZT2.tr (Z0.ag B3 (fun i hi => by omega))⟩
        refine R2'.fin (s := 4) ht st2 (A3.mo (fun p i z => by omega)) (B3.mo (fun p i z => by omega)) (by omega) (by omega) ?_ ?_ ?_ ?_ ?_ (fun y => absurd y (by decide)) (fun y => absurd rfl y)
        · rw [gI_s]; rfl
        · simp (disch := omega) only [gI_s, gI_ne]; rfl
        · rw [A3.i (by omega), B3.i (by omega), A2.i (by omega), B2.i (by omega)]; exact g9
        · rw [A3.i (by omega), B3.i (by omega), A2.i (by omega), B2.i (by omega)]; exact g10
        · simp (disch := omega) only [gI_s, gI_ne]
    · rw [if_neg (nI_ne0 (by omega) (by omega)), if_neg z0, if_neg z11, if_pos (show (1 : Int32) = 1 from rfl), lt_w, lt_w, inR_nI ht20 (by decide), gd_w, lt_w, gd_w, gd_w, lt_w, gd_w, gd_w, lt_w, nI_clamp (show t < 2 ^ 31 by omega), show gI (sI M1 (189 + 4 * t) 1 2) q 4 = nI k by rw [gI_ne (by omega)]; exact hk4, show gI (sI (sI M1 (189 + 4 * t) 1 2) (189 + 4 * t) 4 (nI k)) q 4 = nI k by rw [gI_ne (by omega), gI_ne (by omega)]; exact hk4, show gI (sI (sI M1 (189 + 4 * t) 1 2) (189 + 4 * t) 4 (nI k)) q 9 = gI M1 q 9 by rw [gI_ne (by omega), gI_ne (by omega)], show gI (sI N1 138 t 2) 160 j = nI k by rw [gI_ne (by omega), h160, if_neg z11], show gI (sI (sI N1 138 t 2) 141 t (nI k)) 161 j = (if k = 8 then gI M1 q 9 else 0) by rw [gI_ne (by omega), gI_ne (by omega), h161]]
      unfold f_X8_endTurn_72
      have key : (if nI k = 8 then lt (sI (sI (sI M1 (189 + 4 * t) 1 2) (189 + 4 * t) 4 (nI k)) (189 + 4 * t) 5 (gI M1 q 9)) (fun M_1 => some M_1) else lt (sI (sI (sI M1 (189 + 4 * t) 1 2) (189 + 4 * t) 4 (nI k)) (189 + 4 * t) 5 0) (fun M_1 => some M_1)) = some (sI (sI (sI M1 (189 + 4 * t) 1 2) (189 + 4 * t) 4 (nI k)) (189 + 4 * t) 5 (if k = 8 then gI M1 q 9 else 0)) := by
        by_cases y : k = 8
        · rw [if_pos (show nI k = 8 by rw [y]; rfl), if_pos y, lt_w]
        · rw [if_neg (show ¬ nI k = 8 from fun w => y ((nI_eq (a := k) (b := 8) (by omega) (by omega)).mp w)), if_neg y, lt_w]
      rw [key]
      generalize (if k = 8 then gI M1 q 9 else 0) = u
      have A3 : Ag (fun p i => ¬ (p = 189 + 4 * t ∧ (i = 1 ∨ i = 4 ∨ i = 5))) M1 (sI (sI (sI M1 (189 + 4 * t) 1 2) (189 + 4 * t) 4 (nI k)) (189 + 4 * t) 5 u) := ((Ag.rf.tI (by omega)).tI (by omega)).tI (by omega)
      have B3 : Ag (fun p i => ¬ ((p = 138 ∨ p = 141 ∨ p = 142) ∧ i = t)) N1 (sI (sI (sI N1 138 t 2) 141 t (nI k)) 142 t u) := ((Ag.rf.tI (by omega)).tI (by omega)).tI (by omega)
      refine ⟨_, _, e, rfl, rfl, ?_, V1.ag A3 B3 (by omega) (fun i => by omega) (by omega), AT1.tr (A3.mo (fun p i z => by unfold tM at z; omega)), BT1.tr (B3.mo (fun p i z => by unfold tN at z; omega)), ZT1.tr (Z0.ag B3 (fun i hi => by omega))⟩
      refine R1.fin (s := 2) ht st1 (A3.mo (fun p i z => by omega)) (B3.mo (fun p i z => by omega)) (by omega) (by omega) ?_ ?_ ?_ ?_ ?_ (fun y => absurd y (by decide)) (fun _ => ?_)
      · simp (disch := omega) only [gI_s, gI_ne]; rfl
      · simp (disch := omega) only [gI_s, gI_ne]; rfl
      · simp (disch := omega) only [gI_s, gI_ne]
      · simp (disch := omega) only [gI_s, gI_ne]
      · rw [A3.i (by omega), B3.i (by omega)]; exact g11
      · rw [B3.i (by omega)]; exact g143
theorem give_eq {cl : Nat} (R : R2 nT e M N) (hV : VR V x M N) (ht : t < nT) (st : gI N 138 t = 0) (hcl : 2 < cl) (hc10 : cl ≤ 10) :
    ∃ M' N', (Option.bind (f_X6_forgetTry (189 + 4 * t) M) fun r_2 => lt (sI r_2 (189 + 4 * t) 1 5) fun M_1 => some M_1) = some M' ∧ f_X9_turn_63 N (nI t) (nI j) (nI cl) = some N' ∧ R2 nT e M' N' ∧ VR V (x + 1) M' N' ∧ Ag (tM j) M M' ∧ Ag (tN j) N N' ∧ Z0 t N N' := by
  have nT20 := R.n20
  have ht20 : t < 20 := by omega
  obtain ⟨⟨tr, g1, g2, g3⟩, -, g7, g8, g9, g10, g11, g12, g13, -, -, -, g17⟩ := R.t1 ht
  have g143 : gI N 143 t = -1 := g17 (by rw [st]; decide)
  unfold f_X6_forgetTry f_X9_turn_63
  rw [lt_w, lt_w, lt_w, sb_w, lt_w, if_neg (show ¬ nI cl ≤ 2 from nI_ge (a := 2) hcl (by omega)), inR_nI ht20 (by decide), gd_w, lt_w, gd_w, lt_w, nI_clamp (show t < 2 ^ 31 by omega), iB_0]
  have A : Ag (fun p i => ¬ (p = 189 + 4 * t ∧ (i = 1 ∨ i = 9 ∨ i = 11 ∨ i = 13))) M (sI (sI (sL (sI M (189 + 4 * t) 9 0) (189 + 4 * t) 11 0) (189 + 4 * t) 13 0) (189 + 4 * t) 1 5) := (((Ag.rf.tI (by omega)).tL (by omega)).tI (by omega)).tI (by omega)
  have B : Ag (fun p i => ¬ ((p = 138 ∨ p = 148) ∧ i = t)) N (sB (sI N 138 t 5) 148 t false) := (Ag.rf.tI (by omega)).tB (by omega)
  have b5 : gI (sB (sI N 138 t 5) 148 t false) 138 t = 5 := by rw [gI_tB, gI_s]
  have b8 : gB (sB (sI N 138 t 5) 148 t false) 148 t = false := gB_s
  have a1 : gI (sI (sI (sL (sI M (189 + 4 * t) 9 0) (189 + 4 * t) 11 0) (189 + 4 * t) 13 0) (189 + 4 * t) 1 5) (189 + 4 * t) 1 = 5 := gI_s
  have a9 : gI (sI (sI (sL (sI M (189 + 4 * t) 9 0) (189 + 4 * t) 11 0) (189 + 4 * t) 13 0) (189 + 4 * t) 1 5) (189 + 4 * t) 9 = 0 := by simp (disch := omega) only [gI_s, gI_ne, gI_tL]
  have a13 : gI (sI (sI (sL (sI M (189 + 4 * t) 9 0) (189 + 4 * t) 11 0) (189 + 4 * t) 13 0) (189 + 4 * t) 1 5) (189 + 4 * t) 13 = 0 := by simp (disch := omega) only [gI_s, gI_ne, gI_tL]
  have a11 : gL (sI (sI (sL (sI M (189 + 4 * t) 9 0) (189 + 4 * t) 11 0) (189 + 4 * t) 13 0) (189 + 4 * t) 1 5) (189 + 4 * t) 11 = 0 := by simp (disch := omega) only [gL_s, gL_ne, gL_tI]
  generalize sI (sI (sL (sI M (189 + 4 * t) 9 0) (189 + 4 * t) 11 0) (189 + 4 * t) 13 0) (189 + 4 * t) 1 5 = M' at *
  generalize sB (sI N 138 t 5) 148 t false = N' at *
  refine ⟨M', N', rfl, rfl, ?_, hV.ag A B (by omega) (fun i => by omega) (by omega), A.mo (fun p i z => by unfold tM at z; omega), B.mo (fun p i z => by unfold tN at z; omega), Z0.ag B (fun i hi => by omega)⟩
  refine R.mod ht A B (fun p i z => by omega) (fun p i z => by unfold qTk at z; omega) (by rw [st]; decide) (by rw [b5]; decide) ?_
  refine ⟨⟨tr, g1, ?_, ?_⟩, ⟨5, by decide, a1, b5⟩, ?_, ?_, ?_, ?_, ?_, ?_, ?_, ⟨?_, fun z => ?_, fun _ => ⟨a11, a13⟩⟩, fun z => ?_, fun z => ?_, fun z => ?_⟩
  · rw [A.i (by omega)]; exact g2
  · rw [B.i (by omega)]; exact g3
  · rw [A.i (by omega), B.i (by omega)]; exact g7
  · rw [A.i (by omega), B.i (by omega)]; exact g8
  · rw [A.i (by omega), B.i (by omega)]; exact g9
  · rw [A.i (by omega), B.i (by omega)]; exact g10
  · rw [A.i (by omega), B.i (by omega)]; exact g11
  · rw [A.i (by omega), B.i (by omega)]; exact g12
  · rw [A.i (by omega), B.i (by omega)]; exact g13
  · rw [a9, b8]; rfl
  · rw [b8] at z; cases z
  · rw [b5] at z; exact absurd z (by decide)
  · rw [b5] at z; exact absurd z (by decide)
  · rw [B.i (by omega)]; exact g143
/-- how a slot stands within its turn -/
def TQ (nT e t j x : Nat) (V : Nat → Int32) (M N : Mem) : Prop := R2 nT e M N ∧ (∃ k m a D W, SL (65 + 12 * j) j t k m a D W M N) ∧ VR V x M N ∧ gI N 138 t = 0
theorem TQ.again (h : TQ nT e t j x V M N) (hj : j < 4) (ht : t < nT) : ∃ M' N', f_X8_makeTry nT (65 + 12 * j) M = some M' ∧ f_X9_attempt N (nI t) (nI j) = some N' ∧ TQ nT e t j x V M' N' ∧ Ag (tM j) M M' ∧ Ag (tN j) N N' ∧ Z0 t N N' := by
  obtain ⟨R, ⟨k, m, a, D, W, S⟩, hV, st⟩ := h
  obtain ⟨M', N', k', m', a', D', c1, c2, R', S', A, B⟩ := try_eq R hj ht S.1
  refine ⟨M', N', c1, c2, ⟨R', ⟨k', m', a', D', _, S'⟩, hV.ag A B (by unfold kTM; omega) (fun i => by unfold kTN; omega) (Nat.le_refl _), ?_⟩, A.mo (fun p i z => by unfold tM at z; unfold kTM; omega), B.mo (fun p i z => by unfold tN at z; unfold pSl at z; unfold kTN; omega), Z0.ag B (fun i hi => by unfold kTN; omega)⟩
  rw [B.i (by unfold kTN; omega)]; exact st
theorem cl_lp {cl : Nat} (hc10 : cl ≤ 10) (hj : j < 4) (ht : t < nT) : ∀ r i F F' (M N : Mem), TQ nT e t j x V M N → i + r = 2 → r < F → r < F' → ∃ M' N', f_X8_takeTurn_55 nT (65 + 12 * j) F M (189 + 4 * t) (nI cl) (nI i) = f_X8_takeTurn_78 nT (65 + 12 * j) M' (189 + 4 * t) (nI cl) ∧ f_X9_turn_39 F' N (nI t) (nI j) (nI cl) (nI i) = f_X9_turn_63 N' (nI t) (nI j) (nI cl) ∧ TQ nT e t j x V M' N' ∧ Ag (tM j) M M' ∧ Ag (tN j) N N' ∧ Z0 t N N' := by
  intro r
  induction r with
  | zero =>
    intro i F F' M N h hi hF hF'
    obtain ⟨F, rfl⟩ : ∃ f, F = f + 1 := ⟨F - 1, by omega⟩
    obtain ⟨F', rfl⟩ : ∃ f, F' = f + 1 := ⟨F' - 1, by omega⟩
    have : i = 2 := by omega
    subst this
    refine ⟨M, N, ?_, ?_, h, Ag.rf, Ag.rf, fun s _ h0 => h0⟩
    · rw [f_X8_takeTurn_55, if_pos (show (2 : Int32) ≤ nI 2 by decide), ite_self]
    · rw [f_X9_turn_39, if_pos (show (2 : Int32) ≤ nI 2 by decide), ite_self]
  | succ r ih =>
    intro i F F' M N h hi hF hF'
    obtain ⟨F, rfl⟩ : ∃ f, F = f + 1 := ⟨F - 1, by omega⟩
    obtain ⟨F', rfl⟩ : ∃ f, F' = f + 1 := ⟨F' - 1, by omega⟩
    rw [f_X8_takeTurn_55, f_X9_turn_39]
    by_cases z : cl ≤ i
    · rw [if_pos (nI_le z (by omega)), if_pos (nI_le z (by omega))]
      exact ⟨M, N, rfl, rfl, h, Ag.rf, Ag.rf, fun s _ h0 => h0⟩
    · have n2 : ¬ (2 : Int32) ≤ nI i := nI_ge (b := 2) (by omega) (by decide)
      obtain ⟨M1, N1, c1, c2, h1, A1, B1, Z1⟩ := h.again hj ht
      rw [if_neg (nI_ge (by omega) (by omega)), if_neg (nI_ge (by omega) (by omega)), if_neg n2, if_neg n2, c1, sb_w, c2, sb_w, lt_w, lt_w, nI_1]
      obtain ⟨M2, N2, d1, d2, h2, A2, B2, Z2⟩ := ih (i + 1) F F' M1 N1 h1 (by omega) (by omega) (by omega)
      exact ⟨M2, N2, d1, d2, h2, A1.tr A2, B1.tr B2, Z1.tr Z2⟩
theorem t39_eq (h : TQ nT e t j x V M N) (hj : j < 4) (ht : t < nT) : ∃ M' N' e', f_X8_takeTurn_39 nT (65 + 12 * j) M (189 + 4 * t) = some M' ∧ f_X9_turn_24 N (nI t) (nI j) = some N' ∧ R2 nT e' M' N' ∧ VR V (x + 1) M' N' ∧ Ag (tM j) M M' ∧ Ag (tN j) N N' ∧ Z0 t N N' := by
  have ht20 : t < 20 := by have := h.1.n20; omega
  obtain ⟨⟨tr, g1, g2, g3⟩, -⟩ := h.1.t1 ht
  obtain ⟨n, cl, -, -, -, hc10, c13, c132, -⟩ := h.1.2.2.2.1.1 tr g1
  obtain ⟨M1, N1, d1, d2, h1, A1, B1, Z1⟩ := cl_lp (cl := cl) hc10 hj ht 2 0 FU FU M N h (by omega) (by unfold FU; omega) (by unfold FU; omega)
  unfold f_X8_takeTurn_39 f_X9_turn_24
  rw [g2, inR_nI g1 (by decide), gd_w, nI_clamp (show tr < 2 ^ 31 by omega), c13, lt_w, inR_nI ht20 (by decide), gd_w, nI_clamp (show t < 2 ^ 31 by omega), g3, inR_nI g1 (by decide), gd_w, nI_clamp (show tr < 2 ^ 31 by omega), c132, lt_w, show (0 : Int32) = nI 0 from rfl, d1, d2]
  obtain ⟨R1, ⟨k, m, a, D, W, S1⟩, V1, st1⟩ := h1
  unfold f_X8_takeTurn_78
  by_cases z : cl ≤ 2
  · rw [if_pos (show nI cl ≤ 2 from nI_le (b := 2) z (by decide))]
    obtain ⟨M2, N2, e', e1, e2, R2', V2, A2, B2, Z2⟩ := end_eq (cl := cl) R1 S1 V1 rfl hj ht st1 z
    rw [e1, sb_w]
    exact ⟨M2, N2, e', rfl, e2, R2', V2, A1.tr A2, B1.tr B2, Z1.tr Z2⟩
  · rw [if_neg (show ¬ nI cl ≤ 2 from nI_ge (a := 2) (by omega) (by omega))]
    obtain ⟨M2, N2, e1, e2, R2', V2, A2, B2, Z2⟩ := give_eq (j := j) (cl := cl) R1 V1 ht st1 (by omega) hc10
    exact ⟨M2, N2, e, e1, e2, R2', V2, A1.tr A2, B1.tr B2, Z1.tr Z2⟩
theorem turn_eq (R : R2 nT e M N) (S : SL (65 + 12 * j) j t k m a D V M N) (hV : VR V x M N) (hx : x ≤ 4) (hj : j < 4) (ht : t < nT) (st : gI N 138 t = 0) : ∃ M' N' e', f_X8_takeTurn nT (65 + 12 * j) M = some M' ∧ f_X9_turn N (nI t) (nI j) = some N' ∧ R2 nT e' M' N' ∧ VR V (x + 1) M' N' ∧ Ag (tM j) M M' ∧ Ag (tN j) N N' ∧ Z0 t N N' := by
  have ht20 : t < 20 := by have := R.n20; omega
  have A1 : Ag (fun p i => ¬ (p = 189 + 4 * t ∧ i = 2)) M (sI M (189 + 4 * t) 2 (gI M (189 + 4 * t) 2 + 1)) := Ag.rf.tI (by omega)
  have B1 : Ag (fun p i => ¬ (p = 139 ∧ i = t)) N (sI N 139 t (gI N 139 t + 1)) := Ag.rf.tI (by omega)
  have st1 : gI (sI N 139 t (gI N 139 t + 1)) 138 t = 0 := by rw [B1.i (by omega)]; exact st
  have R1 : R2 nT e (sI M (189 + 4 * t) 2 (gI M (189 + 4 * t) 2 + 1)) (sI N 139 t (gI N 139 t + 1)) := by
    have t1 := R.t1 ht
    refine R.mod ht A1 B1 (fun p i z => by omega) (fun p i z => by unfold qTk at z; omega) (by rw [st]; decide) (by rw [st1]; decide) ?_
    refine t1.ag3 A1 B1 (fun q i z => by omega) (fun q i z => by unfold qTk at z; omega) ?_ ?_
    · rw [gI_s, gI_s, t1.2.2.1]
    · rw [A1.i (by omega), B1.i (by omega)]; exact t1.2.2.2.1
  have S1 : SL (65 + 12 * j) j t k m a D V (sI M (189 + 4 * t) 2 (gI M (189 + 4 * t) 2 + 1)) (sI N 139 t (gI N 139 t + 1)) := S.ag A1 B1 (fun p i z => by omega) (fun p i z => by unfold pSl at z; omega)
  have V1 : VR V x (sI M (189 + 4 * t) 2 (gI M (189 + 4 * t) 2 + 1)) (sI N 139 t (gI N 139 t + 1)) := hV.ag A1 B1 (by omega) (fun i => by omega) (Nat.le_refl _)
  have AT1 : Ag (tM j) M (sI M (189 + 4 * t) 2 (gI M (189 + 4 * t) 2 + 1)) := A1.mo (fun p i z => by unfold tM at z; omega)
  have BT1 : Ag (tN j) N (sI N 139 t (gI N 139 t + 1)) := B1.mo (fun p i z => by unfold tN at z; omega)
  have ZT1 : Z0 t N (sI N 139 t (gI N 139 t + 1)) := Z0.ag B1 (fun i hi => by omega)
  unfold f_X8_takeTurn f_X9_turn
  rw [S.1, inR_nI ht20 (by decide), gd_w, nI_clamp (show t < 2 ^ 31 by omega), decide_eq_true ht, gd_w, lt_w, gd_w, gd_w, lt_w]
  generalize sI M (189 + 4 * t) 2 (gI M (189 + 4 * t) 2 + 1) = M1 at *
  generalize sI N 139 t (gI N 139 t + 1) = N1 at *
  have Q1 : TQ nT e t j x V M1 N1 := ⟨R1, ⟨k, m, a, D, V, S1⟩, V1, st1⟩
  rw [stale_eq (w := gL M1 (65 + 12 * j) 7) (ch := gL M1 0 13) hj S1.2.2.2.2.2.2.2.2.2.1 S1.2.2.2.2.2.2.2.2.2.2.1 (V1.ch (by omega)), sb_w]
  by_cases z : gL M1 (65 + 12 * j) 7 &&& gL M1 0 13 = 0
  · rw [if_pos z, decide_eq_false (fun y => y z), if_pos bI_f]
    obtain ⟨M2, N2, e', e1, e2, R2', V2, A2, B2, Z2⟩ := t39_eq Q1 hj ht
    exact ⟨M2, N2, e', e1, e2, R2', V2, AT1.tr A2, BT1.tr B2, ZT1.tr Z2⟩
  · rw [if_neg z, decide_eq_true z, if_neg (show ¬ bI true = 0 by decide)]
    obtain ⟨M2, N2, c1, c2, Q2, A2, B2, Z2⟩ := Q1.again hj ht
    rw [c1, sb_w, c2, sb_w]
    obtain ⟨M3, N3, e', e1, e2, R3, V3, A3, B3, Z3⟩ := t39_eq Q2 hj ht
    exact ⟨M3, N3, e', e1, e2, R3, V3, (AT1.tr A2).tr A3, (BT1.tr B2).tr B3, (ZT1.tr Z2).tr Z3⟩
end

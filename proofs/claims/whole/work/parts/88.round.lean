section
variable {nT e t j i n x : Nat} {V : Nat → Int32} {M N : Mem}
theorem R2.st (R : R2 nT e M N) (ht : t < nT) : gI M (189 + 4 * t) 1 = gI N 138 t := by
  obtain ⟨-, ⟨s, -, h1, h2⟩, -⟩ := R.t1 ht
  rw [h1, h2]
theorem ov26 {K : Int32 → Int32 → Option Bool} (n4 : n ≤ 4) (h81 : gI N 119 81 = nI n) (t20 : t < 20) (v1 : Int32) : ∀ r k F, k + r = n → r < F → (∀ y, k ≤ y → y < n → ∃ u, t < u ∧ u ≤ 20 ∧ gI N 188 y = nI u) → f_X9_isOver_26 N K F v1 (nI t) 0 (nI k) = some true
  | 0, k, F, hk, hF, hu => by
    obtain ⟨F, rfl⟩ : ∃ f, F = f + 1 := ⟨F - 1, by omega⟩
    rw [f_X9_isOver_26, h81, if_pos (nI_le (by omega) (by omega)), if_pos rfl]
  | r + 1, k, F, hk, hF, hu => by
    obtain ⟨F, rfl⟩ : ∃ f, F = f + 1 := ⟨F - 1, by omega⟩
    obtain ⟨u, u1, u2, u3⟩ := hu k (Nat.le_refl _) (by omega)
    rw [f_X9_isOver_26, h81, if_neg (nI_ge (by omega) (by omega)), inR_nI (show k < 4 by omega) (by decide), gd_w, nI_clamp (show k < 2 ^ 31 by omega), u3, if_neg (fun w => by have := (nI_eq (a := u) (b := t) (by omega) (by omega)).mp w; omega)]
    unfold f_X9_isOver_52
    rw [lt_w, lt_w, show (0 : Int32) ||| 0 = 0 from rfl, nI_1]
    exact ov26 n4 h81 t20 v1 r (k + 1) F (by omega) (by omega) (fun y y1 y2 => hu y (by omega) y2)
theorem over_lp {T : Nat} (R : R2 nT e M N) (n4 : n ≤ 4) (hi : i < n) (h81 : gI N 119 81 = nI n) (hT : T ≤ nT) (h188 : gI N 188 i = nI T) (inc : ∀ y, i ≤ y → y < n → ∃ u, T ≤ u ∧ u ≤ 20 ∧ gI N 188 y = nI u) : ∀ r t F F', t + r = T → r < F → r < F' → ∃ b, f_X8_isReadyBelow_2 nT M F (nI T) (nI t) = some b ∧ f_X9_isOver_2 N F' (nI i) (nI t) = some b
  | 0, t, F, F', ht, hF, hF' => by
    obtain ⟨F, rfl⟩ : ∃ f, F = f + 1 := ⟨F - 1, by omega⟩
    obtain ⟨F', rfl⟩ : ∃ f, F' = f + 1 := ⟨F' - 1, by omega⟩
    have n20 := R.n20
    refine ⟨false, ?_, ?_⟩
    · rw [f_X8_isReadyBelow_2, if_pos (nI_le (by omega) (by omega))]
    · rw [f_X9_isOver_2, inR_nI (show i < 4 by omega) (by decide), gd_w, nI_clamp (show i < 2 ^ 31 by omega), h188, if_pos (nI_le (by omega) (by omega))]
  | r + 1, t, F, F', ht, hF, hF' => by
    obtain ⟨F, rfl⟩ : ∃ f, F = f + 1 := ⟨F - 1, by omega⟩
    obtain ⟨F', rfl⟩ : ∃ f, F' = f + 1 := ⟨F' - 1, by omega⟩
    have n20 := R.n20
    have htn : t < nT := by omega
    rw [f_X8_isReadyBelow_2, f_X9_isOver_2, if_neg (nI_ge (by omega) (by omega)), inR_nI (show i < 4 by omega) (by decide), gd_w, nI_clamp (show i < 2 ^ 31 by omega), h188, if_neg (nI_ge (by omega) (by omega)), inR_nI (show t < 20 by omega) (by decide), gd_w, gd_w, nI_clamp (show t < 2 ^ 31 by omega), decide_eq_true htn, gd_w, R.st htn]
    by_cases z : gI N 138 t = 0
    · rw [if_pos z, if_pos z, ov26 n4 h81 (show t < 20 by omega) (nI i) (n - i) i FU (by omega) (by unfold FU; omega) (fun y y1 y2 => by
        obtain ⟨u, u1, u2, u3⟩ := inc y y1 y2
        exact ⟨u, by omega, u2, u3⟩)]
      exact ⟨true, rfl, rfl⟩
    · rw [if_neg z, if_neg z]
      unfold f_X9_isOver_66
      rw [lt_w, lt_w, nI_1]
      exact over_lp R n4 hi h81 hT h188 inc r (t + 1) F F' (by omega) (by omega) (by omega)
theorem rm_lp (R : R2 nT e M N) : ∀ r t c F F', t + r = nT → r < F → r < F' → ∃ b y, f_X8_isReadyBelow_2 nT M F (nI nT) (nI t) = some b ∧ f_X9_many_4 N F' 0 (nI c) (nI t) = some (nI y) ∧ c ≤ y ∧ y ≤ c + r ∧ (b = true ↔ c < y)
  | 0, t, c, F, F', ht, hF, hF' => by
    obtain ⟨F, rfl⟩ : ∃ f, F = f + 1 := ⟨F - 1, by omega⟩
    obtain ⟨F', rfl⟩ : ∃ f, F' = f + 1 := ⟨F' - 1, by omega⟩
    have n20 := R.n20
    refine ⟨false, c, ?_, ?_, Nat.le_refl _, by omega, ⟨fun z => absurd z (by decide), fun z => absurd z (by omega)⟩⟩
    · rw [f_X8_isReadyBelow_2, if_pos (nI_le (by omega) (by omega))]
    · rw [f_X9_many_4, R.2.2.2.2.2.2.1.2.2.1, if_pos (nI_le (by omega) (by omega))]
  | r + 1, t, c, F, F', ht, hF, hF' => by
    obtain ⟨F, rfl⟩ : ∃ f, F = f + 1 := ⟨F - 1, by omega⟩
    obtain ⟨F', rfl⟩ : ∃ f, F' = f + 1 := ⟨F' - 1, by omega⟩
    have n20 := R.n20
    have htn : t < nT := by omega
    rw [f_X8_isReadyBelow_2, f_X9_many_4, R.2.2.2.2.2.2.1.2.2.1, if_neg (nI_ge (by omega) (by omega)), if_neg (nI_ge (by omega) (by omega)), inR_nI (show t < 20 by omega) (by decide), gd_w, gd_w, nI_clamp (show t < 2 ^ 31 by omega), decide_eq_true htn, gd_w, R.st htn]
    unfold f_X9_many_28
    rw [lt_w, lt_w, lt_w, lt_w, lt_w, nI_1, nI_1, Int32.add_zero]
    by_cases z : gI N 138 t = 0
    · rw [if_pos z, if_pos z]
      obtain ⟨b, y, h1, h2, h3, h4, h5⟩ := rm_lp R r (t + 1) (c + 1) F F' (by omega) (by omega) (by omega)
      exact ⟨true, y, rfl, h2, by omega, by omega, ⟨fun _ => by omega, fun _ => rfl⟩⟩
    · rw [if_neg z, if_neg z]
      obtain ⟨b, y, h1, h2, h3, h4, h5⟩ := rm_lp R r (t + 1) c F F' (by omega) (by omega) (by omega)
      exact ⟨b, y, h1, h2, h3, by omega, h5⟩
end
/-- the tickets of a round: from t on, k are found, at most w -/
def pk (s : Nat → Int32) (w : Nat) : Nat → Nat → Nat → List Nat
  | 0, _, _ => []
  | r + 1, t, k => if w ≤ k then [] else if s t = 0 then t :: pk s w r (t + 1) (k + 1) else pk s w r (t + 1) k
theorem pk_len {s : Nat → Int32} {w : Nat} : ∀ r t k, k ≤ w → k + (pk s w r t k).length ≤ w
  | 0, _, k, h => h
  | r + 1, t, k, h => by
    unfold pk
    split
    · exact h
    · split
      · have := pk_len (s := s) (w := w) r (t + 1) (k + 1) (by omega)
        rw [List.length_cons]
        omega
      · exact pk_len r (t + 1) k h
theorem pk_all {s : Nat → Int32} {w : Nat} : ∀ r t k y, y < (pk s w r t k).length → t ≤ (pk s w r t k).getD y 0 ∧ (pk s w r t k).getD y 0 < t + r ∧ s ((pk s w r t k).getD y 0) = 0
  | 0, _, _, y, h => absurd h (Nat.not_lt_zero y)
  | r + 1, t, k, y, h => by
    unfold pk at h ⊢
    by_cases z1 : w ≤ k
    · rw [if_pos z1] at h
      exact absurd h (Nat.not_lt_zero y)
    · rw [if_neg z1] at h ⊢
      by_cases z2 : s t = 0
      · rw [if_pos z2] at h ⊢
        cases y with
        | zero => exact ⟨Nat.le_refl _, by show t < t + (r + 1); omega, z2⟩
        | succ y =>
          rw [List.length_cons] at h
          rw [List.getD_cons_succ]
          obtain ⟨h1, h2, h3⟩ := pk_all (s := s) (w := w) r (t + 1) (k + 1) y (by omega)
          exact ⟨by omega, by omega, h3⟩
      · rw [if_neg z2] at h ⊢
        obtain ⟨h1, h2, h3⟩ := pk_all (s := s) (w := w) r (t + 1) k y h
        exact ⟨by omega, by omega, h3⟩
theorem pk_inc {s : Nat → Int32} {w : Nat} : ∀ r t k y y', y < y' → y' < (pk s w r t k).length → (pk s w r t k).getD y 0 < (pk s w r t k).getD y' 0
  | 0, _, _, y, y', _, h => absurd h (Nat.not_lt_zero y')
  | r + 1, t, k, y, y', hy, h => by
    unfold pk at h ⊢
    by_cases z1 : w ≤ k
    · rw [if_pos z1] at h
      exact absurd h (Nat.not_lt_zero y')
    · rw [if_neg z1] at h ⊢
      by_cases z2 : s t = 0
      · rw [if_pos z2] at h ⊢
        rw [List.length_cons] at h
        cases y' with
        | zero => exact absurd hy (Nat.not_lt_zero y)
        | succ y' =>
          cases y with
          | zero =>
            rw [List.getD_cons_succ]
            obtain ⟨h1, h2, h3⟩ := pk_all (s := s) (w := w) r (t + 1) (k + 1) y' (by omega)
            show t < _
            omega
          | succ y =>
            rw [List.getD_cons_succ, List.getD_cons_succ]
            exact pk_inc r (t + 1) (k + 1) y y' (by omega) (by omega)
      · rw [if_neg z2] at h ⊢
        exact pk_inc r (t + 1) k y y' hy h
theorem coll_lp {w nT : Nat} (hw : w ≤ 4) (hn : nT ≤ 20) {s : Nat → Int32} : ∀ r t k F (N : Mem), t + r = nT → r < F → k ≤ w → gI N 119 18 = nI nT → gI N 119 37 = nI w → gI N 119 81 = nI k → (∀ u, gI N 138 u = s u) →
    ∃ N', f_X9_round_17 F N (nI t) = f_X9_round_71 N' ∧ gI N' 119 81 = nI (k + (pk s w r t k).length) ∧ (∀ y, y < (pk s w r t k).length → gI N' 188 (k + y) = nI ((pk s w r t k).getD y 0)) ∧ Ag (fun p i => ¬ ((p = 188 ∧ k ≤ i) ∨ (p = 119 ∧ i = 81))) N N'
  | 0, t, k, F, N, ht, hF, hk, h18, h37, h81, hs => by
    obtain ⟨F, rfl⟩ : ∃ f, F = f + 1 := ⟨F - 1, by omega⟩
    refine ⟨N, ?_, h81, fun y hy => absurd hy (Nat.not_lt_zero y), Ag.rf⟩
    rw [f_X9_round_17, h18, if_pos (nI_le (by omega) (by omega))]
  | r + 1, t, k, F, N, ht, hF, hk, h18, h37, h81, hs => by
    obtain ⟨F, rfl⟩ : ∃ f, F = f + 1 := ⟨F - 1, by omega⟩
    rw [f_X9_round_17, h18, if_neg (nI_ge (by omega) (by omega)), h37, h81]
    unfold pk
    by_cases z1 : w ≤ k
    · rw [if_pos (nI_le z1 (by omega)), if_pos z1]
      exact ⟨N, rfl, h81, fun y hy => absurd hy (Nat.not_lt_zero y), Ag.rf⟩
    · rw [if_neg (nI_ge (by omega) (by omega)), if_neg z1, inR_nI (show t < 20 by omega) (by decide), gd_w, nI_clamp (show t < 2 ^ 31 by omega), hs t]
      unfold f_X9_round_65
      by_cases z2 : s t = 0
      · have B : Ag (fun p i => ¬ ((p = 188 ∧ i = k) ∨ (p = 119 ∧ i = 81))) N (sI (sI N 188 k (nI t)) 119 81 (nI (k + 1))) := (Ag.rf.tI (by omega)).tI (by omega)
        have b1 : gI (sI (sI N 188 k (nI t)) 119 81 (nI (k + 1))) 188 k = nI t := by simp (disch := omega) only [gI_s, gI_ne]
        have b2 : gI (sI (sI N 188 k (nI t)) 119 81 (nI (k + 1))) 119 81 = nI (k + 1) := gI_s
        rw [if_pos z2, if_pos z2, inR_nI (show k < 4 by omega) (by decide), gd_w, lt_w, lt_w, lt_w, nI_clamp (show k < 2 ^ 31 by omega), show gI (sI N 188 k (nI t)) 119 81 = nI k by rw [gI_ne (by omega)]; exact h81, nI_1, nI_1]
        generalize sI (sI N 188 k (nI t)) 119 81 (nI (k + 1)) = X at *
        obtain ⟨N', e1, e2, e3, e4⟩ := coll_lp hw hn (s := s) r (t + 1) (k + 1) F X (by omega) (by omega) (by omega) (by rw [B.i (by omega)]; exact h18) (by rw [B.i (by omega)]; exact h37) b2 (fun u => by rw [B.i (by omega)]; exact hs u)
        refine ⟨N', e1, ?_, fun y hy => ?_, (B.mo (fun p i z => by omega)).tr (e4.mo (fun p i z => by omega))⟩
        · rw [e2, List.length_cons]; congr 1; omega
        · rw [List.length_cons] at hy
          cases y with
          | zero =>
            rw [e4.i (by omega)]
            exact b1
          | succ y =>
            rw [List.getD_cons_succ, ← e3 y (by omega)]
            congr 1; omega
      · rw [if_neg z2, if_neg z2, lt_w, nI_1]
        exact coll_lp hw hn r (t + 1) k F N (by omega) (by omega) hk h18 h37 h81 hs
/-- the places of the slots below k -/
def bS (k p i : Nat) : Prop := (159 ≤ p ∧ p ≤ 162 ∧ i < k) ∨ (163 ≤ p ∧ p ≤ 169 ∧ i < 40 * k) ∨ ((p = 170 ∨ p = 172 ∨ p = 176) ∧ i < k) ∨ (p = 171 ∧ i < 8 * k) ∨ (173 ≤ p ∧ p ≤ 175 ∧ i < 40 * k) ∨ (177 ≤ p ∧ p ≤ 178 ∧ i < 6 * k)
def bM (k p i : Nat) : Prop := (65 ≤ p ∧ p < 65 + 12 * k) ∨ (119 ≤ p ∧ p ≤ 188) ∨ (p = 0 ∧ (i = 12 ∨ i = 13))
def bN (k p i : Nat) : Prop := p < 119 ∨ 188 ≤ p ∨ (p = 119 ∧ i = 81) ∨ p = 124 ∨ p = 138 ∨ bS k p i
theorem tries_lp {w nT e : Nat} (hw : w ≤ 4) {s : Nat → Int32} : ∀ r t k F F' (M N : Mem), t + r = nT → r < F → r < F' → k ≤ w → R2 nT e M N → gI M 0 12 = nI w → (∀ u, gI N 138 u = s u) → gI N 119 81 = nI (k + (pk s w r t k).length) → (∀ y, y < (pk s w r t k).length → gI N 188 (k + y) = nI ((pk s w r t k).getD y 0)) →
    ∃ M' N', f_X8_tryLeastReady_4 nT F M (nI k) (nI t) = some (nI (k + (pk s w r t k).length), M') ∧ f_X9_round_73 F' N (nI k) = f_X9_round_100 FU N' 0 ∧ R2 nT e M' N' ∧ (∀ y, y < (pk s w r t k).length → ∃ c m a D, SL (65 + 12 * (k + y)) (k + y) ((pk s w r t k).getD y 0) c m a D (gI N 124) M' N') ∧ Ag (bM k) M M' ∧ Ag (bN k) N N'
  | 0, t, k, F, F', M, N, ht, hF, hF', hk, R, h12, hs, h81, h188 => by
    obtain ⟨F, rfl⟩ : ∃ f, F = f + 1 := ⟨F - 1, by omega⟩
    obtain ⟨F', rfl⟩ : ∃ f, F' = f + 1 := ⟨F' - 1, by omega⟩
    have n20 := R.n20
    refine ⟨M, N, ?_, ?_, R, fun y hy => absurd hy (Nat.not_lt_zero y), Ag.rf, Ag.rf⟩
    · rw [f_X8_tryLeastReady_4, R.2.2.2.2.2.2.1.2.1, if_pos (nI_le (by omega) (by omega))]
      rfl
    · rw [f_X9_round_73, h81, if_pos (nI_le (by show k + 0 ≤ k; omega) (by omega))]
  | r + 1, t, k, F, F', M, N, ht, hF, hF', hk, R, h12, hs, h81, h188 => by
    obtain ⟨F, rfl⟩ : ∃ f, F = f + 1 := ⟨F - 1, by omega⟩
    obtain ⟨F', rfl⟩ : ∃ f, F' = f + 1 := ⟨F' - 1, by omega⟩
    have n20 := R.n20
    have htn : t < nT := by omega
    unfold pk at h81 h188 ⊢
    rw [f_X8_tryLeastReady_4, R.2.2.2.2.2.2.1.2.1, if_neg (nI_ge (by omega) (by omega)), h12]
    by_cases z1 : w ≤ k
    · rw [if_pos z1] at h81 h188 ⊢
      rw [if_pos (nI_le z1 (by omega))]
      refine ⟨M, N, rfl, ?_, R, fun y hy => absurd hy (Nat.not_lt_zero y), Ag.rf, Ag.rf⟩
      rw [f_X9_round_73, h81, if_pos (nI_le (by show k + 0 ≤ k; omega) (by omega))]
    · rw [if_neg z1] at h81 h188 ⊢
      rw [if_neg (nI_ge (by omega) (by omega)), inR_nI (show t < 20 by omega) (by decide), gd_w, nI_clamp (show t < 2 ^ 31 by omega), decide_eq_true htn, gd_w, R.st htn, hs t]
      unfold f_X8_tryLeastReady_55
      by_cases z2 : s t = 0
      · rw [if_pos z2] at h81 h188
        rw [if_pos z2, if_pos z2]
        rw [List.length_cons] at h81 ⊢
        have k4 : k < 4 := by omega
        have pl := pk_len (s := s) (w := w) r (t + 1) (k + 1) (by omega)
        have h0 : gI N 188 k = nI t := h188 0 (by rw [List.length_cons]; omega)
        have A0 : Ag (fun p i => ¬ (p = 65 + 12 * k ∧ i = 3)) M (sI M (65 + 12 * k) 3 (nI t)) := Ag.rf.tI (by omega)
        have R0 : R2 nT e (sI M (65 + 12 * k) 3 (nI t)) N := R.ag A0 (Ag.rf (P := fun _ _ => True)) (fun p i z => by omega) (fun _ _ _ => trivial)
        obtain ⟨M1, N1, c, m, a, D, d1, d2, R1, S1, A1, B1⟩ := try_eq R0 k4 htn gI_s
        rw [inR_nI k4 (by decide), gd_w, lt_w, gd_w, nI_clamp (show k < 2 ^ 31 by omega), d1, sb_w, lt_w, lt_w, nI_1, nI_1, f_X9_round_73, h81, if_neg (nI_ge (by omega) (by omega)), inR_nI k4 (by decide), gd_w, nI_clamp (show k < 2 ^ 31 by omega), h0, d2, sb_w, lt_w, nI_1]
        have AM1 : Ag (fun p i => bM k p i ∨ (65 + 12 * k ≤ p ∧ p < 65)) M M1 := (A0.mo (fun p i z => by unfold bM at z; omega)).tr (A1.mo (fun p i z => by unfold bM at z; unfold kTM; omega))
        have V1 : gI N1 124 = gI N 124 := by funext u; exact B1.i (by unfold kTN; omega)
        obtain ⟨M2, N2, f1, f2, R2', f4, A2, B2⟩ := tries_lp hw (s := s) r (t + 1) (k + 1) F F' M1 N1 (by omega) (by omega) (by omega) (by omega) R1 (by rw [A1.i (by unfold kTM; omega), A0.i (by omega)]; exact h12) (fun u => by rw [B1.i (by unfold kTN; omega)]; exact hs u) (by rw [B1.i (by unfold kTN; omega), h81]; congr 1; omega) (fun y hy => by
          have := h188 (y + 1) (by rw [List.length_cons]; omega)
          rw [List.getD_cons_succ] at this
          rw [B1.i (by unfold kTN; omega), ← this]
          congr 1; omega)
        refine ⟨M2, N2, ?_, f2, R2', fun y hy => ?_, ?_, ?_⟩
        · rw [f1]; congr 3; omega
        · cases y with
          | zero =>
            refine ⟨c, m, a, D, ?_⟩
            show SL (65 + 12 * k) k t c m a D (gI N 124) M2 N2
            exact S1.ag A2 B2 (fun p i z => by unfold bM; omega) (fun p i z => Or.inr (Or.inr (Or.inr (Or.inr (Or.inr (by unfold pSl at z; unfold bS; omega))))))
          | succ y =>
            rw [List.getD_cons_succ, show k + (y + 1) = k + 1 + y by omega, ← V1]
            exact f4 y (by omega)
        · exact (AM1.mo (fun p i z => Or.inl z)).tr (A2.mo (fun p i z => by unfold bM at z ⊢; omega))
        · refine (B1.mo (fun p i z => ?_)).tr (B2.mo (fun p i z => ?_))
          · unfold bN bS at z; unfold kTN; omega
          · rcases z with z | z | z | z | z | z
            · exact Or.inl z
            · exact Or.inr (Or.inl z)
            · exact Or.inr (Or.inr (Or.inl z))
            · exact Or.inr (Or.inr (Or.inr (Or.inl z)))
            · exact Or.inr (Or.inr (Or.inr (Or.inr (Or.inl z))))
            · exact Or.inr (Or.inr (Or.inr (Or.inr (Or.inr (by unfold bS at z ⊢; omega)))))
      · rw [if_neg z2] at h81 h188
        rw [if_neg z2, if_neg z2, lt_w, nI_1]
        exact tries_lp hw (s := s) r (t + 1) k F (F' + 1) M N (by omega) (by omega) (by omega) hk R h12 hs h81 h188
theorem turns_lp {nT n : Nat} {V : Nat → Int32} {T : Nat → Nat} (n4 : n ≤ 4) (hT : ∀ k, k < n → T k < nT) (inc : ∀ k k', k < k' → k' < n → T k < T k') : ∀ r i e F F' (M N : Mem), i + r = n → r < F → r < F' → R2 nT e M N → VR V i M N → gI N 119 81 = nI n → (∀ k, k < n → gI N 188 k = nI (T k)) → (∀ k, i ≤ k → k < n → gI N 138 (T k) = 0 ∧ ∃ c m a D, SL (65 + 12 * k) k (T k) c m a D V M N) →
    ∃ M' N' e' y, f_X8_playRound_22 nT F M (nI n) (nI i) = some (y, M') ∧ f_X9_round_100 F' N (nI i) = some (y, N') ∧ R2 nT e' M' N' ∧ Ag (fun p _ => 119 ≤ p ∧ p ≤ 188) M M' ∧ Ag (fun p _ => p < 119 ∨ 189 ≤ p) N N'
  | 0, i, e, F, F', M, N, hi, hF, hF', R, hV, h81, h188, hS => by
    obtain ⟨F, rfl⟩ : ∃ f, F = f + 1 := ⟨F - 1, by omega⟩
    obtain ⟨F', rfl⟩ : ∃ f, F' = f + 1 := ⟨F' - 1, by omega⟩
    refine ⟨M, N, e, nI i, ?_, ?_, R, Ag.rf, Ag.rf⟩
    · rw [f_X8_playRound_22, if_pos (nI_le (by omega) (by omega))]
    · rw [f_X9_round_100, h81, if_pos (nI_le (by omega) (by omega))]
  | r + 1, i, e, F, F', M, N, hi, hF, hF', R, hV, h81, h188, hS => by
    obtain ⟨F, rfl⟩ : ∃ f, F = f + 1 := ⟨F - 1, by omega⟩
    obtain ⟨F', rfl⟩ : ∃ f, F' = f + 1 := ⟨F' - 1, by omega⟩
    have n20 := R.n20
    have i4 : i < 4 := by omega
    obtain ⟨st, c, m, a, D, S⟩ := hS i (Nat.le_refl _) (by omega)
    have hTi := hT i (by omega)
    obtain ⟨b, b1, b2⟩ := over_lp R n4 (show i < n by omega) h81 (show T i ≤ nT by omega) (h188 i (by omega)) (fun y y1 y2 => by
      refine ⟨T y, ?_, ?_, h188 y y2⟩
      · by_cases z : y = i
        · rw [z]; exact Nat.le_refl _
        · exact Nat.le_of_lt (inc i y (by omega) y2)
      · have := hT y y2; omega) (T i) 0 FU FU (by omega) (by unfold FU; omega) (by unfold FU; omega)
    have b1' : f_X8_isReadyBelow nT M (nI (T i)) = some b := b1
    have b2' : f_X9_isOver N (nI i) = some b := b2
    rw [f_X8_playRound_22, f_X9_round_100, h81, if_neg (nI_ge (by omega) (by omega)), if_neg (nI_ge (by omega) (by omega)), inR_nI i4 (by decide), gd_w, nI_clamp (show i < 2 ^ 31 by omega), S.1, b1', sb_w, b2', sb_w, gd_w, gd_w]
    cases b with
    | true =>
      rw [if_neg (show ¬ bI true = 0 by decide), if_neg (show ¬ bI true = 0 by decide)]
      exact ⟨M, N, e, nI i, rfl, rfl, R, Ag.rf, Ag.rf⟩
    | false =>
      rw [if_pos bI_f, if_pos bI_f, h188 i (by omega)]
      obtain ⟨M1, N1, e1, c1, c2, R1, V1, A1, B1, Z1⟩ := turn_eq R S hV (by omega) i4 hTi st
      rw [c1, sb_w, c2, sb_w, lt_w, lt_w, nI_1]
      obtain ⟨M2, N2, e2, y, d1, d2, R2', A2, B2⟩ := turns_lp n4 hT inc r (i + 1) e1 F F' M1 N1 (by omega) (by omega) (by omega) R1 V1 (by rw [B1.i (by unfold tN; omega)]; exact h81) (fun k hk => by rw [B1.i (by unfold tN; omega)]; exact h188 k hk) (fun k k1 k2 => by
        obtain ⟨st', c', m', a', D', S'⟩ := hS k (by omega) k2
        refine ⟨Z1 (T k) (fun z => by have := inc i k (by omega) k2; omega) st', c', m', a', D', ?_⟩
        exact S'.ag A1 B1 (fun p u z => by unfold tM; omega) (fun p u z => Or.inr (Or.inr (Or.inr ⟨by unfold pSl at z; omega, by unfold pSl at z; omega, by unfold pSl at z ⊢; omega⟩))))
      exact ⟨M2, N2, e2, y, d1, d2, R2', (A1.mo (fun p u z => Or.inr z)).tr A2, (B1.mo (fun p u z => by unfold tN; omega)).tr B2⟩
theorem round_eq {nT e : Nat} {M N : Mem} (R : R2 nT e M N) : ∃ M' N' e' y, f_X8_playRound nT M = some (y, M') ∧ f_X9_round N = some (y, N') ∧ R2 nT e' M' N' ∧ Ag (fun p _ => 119 ≤ p ∧ p ≤ 188) M M' ∧ Ag (fun p _ => p < 119 ∨ 189 ≤ p) N N' := by
  have n20 := R.n20
  have A1 : Ag (fun p i => ¬ (p = 0 ∧ (i = 10 ∨ i = 13))) M (sL (sI M 0 10 (gI M 0 10 + 1)) 0 13 0) := (Ag.rf.tI (by omega)).tL (by omega)
  have B1 : Ag (fun p i => ¬ (p = 119 ∧ (i = 40 ∨ i = 81))) N (sI (sI N 119 40 (gI N 119 40 + 1)) 119 81 0) := (Ag.rf.tI (by omega)).tI (by omega)
  have R1 : R2 nT e (sL (sI M 0 10 (gI M 0 10 + 1)) 0 13 0) (sI (sI N 119 40 (gI N 119 40 + 1)) 119 81 0) := by
    obtain ⟨RC, RV, RH, RT, RR, RN, RK, RM⟩ := R
    refine ⟨RC.ag A1 B1 (fun p i z => by omega) (fun p i z => by omega), RV.ag A1 B1 (fun p i z => by omega) (fun p i z => by omega), RH.ag A1 B1 (fun p i z => by omega) (fun p i z => by omega), RT.ag A1 B1 (fun p i z => by omega) (fun p i z => by omega), RR.ag A1 B1 (fun p i z => by omega) (fun p i z => by omega), RN.ag A1 B1 (fun p i z => by omega) (fun p i z => by omega), RK.ag A1 B1 (fun p i z => by omega) (fun p i z => by omega), ?_⟩
    obtain ⟨m1, m2, m3, m4, m5, m6, ww, o1, o2, o3, o4⟩ := RM
    refine ⟨?_, ?_, ?_, fun i hi => ?_, ?_, ?_, ww, o1, o2, ?_, ?_⟩
    · rw [A1.i (by omega)]; exact m1
    · rw [B1.i (by omega)]; exact m2
    · rw [cntD_lt nT (fun i _ => B1.i (by omega))]; exact m3
    · rw [A1.i (by omega), B1.i (by omega)]; exact m4 i hi
    · simp (disch := omega) only [gI_s, gI_ne, gI_tL]; rw [m5]
    · rw [A1.i (by omega), B1.i (by omega)]; exact m6
    · rw [A1.i (by omega)]; exact o3
    · rw [B1.i (by omega)]; exact o4
  have l13 : gL (sL (sI M 0 10 (gI M 0 10 + 1)) 0 13 0) 0 13 = 0 := gL_s
  have h81 : gI (sI (sI N 119 40 (gI N 119 40 + 1)) 119 81 0) 119 81 = nI 0 := gI_s
  unfold f_X8_playRound f_X9_round
  rw [lt_w, lt_w, lt_w, lt_w]
  generalize sL (sI M 0 10 (gI M 0 10 + 1)) 0 13 0 = M1 at *
  generalize sI (sI N 119 40 (gI N 119 40 + 1)) 119 81 0 = N1 at *
  obtain ⟨w, w1, w4, hw1, hw2⟩ := R1.2.2.2.2.2.2.2.2.2.2.2.2.2
  obtain ⟨N2, c1, c2, c3, B2⟩ := coll_lp (w := w) (nT := nT) w4 n20 (s := gI N1 138) nT 0 0 FU N1 (by omega) (by unfold FU; omega) (by omega) R1.2.2.2.2.2.2.1.2.2.1 hw2 h81 (fun u => rfl)
  have R2' : R2 nT e M1 N2 := R1.ag (Ag.rf (P := fun _ _ => True)) B2 (fun _ _ _ => trivial) (fun p i z => by omega)
  obtain ⟨M3, N3, d1, d2, R3, d4, A3, B3⟩ := tries_lp (w := w) (nT := nT) w4 (s := gI N1 138) nT 0 0 FU FU M1 N2 (by omega) (by unfold FU; omega) (by unfold FU; omega) (by omega) R2' hw1 (fun u => B2.i (by omega)) c2 c3
  have pl := pk_len (s := gI N1 138) (w := w) nT 0 0 (by omega)
  generalize hl : pk (gI N1 138) w nT 0 0 = l at *
  have hall : ∀ y, y < l.length → l.getD y 0 < nT ∧ gI N1 138 (l.getD y 0) = 0 := by
    intro y hy
    have := pk_all (s := gI N1 138) (w := w) nT 0 0 y (by rw [hl]; exact hy)
    rw [hl] at this
    exact ⟨by omega, this.2.2⟩
  have hinc : ∀ k k', k < k' → k' < l.length → l.getD k 0 < l.getD k' 0 := by
    intro k k' h1 h2
    have := pk_inc (s := gI N1 138) (w := w) nT 0 0 k k' h1 (by rw [hl]; exact h2)
    rw [hl] at this
    exact this
  have z0 : 0 + l.length = l.length := Nat.zero_add _
  rw [z0] at d1 c2 pl
  have d1' : f_X8_tryLeastReady nT M1 = some (nI l.length, M3) := d1
  have d2' : f_X9_round_71 N2 = f_X9_round_100 FU N3 0 := d2
  have V3 : VR (gI N2 124) 0 M3 N3 := by
    intro c hc
    refine ⟨0, Nat.le_refl _, ?_, ?_⟩
    · rw [B3.i (by unfold bN; omega)]; exact (Int32.add_zero _).symm
    · rw [A3.l (by unfold bM; omega), l13, bt_0]; rfl
  obtain ⟨M4, N4, e4, y, f1, f2, R4, A4, B4⟩ := turns_lp (nT := nT) (n := l.length) (V := gI N2 124) (T := fun k => l.getD k 0) (by omega) (fun k hk => (hall k hk).1) hinc l.length 0 e FU FU M3 N3 (by omega) (by unfold FU; omega) (by unfold FU; omega) R3 V3 (by rw [B3.i (by unfold bN; omega)]; exact c2) (fun k hk => by
    have := c3 k hk
    rw [Nat.zero_add] at this
    rw [B3.i (by unfold bN; omega)]; exact this) (fun k _ hk => by
    refine ⟨?_, ?_⟩
    · rw [B3.i (by unfold bN; omega), B2.i (by omega)]; exact (hall k hk).2
    · have := d4 k hk
      rw [Nat.zero_add] at this
      exact this)
  have c1' : f_X9_round_17 FU N1 0 = f_X9_round_71 N2 := c1
  rw [d1', sb_w, c1', d2']
  refine ⟨M4, N4, e4, y, f1, f2, R4, ?_, ?_⟩
  · exact ((A1.mo (fun p i z => by omega)).tr (A3.mo (fun p i z => by unfold bM; omega))).tr A4
  · exact (((B1.mo (fun p i z => by omega)).tr (B2.mo (fun p i z => by omega))).tr (B3.mo (fun p i z => by unfold bN; omega))).tr B4
theorem run_lp {nT A : Nat} (hA : A ≤ 100) : ∀ r i e F F' (M N : Mem) (v : Int32), i + r = A → r < F → r < F' → R2 nT e M N → ∃ M' N' e' y, f_X8_run_18 nT F M (nI A) v (nI i) = some (y, M') ∧ f_X9_run_19 F' N (nI A) v (nI i) = some (y, N') ∧ R2 nT e' M' N' ∧ Ag (fun p _ => 119 ≤ p ∧ p ≤ 188) M M' ∧ Ag (fun p _ => p < 119 ∨ 189 ≤ p) N N'
  | 0, i, e, F, F', M, N, v, hi, hF, hF', R => by
    obtain ⟨F, rfl⟩ : ∃ f, F = f + 1 := ⟨F - 1, by omega⟩
    obtain ⟨F', rfl⟩ : ∃ f, F' = f + 1 := ⟨F' - 1, by omega⟩
    refine ⟨M, N, e, v, ?_, ?_, R, Ag.rf, Ag.rf⟩
    · rw [f_X8_run_18, if_pos (nI_le (by omega) (by omega))]
    · rw [f_X9_run_19, if_pos (nI_le (by omega) (by omega))]
  | r + 1, i, e, F, F', M, N, v, hi, hF, hF', R => by
    obtain ⟨F, rfl⟩ : ∃ f, F = f + 1 := ⟨F - 1, by omega⟩
    obtain ⟨F', rfl⟩ : ∃ f, F' = f + 1 := ⟨F' - 1, by omega⟩
    have n20 := R.n20
    obtain ⟨b, y, b1, b2, b3, b4, b5⟩ := rm_lp R nT 0 0 FU FU (by omega) (by unfold FU; omega) (by unfold FU; omega)
    have b1' : f_X8_isReadyBelow nT M (nI nT) = some b := b1
    have b2' : f_X9_many N 0 = some (nI y) := b2
    rw [f_X8_run_18, f_X9_run_19, if_neg (nI_ge (by omega) (by omega)), if_neg (nI_ge (by omega) (by omega)), R.2.2.2.2.2.2.1.2.1, b1', sb_w, b2', sb_w]
    cases b with
    | false =>
      have y0 : y = 0 := by
        have : ¬ 0 < y := fun z => absurd (b5.mpr z) (by decide)
        omega
      subst y0
      rw [if_pos bI_f, if_pos (show nI 0 ≤ 0 by decide)]
      exact ⟨M, N, e, v, rfl, rfl, R, Ag.rf, Ag.rf⟩
    | true =>
      have y0 : 0 < y := b5.mp rfl
      rw [if_neg (show ¬ bI true = 0 by decide), if_neg (show ¬ nI y ≤ 0 from nI_ge (a := 0) y0 (by omega))]
      obtain ⟨M1, N1, e1, x, c1, c2, R1, A1, B1⟩ := round_eq R
      rw [c1, sb_w, c2, sb_w, lt_w, lt_w, lt_w, lt_w, nI_1]
      obtain ⟨M2, N2, e2, z, d1, d2, R2', A2, B2⟩ := run_lp hA r (i + 1) e1 F F' M1 N1 (v + x) (by omega) (by omega) (by omega) R1
      exact ⟨M2, N2, e2, z, d1, d2, R2', A1.tr A2, B1.tr B2⟩
theorem run_eq {nT e : Nat} {M N : Mem} (R : R2 nT e M N) (a : Int32) : ∃ M' N' e' y, f_X8_run nT M a = some (y, M') ∧ f_X9_run N a = some (y, N') ∧ R2 nT e' M' N' ∧ Ag (fun p _ => 119 ≤ p ∧ p ≤ 188) M M' ∧ Ag (fun p _ => p < 119 ∨ 189 ≤ p) N N' := by
  unfold f_X8_run f_X9_run
  rw [show (1 : Int64) = Int32.toInt64 1 from rfl, show (100 : Int64) = Int32.toInt64 100 from rfl, in9, sb_w]
  by_cases h1 : a < 1
  · rw [if_pos h1, decide_eq_false (fun z => absurd z.1 (Int32.not_le.mpr h1)), if_pos bI_f]
    exact ⟨M, N, e, -2, rfl, rfl, R, Ag.rf, Ag.rf⟩
  · rw [if_neg h1]
    by_cases h2 : a ≤ 100
    · rw [if_pos h2, decide_eq_true ⟨Int32.not_lt.mp h1, h2⟩, if_neg (show ¬ bI true = 0 by decide)]
      have h0 : ¬ a < 0 := by
        intro z
        apply h1
        rw [Int32.lt_iff_toInt_lt] at z ⊢
        have e0 : (0 : Int32).toInt = 0 := rfl
        have e1 : (1 : Int32).toInt = 1 := rfl
        omega
      obtain ⟨A, hA, rfl⟩ := nI_of2 (M := 100) (n := 100) (by decide) h0 h2
      exact run_lp hA A 0 e FU FU M N 0 (by omega) (by unfold FU; omega) (by unfold FU; omega) R
    · rw [if_neg h2, decide_eq_false (fun z => h2 z.2), if_pos bI_f]
      exact ⟨M, N, e, -2, rfl, rfl, R, Ag.rf, Ag.rf⟩
theorem s_run : S_run Rel := by
  intro nT M a hR
  obtain ⟨e, R⟩ := R2.of hR
  obtain ⟨M1, N1, e1, y, c1, -, -, A1, -⟩ := run_eq R a
  have R' : R2 nT e M M1 := R.ag (Ag.rf (P := fun _ _ => True)) A1 (fun _ _ _ => trivial) (fun p i z => by omega)
  obtain ⟨M1', M2, e2, y', d1, d2, R2', -, B2⟩ := run_eq R' a
  rw [c1] at d1
  obtain ⟨rfl, rfl⟩ := Prod.mk.inj (Option.some.inj d1)
  refine ⟨y, M1, M2, c1, d2, ?_⟩
  exact R2.to (e := e2) (R2'.ag B2 (Ag.rf (P := fun _ _ => True)) (fun p i z => by omega) (fun _ _ _ => trivial))

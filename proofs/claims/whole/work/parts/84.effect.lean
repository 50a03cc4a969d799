theorem rem_eq {c t h : Nat} {M : Mem} (hc : c < 40) (h12 : h ≤ 12) (e : gI M 10 c = nI h) : ∃ M', f_X5_remember M (nI c) (nI t) = some M' ∧ Ag (fun p i => ¬ ((p = 9 ∧ 12 * c ≤ i ∧ i < 12 * c + 12) ∨ (p = 10 ∧ i = c))) M M' ∧ gI M' 10 c = nI (min (h + 1) 12) ∧ ∀ i, i < 12 → gI M' 9 (12 * c + i) = if i = h then nI t else gI M 9 (12 * c + i) := by
  unfold f_X5_remember
  rw [inR_nI hc (by decide), gd_w, nI_clamp (show c < 2 ^ 31 by omega), e]
  by_cases z : h = 12
  · subst z
    rw [if_pos (by decide)]
    exact ⟨M, rfl, Ag.rf, e, fun i hi => by rw [if_neg (by omega)]⟩
  · rw [if_neg (show ¬ (12 : Int32) ≤ nI h from nI_ge (b := 12) (by omega) (by decide)), gd_w, mx2 (K := 12) 12 c h rfl, inR_nI (show 12 * c + h < 480 by omega) (by decide), gd_w, lt_w, gd_w, gd_w, lt_w, nI_clamp (show 12 * c + h < 2 ^ 31 by omega), show gI (sI M 9 (12 * c + h) (nI t)) 10 c = nI h by rw [gI_ne (by omega)]; exact e, nI_1]
    refine ⟨_, rfl, (Ag.rf.tI (by omega)).tI (by omega), ?_, fun i hi => ?_⟩
    · rw [gI_s, show min (h + 1) 12 = h + 1 by omega]
    · rw [gI_ne (by omega)]
      by_cases y : i = h
      · subst y; rw [gI_s, if_pos rfl]
      · rw [gI_ne (by omega), if_neg y]
def cellK (M M' : Mem) (c : Nat) : Prop := gI M' 7 c = gI M 7 c ∧ gI M' 8 c = gI M 8 c ∧ gI M' 10 c = gI M 10 c ∧ ∀ i, i < 12 → gI M' 9 (12 * c + i) = gI M 9 (12 * c + i)
def cellW (t : Nat) (M M' : Mem) (c : Nat) : Prop := gI M' 7 c = gI M 7 c + 1 ∧ gI M' 8 c = nI t ∧ ∀ h, h ≤ 12 → gI M 10 c = nI h → gI M' 10 c = nI (min (h + 1) 12) ∧ ∀ i, i < 12 → gI M' 9 (12 * c + i) = if i = h then nI t else gI M 9 (12 * c + i)
theorem tw_lp {q t : Nat} (hq : 65 ≤ q) (w : Int64) : ∀ r k F (M : Mem), gL M q 8 = w → gI M q 3 = nI t → (∀ c, c < 40 → ∃ h, h ≤ 12 ∧ gI M 10 c = nI h) → k + r = 40 → r < F →
    ∃ M', f_X5_takeWritten_17 q F M (nI k) = some M' ∧ Ag (fun p i => ¬ (7 ≤ p ∧ p ≤ 10)) M M' ∧ (∀ c, c < 40 → (c < k ∨ bt w c = false) → cellK M M' c) ∧ (∀ c, k ≤ c → c < 40 → bt w c = true → cellW t M M' c)
  | 0, k, F, M, hw, h3, hh, hk, hF => by
    obtain ⟨F, rfl⟩ : ∃ f, F = f + 1 := ⟨F - 1, by omega⟩
    have : k = 40 := by omega
    subst this
    refine ⟨M, ?_, Ag.rf, fun c _ _ => ⟨rfl, rfl, rfl, fun _ _ => rfl⟩, fun c h1 h2 => absurd h1 (by omega)⟩
    rw [f_X5_takeWritten_17, if_pos (by decide)]
  | r + 1, k, F, M, hw, h3, hh, hk, hF => by
    obtain ⟨F, rfl⟩ : ∃ f, F = f + 1 := ⟨F - 1, by omega⟩
    have hk40 : k < 40 := by omega
    rw [f_X5_takeWritten_17, if_neg (show ¬ (40 : Int32) ≤ nI k from nI_ge (b := 40) (by omega) (by decide)), hw, among (by omega), sb_w]
    unfold f_X5_takeWritten_63
    cases hb : bt w k with
    | false =>
      rw [if_pos bI_f, lt_w, nI_1]
      obtain ⟨M', e1, e2, e3, e4⟩ := tw_lp hq w r (k + 1) F M hw h3 hh (by omega) (by omega)
      refine ⟨M', e1, e2, fun c hc hz => e3 c hc ?_, fun c c1 c2 c3 => ?_⟩
      · rcases hz with hz | hz
        · exact Or.inl (by omega)
        · exact Or.inr hz
      · by_cases z : c = k
        · subst z; rw [hb] at c3; cases c3
        · exact e4 c (by omega) c2 c3
    | true =>
      obtain ⟨h, h12, eh⟩ := hh k hk40
      have A1 : Ag (fun p i => ¬ ((p = 7 ∨ p = 8) ∧ i = k)) M (sI (sI M 7 k (gI M 7 k + 1)) 8 k (nI t)) := (Ag.rf.tI (by omega)).tI (by omega)
      have v7 : gI (sI (sI M 7 k (gI M 7 k + 1)) 8 k (nI t)) 7 k = gI M 7 k + 1 := by simp (disch := omega) only [gI_s, gI_ne]
      have v8 : gI (sI (sI M 7 k (gI M 7 k + 1)) 8 k (nI t)) 8 k = nI t := by simp (disch := omega) only [gI_s, gI_ne]
      rw [if_neg (show ¬ bI true = 0 by decide), inR_nI hk40 (by decide), gd_w, gd_w, lt_w, gd_w, lt_w, nI_clamp (show k < 2 ^ 31 by omega), show gI (sI M 7 k (gI M 7 k + 1)) q 3 = nI t by rw [gI_ne (by omega)]; exact h3]
      generalize sI (sI M 7 k (gI M 7 k + 1)) 8 k (nI t) = X at *
      obtain ⟨Y, g1, g2, g3, g4⟩ := rem_eq (t := t) (M := X) hk40 h12 (by rw [A1.i (by omega)]; exact eh)
      rw [A1.i (by omega), h3, g1, sb_w, lt_w, nI_1]
      have A2 : Ag (fun p i => ¬ (((p = 7 ∨ p = 8 ∨ p = 10) ∧ i = k) ∨ (p = 9 ∧ 12 * k ≤ i ∧ i < 12 * k + 12))) M Y := (A1.mo (fun p i z => by omega)).tr (g2.mo (fun p i z => by omega))
      obtain ⟨M', e1, e2, e3, e4⟩ := tw_lp hq w r (k + 1) F Y (by rw [A2.l (by omega)]; exact hw) (by rw [A2.i (by omega)]; exact h3) (fun c hc => by
        by_cases z : c = k
        · subst z; exact ⟨min (h + 1) 12, by omega, g3⟩
        · rw [A2.i (by omega)]; exact hh c hc) (by omega) (by omega)
      refine ⟨M', e1, (A2.mo (fun p i z => by omega)).tr e2, fun c hc hz => ?_, fun c c1 c2 c3 => ?_⟩
      · have hne : c ≠ k := by
          rintro rfl
          rcases hz with hz | hz
          · omega
          · rw [hb] at hz; cases hz
        have := e3 c hc (by rcases hz with hz | hz; exact Or.inl (by omega); exact Or.inr hz)
        unfold cellK at this ⊢
        rw [A2.i (by omega), A2.i (by omega), A2.i (by omega)] at this
        refine ⟨this.1, this.2.1, this.2.2.1, fun i hi => ?_⟩
        rw [this.2.2.2 i hi, A2.i (by omega)]
      · by_cases z : c = k
        · subst z
          obtain ⟨x1, x2, x3, x4⟩ := e3 c c2 (Or.inl (by omega))
          refine ⟨?_, ?_, fun h' h12' eh' => ?_⟩
          · rw [x1, g2.i (by omega)]; exact v7
          · rw [x2, g2.i (by omega)]; exact v8
          · have : h' = h := (nI_eq (by omega) (by omega)).mp (eh'.symm.trans eh)
            subst this
            refine ⟨x3.trans g3, fun i hi => ?_⟩
            rw [x4 i hi, g4 i hi, A1.i (by omega)]
        · obtain ⟨x1, x2, x3⟩ := e4 c (by omega) c2 c3
          refine ⟨?_, x2, fun h' h12' eh' => ?_⟩
          · rw [x1, A2.i (by omega)]
          · obtain ⟨y1, y2⟩ := x3 h' h12' (by rw [A2.i (by omega)]; exact eh')
            refine ⟨y1, fun i hi => ?_⟩
            rw [y2 i hi, A2.i (by omega)]
def rcK (N N' : Mem) (c : Nat) : Prop := gI N' 120 c = gI N 120 c ∧ gL N' 121 c = gL N 121 c ∧ gI N' 122 c = gI N 122 c ∧ gI N' 123 c = gI N 123 c ∧ gI N' 124 c = gI N 124 c ∧ gI N' 125 c = gI N 125 c ∧ gI N' 126 c = gI N 126 c ∧ ∀ i, i < 12 → gI N' 127 (12 * c + i) = gI N 127 (12 * c + i)
def rcW (t j : Nat) (N N' : Mem) (c : Nat) : Prop := gI N' 120 c = gI N 164 (40 * j + c) ∧ gL N' 121 c = gL N 165 (40 * j + c) ∧ gI N' 122 c = gI N 166 (40 * j + c) ∧ gI N' 123 c = gI N 167 (40 * j + c) ∧ gI N' 124 c = gI N 124 c + 1 ∧ gI N' 125 c = nI t ∧ ∀ n, n ≤ 100 → gI N 126 c = nI n → gI N' 126 c = nI (n + 1) ∧ ∀ i, i < 12 → gI N' 127 (12 * c + i) = if i = n then nI t else gI N 127 (12 * c + i)
theorem te1 {t j k F : Nat} {N : Mem} (hj : j < 4) (hk : k < 40) (hb : gB N 163 (40 * j + k) = true) {n : Nat} (n100 : n ≤ 100) (hn : gI N 126 k = nI n) : ∃ X, f_X9_takeEffect_2 (F + 1) N (nI t) (nI j) (nI k) = f_X9_takeEffect_2 F X (nI t) (nI j) (nI (k + 1)) ∧ rcW t j N X k ∧ Ag (fun p i => ¬ ((120 ≤ p ∧ p ≤ 126 ∧ i = k) ∨ (p = 127 ∧ 12 * k ≤ i ∧ i < 12 * k + 12))) N X := by
  rw [f_X9_takeEffect_2, if_neg (show ¬ (40 : Int32) ≤ nI k from nI_ge (b := 40) (by omega) (by decide)), mx (K := 40) 40 j k rfl, lt_w, inR_nI (show 40 * j + k < 160 by omega) (by decide), gd_w, nI_clamp (show 40 * j + k < 2 ^ 31 by omega), hb, if_neg (show ¬ bI true = 0 by decide)]
  rw [inR_nI hk (by decide), nI_clamp (show k < 2 ^ 31 by omega)]
  have a1 : gL (sI N 120 k (gI N 164 (40 * j + k))) 165 (40 * j + k) = gL N 165 (40 * j + k) := gL_tI
  have a2 : gI (sL (sI N 120 k (gI N 164 (40 * j + k))) 121 k (gL N 165 (40 * j + k))) 166 (40 * j + k) = gI N 166 (40 * j + k) := by simp (disch := omega) only [gI_ne, gI_tL]
  have a3 : gI (sI (sL (sI N 120 k (gI N 164 (40 * j + k))) 121 k (gL N 165 (40 * j + k))) 122 k (gI N 166 (40 * j + k))) 167 (40 * j + k) = gI N 167 (40 * j + k) := by simp (disch := omega) only [gI_ne, gI_tL]
  have a4 : gI (sI (sI (sL (sI N 120 k (gI N 164 (40 * j + k))) 121 k (gL N 165 (40 * j + k))) 122 k (gI N 166 (40 * j + k))) 123 k (gI N 167 (40 * j + k))) 124 k = gI N 124 k := by simp (disch := omega) only [gI_ne, gI_tL]
  rw [gd_w, gd_w, lt_w, gd_w, gd_w, lt_w, a1, gd_w, gd_w, lt_w, a2, gd_w, gd_w, lt_w, a3, gd_w, gd_w, lt_w, a4, gd_w, lt_w, gd_w]
  have B : Ag (fun p i => ¬ (120 ≤ p ∧ p ≤ 125 ∧ i = k)) N (sI (sI (sI (sI (sL (sI N 120 k (gI N 164 (40 * j + k))) 121 k (gL N 165 (40 * j + k))) 122 k (gI N 166 (40 * j + k))) 123 k (gI N 167 (40 * j + k))) 124 k (gI N 124 k + 1)) 125 k (nI t)) := (((((Ag.rf.tI (by omega)).tL (by omega)).tI (by omega)).tI (by omega)).tI (by omega)).tI (by omega)
  have b0 : gI (sI (sI (sI (sI (sL (sI N 120 k (gI N 164 (40 * j + k))) 121 k (gL N 165 (40 * j + k))) 122 k (gI N 166 (40 * j + k))) 123 k (gI N 167 (40 * j + k))) 124 k (gI N 124 k + 1)) 125 k (nI t)) 120 k = gI N 164 (40 * j + k) := by simp (disch := omega) only [gI_s, gI_ne, gI_tL]
  have b1 : gL (sI (sI (sI (sI (sL (sI N 120 k (gI N 164 (40 * j + k))) 121 k (gL N 165 (40 * j + k))) 122 k (gI N 166 (40 * j + k))) 123 k (gI N 167 (40 * j + k))) 124 k (gI N 124 k + 1)) 125 k (nI t)) 121 k = gL N 165 (40 * j + k) := by simp (disch := omega) only [gL_s, gL_ne, gL_tI]
  have b2 : gI (sI (sI (sI (sI (sL (sI N 120 k (gI N 164 (40 * j + k))) 121 k (gL N 165 (40 * j + k))) 122 k (gI N 166 (40 * j + k))) 123 k (gI N 167 (40 * j + k))) 124 k (gI N 124 k + 1)) 125 k (nI t)) 122 k = gI N 166 (40 * j + k) := by simp (disch := omega) only [gI_s, gI_ne, gI_tL]
  have b3 : gI (sI (sI (sI (sI (sL (sI N 120 k (gI N 164 (40 * j + k))) 121 k (gL N 165 (40 * j + k))) 122 k (gI N 166 (40 * j + k))) 123 k (gI N 167 (40 * j + k))) 124 k (gI N 124 k + 1)) 125 k (nI t)) 123 k = gI N 167 (40 * j + k) := by simp (disch := omega) only [gI_s, gI_ne, gI_tL]
  have b4 : gI (sI (sI (sI (sI (sL (sI N 120 k (gI N 164 (40 * j + k))) 121 k (gL N 165 (40 * j + k))) 122 k (gI N 166 (40 * j + k))) 123 k (gI N 167 (40 * j + k))) 124 k (gI N 124 k + 1)) 125 k (nI t)) 124 k = gI N 124 k + 1 := by simp (disch := omega) only [gI_s, gI_ne, gI_tL]
  have b5 : gI (sI (sI (sI (sI (sL (sI N 120 k (gI N 164 (40 * j + k))) 121 k (gL N 165 (40 * j + k))) 122 k (gI N 166 (40 * j + k))) 123 k (gI N 167 (40 * j + k))) 124 k (gI N 124 k + 1)) 125 k (nI t)) 125 k = nI t := gI_s
  generalize sI (sI (sI (sI (sL (sI N 120 k (gI N 164 (40 * j + k))) 121 k (gL N 165 (40 * j + k))) 122 k (gI N 166 (40 * j + k))) 123 k (gI N 167 (40 * j + k))) 124 k (gI N 124 k + 1)) 125 k (nI t) = X at *
  have b6 : gI X 126 k = nI n := by rw [B.i (by omega)]; exact hn
  have e123 : ∀ Y, gI Y 126 k = nI n → f_X9_takeEffect_123 (f_X9_takeEffect_2 F) Y (nI t) (nI j) (nI k) = f_X9_takeEffect_2 F (sI Y 126 k (nI (n + 1))) (nI t) (nI j) (nI (k + 1)) := by
    intro Y hY
    unfold f_X9_takeEffect_123 f_X9_takeEffect_133
    rw [inR_nI hk (by decide), gd_w, gd_w, lt_w, lt_w, nI_clamp (show k < 2 ^ 31 by omega), hY, nI_1, nI_1]
  have fin : ∀ Y, (∀ i, i < 12 → gI Y 127 (12 * k + i) = if i = n then nI t else gI N 127 (12 * k + i)) → Ag (fun p i => ¬ (p = 127 ∧ 12 * k ≤ i ∧ i < 12 * k + 12)) X Y → ∃ X', f_X9_takeEffect_123 (f_X9_takeEffect_2 F) Y (nI t) (nI j) (nI k) = f_X9_takeEffect_2 F X' (nI t) (nI j) (nI (k + 1)) ∧ rcW t j N X' k ∧ Ag (fun p i => ¬ ((120 ≤ p ∧ p ≤ 126 ∧ i = k) ∨ (p = 127 ∧ 12 * k ≤ i ∧ i < 12 * k + 12))) N X' := by
    intro Y hY C
    have D : Ag (fun p i => ¬ (p = 126 ∧ i = k)) Y (sI Y 126 k (nI (n + 1))) := Ag.rf.tI (by omega)
    refine ⟨_, e123 Y (by rw [C.i (by omega)]; exact b6), ⟨?_, ?_, ?_, ?_, ?_, ?_, fun n' h' e' => ?_⟩, ((B.mo (fun p i z => by omega)).tr (C.mo (fun p i z => by omega))).tr (D.mo (fun p i z => by omega))⟩
    · rw [D.i (by omega), C.i (by omega)]; exact b0
    · rw [D.l (by omega), C.l (by omega)]; exact b1
    · rw [D.i (by omega), C.i (by omega)]; exact b2
    · rw [D.i (by omega), C.i (by omega)]; exact b3
    · rw [D.i (by omega), C.i (by omega)]; exact b4
    · rw [D.i (by omega), C.i (by omega)]; exact b5
    · have : n' = n := (nI_eq (by omega) (by omega)).mp (e'.symm.trans hn)
      subst this
      refine ⟨gI_s, fun i hi => ?_⟩
      rw [D.i (by omega)]
      exact hY i hi
  rw [b6]
  by_cases z : 12 ≤ n
  · rw [if_pos (show (12 : Int32) ≤ nI n from nI_le (a := 12) z (by omega))]
    exact fin X (fun i hi => by rw [if_neg (by omega), B.i (by omega)]) Ag.rf
  · rw [if_neg (show ¬ (12 : Int32) ≤ nI n from nI_ge (b := 12) (by omega) (by decide)), gd_w, mx (K := 12) 12 k n rfl, inR_nI (show 12 * k + n < 480 by omega) (by decide), gd_w, lt_w, nI_clamp (show 12 * k + n < 2 ^ 31 by omega)]
    refine fin _ (fun i hi => ?_) (Ag.rf.tI (by omega))
    by_cases y : i = n
    · subst y; rw [gI_s, if_pos rfl]
    · rw [gI_ne (by omega), if_neg y, B.i (by omega)]
theorem te_lp {t j : Nat} (hj : j < 4) : ∀ r k F (N : Mem), (∀ c, k ≤ c → c < 40 → ∃ n, n ≤ 20 ∧ gI N 126 c = nI n) → k + r = 40 → r < F →
    ∃ N' F', f_X9_takeEffect_2 F N (nI t) (nI j) (nI k) = f_X9_takeEffect_2 (F' + 1) N' (nI t) (nI j) (nI 40) ∧ Ag (fun p i => ¬ (120 ≤ p ∧ p ≤ 127)) N N' ∧ (∀ c, c < 40 → (c < k ∨ gB N 163 (40 * j + c) = false) → rcK N N' c) ∧ (∀ c, k ≤ c → c < 40 → gB N 163 (40 * j + c) = true → rcW t j N N' c)
  | 0, k, F, N, hh, hk, hF => by
    obtain ⟨F, rfl⟩ : ∃ f, F = f + 1 := ⟨F - 1, by omega⟩
    have : k = 40 := by omega
    subst this
    exact ⟨N, F, rfl, Ag.rf, fun c _ _ => ⟨rfl, rfl, rfl, rfl, rfl, rfl, rfl, fun _ _ => rfl⟩, fun c h1 h2 => absurd h1 (by omega)⟩
  | r + 1, k, F, N, hh, hk, hF => by
    obtain ⟨F, rfl⟩ : ∃ f, F = f + 1 := ⟨F - 1, by omega⟩
    have hk40 : k < 40 := by omega
    cases hb : gB N 163 (40 * j + k) with
    | false =>
      obtain ⟨N', F', e1, e2, e3, e4⟩ := te_lp hj r (k + 1) F N (fun c c1 c2 => hh c (by omega) c2) (by omega) (by omega)
      refine ⟨N', F', ?_, e2, fun c hc hz => e3 c hc ?_, fun c c1 c2 c3 => ?_⟩
      · rw [← e1, f_X9_takeEffect_2, if_neg (show ¬ (40 : Int32) ≤ nI k from nI_ge (b := 40) (by omega) (by decide)), mx (K := 40) 40 j k rfl, lt_w, inR_nI (show 40 * j + k < 160 by omega) (by decide), gd_w, nI_clamp (show 40 * j + k < 2 ^ 31 by omega), hb, if_pos bI_f]
        unfold f_X9_takeEffect_133
        rw [lt_w, nI_1]
      · rcases hz with hz | hz
        · exact Or.inl (by omega)
        · exact Or.inr hz
      · by_cases z : c = k
        · subst z; rw [hb] at c3; cases c3
        · exact e4 c (by omega) c2 c3
    | true =>
      obtain ⟨n, n20, hn⟩ := hh k (Nat.le_refl _) hk40
      obtain ⟨X, x1, x2, B⟩ := te1 (t := t) (F := F) hj hk40 hb (show n ≤ 100 by omega) hn
      obtain ⟨N', F', e1, e2, e3, e4⟩ := te_lp hj r (k + 1) F X (fun c c1 c2 => by rw [B.i (by omega)]; exact hh c (by omega) c2) (by omega) (by omega)
      refine ⟨N', F', x1.trans e1, (B.mo (fun p i z => by omega)).tr e2, fun c hc hz => ?_, fun c c1 c2 c3 => ?_⟩
      · have hne : c ≠ k := by
          rintro rfl
          rcases hz with hz | hz
          · omega
          · rw [hb] at hz; cases hz
        obtain ⟨y0, y1, y2, y3, y4, y5, y6, y7⟩ := e3 c hc (by
          rcases hz with hz | hz
          · exact Or.inl (by omega)
          · exact Or.inr (by rw [B.b (by omega)]; exact hz))
        refine ⟨?_, ?_, ?_, ?_, ?_, ?_, ?_, fun i hi => ?_⟩
        · rw [y0, B.i (by omega)]
        · rw [y1, B.l (by omega)]
        · rw [y2, B.i (by omega)]
        · rw [y3, B.i (by omega)]
        · rw [y4, B.i (by omega)]
        · rw [y5, B.i (by omega)]
        · rw [y6, B.i (by omega)]
        · rw [y7 i hi, B.i (by omega)]
      · by_cases z : c = k
        · subst z
          obtain ⟨y0, y1, y2, y3, y4, y5, y6, y7⟩ := e3 c c2 (Or.inl (by omega))
          obtain ⟨x20, x21, x22, x23, x24, x25, x26⟩ := x2
          refine ⟨y0.trans x20, y1.trans x21, y2.trans x22, y3.trans x23, y4.trans x24, y5.trans x25, fun n' h' en => ?_⟩
          obtain ⟨u1, u2⟩ := x26 n' h' en
          exact ⟨y6.trans u1, fun i hi => (y7 i hi).trans (u2 i hi)⟩
        · obtain ⟨y0, y1, y2, y3, y4, y5, y6⟩ := e4 c (by omega) c2 (by rw [B.b (by omega)]; exact c3)
          refine ⟨?_, ?_, ?_, ?_, ?_, y5, fun n' h' en => ?_⟩
          · rw [y0, B.i (by omega)]
          · rw [y1, B.l (by omega)]
          · rw [y2, B.i (by omega)]
          · rw [y3, B.i (by omega)]
          · rw [y4, B.i (by omega)]
          · obtain ⟨u1, u2⟩ := y6 n' h' (by rw [B.i (by omega)]; exact en)
            refine ⟨u1, fun i hi => ?_⟩
            rw [u2 i hi, B.i (by omega)]
theorem an_lp {t j m : Nat} (ht : t < 20) (hj : j < 4) (hm : m ≤ 40) : ∀ r i F (N : Mem), gI N 170 j = nI m → i + r = min m 8 → r < F → ∃ N', f_X9_takeEffect_180 F N (nI t) (nI j) (nI i) = f_X9_takeEffect_224 N' (nI t) (nI j) ∧ Ag (fun p x => ¬ (p = 146 ∧ 8 * t + i ≤ x ∧ x < 8 * t + 8)) N N' ∧ ∀ x, i ≤ x → x < min m 8 → gL N' 146 (8 * t + x) = gL N 171 (8 * j + x)
  | 0, i, F, N, h0, hi, hF => by
    obtain ⟨F, rfl⟩ : ∃ f, F = f + 1 := ⟨F - 1, by omega⟩
    refine ⟨N, ?_, Ag.rf, fun x x1 x2 => absurd x1 (by omega)⟩
    rw [f_X9_takeEffect_180]
    by_cases z : i = 8
    · subst z
      rw [if_pos (by decide)]
    · rw [if_neg (show ¬ (8 : Int32) ≤ nI i from nI_ge (b := 8) (by omega) (by decide)), inR_nI hj (by decide), gd_w, nI_clamp (show j < 2 ^ 31 by omega), h0, if_pos (nI_le (by omega) (by omega))]
  | r + 1, i, F, N, h0, hi, hF => by
    obtain ⟨F, rfl⟩ : ∃ f, F = f + 1 := ⟨F - 1, by omega⟩
    have B : Ag (fun p x => ¬ (p = 146 ∧ x = 8 * t + i)) N (sL N 146 (8 * t + i) (gL N 171 (8 * j + i))) := Ag.rf.tL (by omega)
    obtain ⟨N', e1, e2, e3⟩ := an_lp ht hj hm r (i + 1) F (sL N 146 (8 * t + i) (gL N 171 (8 * j + i))) (by rw [B.i (by omega)]; exact h0) (by omega) (by omega)
    refine ⟨N', ?_, ?_, fun x x1 x2 => ?_⟩
    · rw [f_X9_takeEffect_180, if_neg (show ¬ (8 : Int32) ≤ nI i from nI_ge (b := 8) (by omega) (by decide)), inR_nI hj (by decide), gd_w, nI_clamp (show j < 2 ^ 31 by omega), h0, if_neg (nI_ge (by omega) (by omega)), mx (K := 8) 8 j i rfl, mx (K := 8) 8 t i rfl, inR_nI (show 8 * j + i < 32 by omega) (by decide), inR_nI (show 8 * t + i < 160 by omega) (by decide), gd_w, gd_w, lt_w, lt_w, nI_clamp (show 8 * j + i < 2 ^ 31 by omega), nI_clamp (show 8 * t + i < 2 ^ 31 by omega), nI_1, e1]
    · exact (B.mo (fun p x z => by omega)).tr (e2.mo (fun p x z => by omega))
    · by_cases z : x = i
      · subst z
        rw [e2.l (by omega), gL_s]
      · rw [e3 x (by omega) x2, B.l (by omega)]
theorem tells_ag {N N' : Mem} (h1 : ∀ i, gI N' 120 i = gI N 120 i) (h2 : ∀ i, gL N' 121 i = gL N 121 i) (a b : Int32) (x : Int64) : f_X9_tellsOf N' a b x = f_X9_tellsOf N a b x := by
  unfold f_X9_tellsOf f_X9_tellsOf_76 f_X9_tellsOf_77
  simp only [h1, h2]
theorem tells1 {q i : Nat} {M N : Mem} {k b : Int32} {x : Int64} (C : PCells M N) (hi : i < 40) (ok : okA k b) (r1 : gI M (q + 9) i = k) (r2 : gI M (q + 10) i = b) (r3 : gL M (q + 11) i = x) : ∃ v, f_X8_whatActTells q M (nI i) = some v ∧ f_X9_tellsOf N k b x = some v := by
  unfold f_X8_whatActTells f_X9_tellsOf
  simp only [inR_nI hi (by decide), gd_w, lt_w, nI_clamp (show i < 2 ^ 31 by omega), r1, r2, r3]
  rcases ok with k0 | ⟨k0, kb⟩
  · rw [k0, if_pos rfl, if_pos rfl]
    exact ⟨_, rfl, rfl⟩
  · obtain ⟨c, hc, rfl⟩ := in_of (n := 40) (by decide) kb
    obtain ⟨x1, x2, x3, -⟩ := C c hc
    rw [k0, if_neg (show ¬ (1 : Int32) = 0 by decide), if_neg (show ¬ (1 : Int32) = 0 by decide)]
    unfold f_X9_tellsOf_76 f_X9_tellsOf_77 f_X8_whatActTells_69 f_X8_faultOfPart
    simp only [inR_nI hc (by decide), gd_w, nI_clamp (show c < 2 ^ 31 by omega), show gI M (2 + 1) c = gI N 120 c from x1, show gL M (2 + 2) c = gL N 121 c from x2]
    rw [x1] at x3
    rcases x3 with y | y | y
    · rw [y, if_neg (by decide), if_pos rfl, if_pos rfl, if_neg (by decide)]
      exact ⟨_, rfl, by decide⟩
    · rw [y, if_pos rfl, if_neg (show ¬ (1 : Int32) = 0 by decide), if_neg (show ¬ (1 : Int32) = 2 by decide)]
      by_cases z : gL N 121 c = 0
      · rw [if_pos z, if_pos z, sb_w, if_neg (by decide), if_neg (by decide)]
        exact ⟨_, rfl, by decide⟩
      · have zb : (gL N 121 c != 0) = true := by simp [z]
        rw [if_neg z, if_neg z]
        by_cases u : x = -9223372036854775808
        · rw [if_pos u, if_pos u]
          by_cases v : gL N 121 c = -1
          · rw [if_pos v, if_pos v, sb_w, if_neg (by decide), if_neg (by decide)]
            exact ⟨_, rfl, by decide⟩
          · rw [if_neg v, if_neg v, sb_w, if_pos rfl, if_pos (by decide), zb, gd_w]
            exact ⟨_, rfl, rfl⟩
        · rw [if_neg u, if_neg u, sb_w, if_pos rfl, if_pos (by decide), zb, gd_w]
          exact ⟨_, rfl, rfl⟩
    · rw [y, if_neg (by decide), if_neg (by decide), if_neg (by decide), if_pos rfl, if_neg (by decide)]
      exact ⟨_, rfl, by decide⟩
theorem app_eq {n t : Nat} {M : Mem} (hn : n < 2000) (e : gI M 22 3 = nI n) (k : Int32) (v : Int64) : ∃ M1, f_X3_append M (nI t) k v = some M1 ∧ gI M1 22 3 = nI (n + 1) ∧ (n < 40 → gI M1 23 n = nI t ∧ gI M1 24 n = k ∧ gL M1 25 n = v) ∧ Ag (fun p i => ¬ ((p = 22 ∧ i = 3) ∨ (23 ≤ p ∧ p ≤ 25 ∧ i = n))) M M1 := by
  unfold f_X3_append f_X3_append_39
  rw [e]
  by_cases z : 40 ≤ n
  · rw [if_pos (show (40 : Int32) ≤ nI n from nI_le (a := 40) z (by omega)), lt_w, nI_1]
    exact ⟨_, rfl, gI_s, fun y => absurd y (by omega), Ag.rf.tI (by omega)⟩
  · have hin := inR_nI (show n < 40 by omega) (by decide)
    rw [if_neg (show ¬ (40 : Int32) ≤ nI n from nI_ge (b := 40) (by omega) (by decide)), hin, gd_w, lt_w, nI_clamp (show n < 2 ^ 31 by omega), show gI (sI M 23 n (nI t)) 22 3 = nI n by rw [gI_ne (by omega)]; exact e, hin, gd_w, lt_w, nI_clamp (show n < 2 ^ 31 by omega), show gI (sI (sI M 23 n (nI t)) 24 n k) 22 3 = nI n by rw [gI_ne (by omega), gI_ne (by omega)]; exact e, hin, gd_w, lt_w, nI_clamp (show n < 2 ^ 31 by omega), lt_w, show gI (sL (sI (sI M 23 n (nI t)) 24 n k) 25 n v) 22 3 = nI n by rw [gI_tL, gI_ne (by omega), gI_ne (by omega)]; exact e, nI_1]
    refine ⟨_, rfl, gI_s, fun _ => ⟨?_, ?_, ?_⟩, (((Ag.rf.tI (by omega)).tI (by omega)).tL (by omega)).tI (by omega)⟩
    · simp (disch := omega) only [gI_s, gI_ne, gI_tL]
    · simp (disch := omega) only [gI_s, gI_ne, gI_tL]
    · simp (disch := omega) only [gL_s, gL_ne, gL_tI]
theorem app9 {n t j i a F : Nat} {N : Mem} {v : Int64} (hj : j < 4) (hi : i < a) (a40 : a ≤ 40) (h172 : gI N 172 j = nI a) (hn : n < 2000) (e : gI N 119 42 = nI n) (hv : f_X9_tellsOf N (gI N 173 (40 * j + i)) (gI N 174 (40 * j + i)) (gL N 175 (40 * j + i)) = some v) : ∃ N1, f_X9_takeEffect_226 (F + 1) N (nI t) (nI j) (nI i) = f_X9_takeEffect_226 F N1 (nI t) (nI j) (nI (i + 1)) ∧ gI N1 119 42 = nI (n + 1) ∧ (n < 40 → gI N1 156 n = nI t ∧ gI N1 157 n = gI N 173 (40 * j + i) ∧ gL N1 158 n = v) ∧ Ag (fun p i => ¬ ((p = 119 ∧ i = 42) ∨ (156 ≤ p ∧ p ≤ 158 ∧ i = n))) N N1 := by
  rw [f_X9_takeEffect_226, inR_nI hj (by decide), gd_w, nI_clamp (show j < 2 ^ 31 by omega), h172, if_neg (nI_ge hi (by omega)), e]
  unfold f_X9_takeEffect_321
  by_cases z : 40 ≤ n
  · rw [if_pos (show (40 : Int32) ≤ nI n from nI_le (a := 40) z (by omega)), e, lt_w, lt_w, nI_1, nI_1]
    exact ⟨_, rfl, gI_s, fun y => absurd y (by omega), Ag.rf.tI (by omega)⟩
  · have hin := inR_nI (show n < 40 by omega) (by decide)
    have c31 := nI_clamp (show n < 2 ^ 31 by omega)
    have hix := inR_nI (show 40 * j + i < 160 by omega) (by decide)
    have x31 := nI_clamp (show 40 * j + i < 2 ^ 31 by omega)
    have f1 : gI (sI N 156 n (nI t)) 119 42 = nI n := by rw [gI_ne (by omega)]; exact e
    have f2 : gI (sI N 156 n (nI t)) 173 (40 * j + i) = gI N 173 (40 * j + i) := gI_ne (by omega)
    have f3 : gI (sI (sI N 156 n (nI t)) 157 n (gI N 173 (40 * j + i))) 119 42 = nI n := by rw [gI_ne (by omega)]; exact f1
    have f4 : gI (sI (sI N 156 n (nI t)) 157 n (gI N 173 (40 * j + i))) 173 (40 * j + i) = gI N 173 (40 * j + i) := by rw [gI_ne (by omega)]; exact f2
    have f5 : gI (sI (sI N 156 n (nI t)) 157 n (gI N 173 (40 * j + i))) 174 (40 * j + i) = gI N 174 (40 * j + i) := by simp (disch := omega) only [gI_ne]
    have f6 : gL (sI (sI N 156 n (nI t)) 157 n (gI N 173 (40 * j + i))) 175 (40 * j + i) = gL N 175 (40 * j + i) := by rw [gL_tI, gL_tI]
    rw [if_neg (show ¬ (40 : Int32) ≤ nI n from nI_ge (b := 40) (by omega) (by decide)), hin, gd_w, lt_w, c31, mx (K := 40) 40 j i rfl, hix, gd_w, x31, f1, f2, hin, gd_w, lt_w, c31, gd_w, gd_w, gd_w, f3, f4, f5, f6, tells_ag (N := N) (fun u => by simp (disch := omega) only [gI_ne]) (fun u => by rw [gL_tI, gL_tI]), hv, sb_w, hin, gd_w, lt_w, c31, lt_w, lt_w, show gI (sL (sI (sI N 156 n (nI t)) 157 n (gI N 173 (40 * j + i))) 158 n v) 119 42 = nI n by rw [gI_tL]; exact f3, nI_1, nI_1]
    refine ⟨_, rfl, gI_s, fun _ => ⟨?_, ?_, ?_⟩, (((Ag.rf.tI (by omega)).tI (by omega)).tL (by omega)).tI (by omega)⟩
    · simp (disch := omega) only [gI_s, gI_ne, gI_tL]
    · simp (disch := omega) only [gI_s, gI_ne, gI_tL]
    · simp (disch := omega) only [gL_s, gL_ne, gL_tI]
theorem acts_lp {nT r q j t a : Nat} {w : Int64} (hq : 65 ≤ q) (hj : j < 4) (a40 : a ≤ 40) : ∀ x i n F F' (M N : Mem), i + x = a → x < F → x < F' → n + x < 2000 → gI M q 3 = nI t → gL M q 8 = w → gI M q 15 = nI a → gI N 172 j = nI a → PCells M N → (∀ i, i < a → i < 40 → okA (gI N 173 (40 * j + i)) (gI N 174 (40 * j + i)) ∧ gI M (q + 9) i = gI N 173 (40 * j + i) ∧ gI M (q + 10) i = gI N 174 (40 * j + i) ∧ gL M (q + 11) i = gL N 175 (40 * j + i)) →
    gI M 22 3 = nI n → gI N 119 42 = nI n → (∀ i, i < 40 → i < n → gI M 23 i = gI N 156 i ∧ gI M 24 i = gI N 157 i ∧ gL M 25 i = gL N 158 i) →
    ∃ M' N', f_X8_takeEffect_56 nT r q F M (nI i) = (Option.bind (f_X8_wake nT M' w (nI t)) fun r_1 => some r_1) ∧ f_X9_takeEffect_226 F' N (nI t) (nI j) (nI i) = f_X9_takeEffect_339 FU N' (nI t) (nI j) 0 ∧ gI M' 22 3 = nI (n + x) ∧ gI N' 119 42 = nI (n + x) ∧ (∀ i, i < 40 → i < n + x → gI M' 23 i = gI N' 156 i ∧ gI M' 24 i = gI N' 157 i ∧ gL M' 25 i = gL N' 158 i) ∧ Ag (fun p i => ¬ (22 ≤ p ∧ p ≤ 25)) M M' ∧ Ag (fun p i => ¬ ((p = 119 ∧ i = 42) ∨ (156 ≤ p ∧ p ≤ 158))) N N'
  | 0, i, n, F, F', M, N, hi, hF, hF', hn, h3, h8, h15, h172, C, hA, m22, n42, hN => by
    obtain ⟨F, rfl⟩ : ∃ f, F = f + 1 := ⟨F - 1, by omega⟩
    obtain ⟨F', rfl⟩ : ∃ f, F' = f + 1 := ⟨F' - 1, by omega⟩
    have : i = a := by omega
    subst this
    refine ⟨M, N, ?_, ?_, m22, n42, hN, Ag.rf, Ag.rf⟩
    · rw [f_X8_takeEffect_56, h15, if_pos (nI_le (Nat.le_refl _) (by omega)), h8, h3]
    · rw [f_X9_takeEffect_226, inR_nI hj (by decide), gd_w, nI_clamp (show j < 2 ^ 31 by omega), h172, if_pos (nI_le (Nat.le_refl _) (by omega))]
  | x + 1, i, n, F, F', M, N, hi, hF, hF', hn, h3, h8, h15, h172, C, hA, m22, n42, hN => by
    obtain ⟨F, rfl⟩ : ∃ f, F = f + 1 := ⟨F - 1, by omega⟩
    obtain ⟨F', rfl⟩ : ∃ f, F' = f + 1 := ⟨F' - 1, by omega⟩
    obtain ⟨k1, k2, k3, k4⟩ := hA i (by omega) (by omega)
    obtain ⟨v, v1, v2⟩ := tells1 (q := q) C (show i < 40 by omega) k1 k2 k3 k4
    obtain ⟨M1, a1, a2, a3, A⟩ := app_eq (t := t) (show n < 2000 by omega) m22 (gI M (q + 9) i) v
    obtain ⟨N1, b1, b2, b3, B⟩ := app9 (t := t) (F := F') hj (show i < a by omega) a40 h172 (show n < 2000 by omega) n42 v2
    rw [f_X8_takeEffect_56, h15, if_neg (nI_ge (by omega) (by omega)), inR_nI (show i < 40 by omega) (by decide), gd_w, v1, sb_w, h3, nI_clamp (show i < 2 ^ 31 by omega), a1, sb_w, lt_w, nI_1, b1]
    obtain ⟨M', N', c1, c2, c3, c4, c5, c6, c7⟩ := acts_lp (nT := nT) (r := r) (w := w) hq hj a40 x (i + 1) (n + 1) F F' M1 N1 (by omega) (by omega) (by omega) (by omega) (by rw [A.i (by omega)]; exact h3) (by rw [A.l (by omega)]; exact h8) (by rw [A.i (by omega)]; exact h15) (by rw [B.i (by omega)]; exact h172) (C.ag A B (fun q i z => by omega) (fun q i z => by omega)) (fun i i1 i2 => by
      rw [A.i (by omega), A.i (by omega), A.l (by omega), B.i (by omega), B.i (by omega), B.l (by omega)]; exact hA i i1 i2) a2 b2 (fun i' i1 i2 => by
      by_cases z : i' = n
      · subst z
        obtain ⟨u1, u2, u3⟩ := a3 i1
        obtain ⟨w1, w2, w3⟩ := b3 i1
        rw [u1, u2, u3, w1, w2, w3]
        exact ⟨rfl, k2, rfl⟩
      · rw [A.i (by omega), A.i (by omega), A.l (by omega), B.i (by omega), B.i (by omega), B.l (by omega)]
        exact hN i' i1 (by omega))
    refine ⟨M', N', c1, c2, ?_, ?_, fun i' i1 i2 => c5 i' i1 (by omega), (A.mo (fun p i z => by omega)).tr c6, (B.mo (fun p i z => by omega)).tr c7⟩
    · rw [c3]; congr 1; omega
    · rw [c4]; congr 1; omega

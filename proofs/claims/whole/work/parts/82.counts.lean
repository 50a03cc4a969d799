theorem Ag.tC {P : Nat → Nat → Prop} {M M' : Mem} {a b n : Nat} (h : Ag P M M') (k : ∀ i, i < n → ¬ P b i) : Ag P M (cpI M' a 0 b 0 n) := by
  intro q i z
  refine ⟨?_, (h q i z).2.1, (h q i z).2.2⟩
  rw [gI_cp, if_neg (fun w => k i w.2 (by rw [← w.1]; exact z))]
  exact (h q i z).1
theorem Ag.tCL {P : Nat → Nat → Prop} {M M' : Mem} {a b n : Nat} (h : Ag P M M') (k : ∀ i, i < n → ¬ P b i) : Ag P M (cpL M' a 0 b 0 n) := by
  intro q i z
  refine ⟨(h q i z).1, ?_, (h q i z).2.2⟩
  rw [gL_cp, if_neg (fun w => k i w.2 (by rw [← w.1]; exact z))]
  exact (h q i z).2.1
theorem stale_lp {j : Nat} (hj : j < 4) {V : Nat → Int32} {w ch : Int64} {N : Mem} (hrd : ∀ c, bt w c = (decide (c < 40) && gB N 168 (40 * j + c))) (hV : ∀ c, c < 40 → gB N 168 (40 * j + c) = true → gI N 169 (40 * j + c) = V c) (hch : ∀ c, c < 40 → (V c = gI N 124 c ↔ bt ch c = false)) :
    ∀ r k F, k + r = 40 → r < F → ∃ b, f_X9_isStale_2 N F (nI j) (nI k) = some b ∧ (b = true ↔ ∃ c, k ≤ c ∧ c < 40 ∧ bt w c = true ∧ bt ch c = true)
  | 0, k, F, hk, hF => by
    obtain ⟨F, rfl⟩ : ∃ f, F = f + 1 := ⟨F - 1, by omega⟩
    have : k = 40 := by omega
    subst this
    rw [f_X9_isStale_2, if_pos (by decide)]
    exact ⟨false, rfl, ⟨fun z => absurd z (by decide), fun ⟨c, h1, h2, _⟩ => absurd h1 (by omega)⟩⟩
  | r + 1, k, F, hk, hF => by
    obtain ⟨F, rfl⟩ : ∃ f, F = f + 1 := ⟨F - 1, by omega⟩
    have hk40 : k < 40 := by omega
    obtain ⟨b, ih1, ih2⟩ := stale_lp hj hrd hV hch r (k + 1) F (by omega) (by omega)
    have e44 : f_X9_isStale_44 N (f_X9_isStale_2 N F) (nI j) (nI k) = some b := by
      unfold f_X9_isStale_44
      rw [lt_w, nI_1, ih1]
    have skip : (bt w k = false ∨ bt ch k = false) → (b = true ↔ ∃ c, k ≤ c ∧ c < 40 ∧ bt w c = true ∧ bt ch c = true) := by
      intro hz
      rw [ih2]
      constructor
      · rintro ⟨c, h1, h2, h3⟩
        exact ⟨c, by omega, h2, h3⟩
      · rintro ⟨c, h1, h2, h3, h4⟩
        by_cases z : c = k
        · subst z
          rcases hz with hz | hz
          · rw [hz] at h3; cases h3
          · rw [hz] at h4; cases h4
        · exact ⟨c, by omega, h2, h3, h4⟩
    have hw := hrd k
    rw [decide_eq_true hk40, Bool.true_and] at hw
    rw [f_X9_isStale_2, if_neg (show ¬ (40 : Int32) ≤ nI k from nI_ge (b := 40) (by omega) (by decide)), mx (K := 40) 40 j k rfl, inR_nI (show 40 * j + k < 160 by omega) (by decide), gd_w, nI_clamp (show 40 * j + k < 2 ^ 31 by omega), gd_w, inR_nI hk40 (by decide), gd_w, nI_clamp (show k < 2 ^ 31 by omega), e44]
    cases hb : gB N 168 (40 * j + k) with
    | false =>
      rw [hb] at hw
      rw [if_pos bI_f]
      exact ⟨b, rfl, skip (Or.inl hw)⟩
    | true =>
      rw [hb] at hw
      rw [if_neg (show ¬ bI true = 0 by decide), hV k hk40 hb]
      by_cases z : V k = gI N 124 k
      · rw [if_pos z]
        exact ⟨b, rfl, skip (Or.inr ((hch k hk40).mp z))⟩
      · rw [if_neg z]
        refine ⟨true, rfl, ⟨fun _ => ⟨k, Nat.le_refl _, hk40, hw, ?_⟩, fun _ => rfl⟩⟩
        cases y : bt ch k with
        | true => rfl
        | false => exact absurd ((hch k hk40).mpr y) z
theorem stale_eq {j : Nat} (hj : j < 4) {V : Nat → Int32} {w ch : Int64} {N : Mem} (hrd : ∀ c, bt w c = (decide (c < 40) && gB N 168 (40 * j + c))) (hV : ∀ c, c < 40 → gB N 168 (40 * j + c) = true → gI N 169 (40 * j + c) = V c) (hch : ∀ c, c < 40 → (V c = gI N 124 c ↔ bt ch c = false)) :
    f_X9_isStale N (nI j) = some (decide (¬ w &&& ch = 0)) := by
  unfold f_X9_isStale
  obtain ⟨b, h1, h2⟩ := stale_lp hj hrd hV hch 40 0 FU (by omega) (by unfold FU; omega)
  rw [show (0 : Int32) = nI 0 from rfl, h1]
  congr 1
  by_cases z : w &&& ch = 0
  · rw [decide_eq_false (fun y => y z)]
    cases b with
    | false => rfl
    | true =>
      obtain ⟨c, -, -, h3, h4⟩ := h2.mp rfl
      have := bt_and w ch c
      rw [z, h3, h4, bt_0] at this
      cases this
  · rw [decide_eq_true z]
    obtain ⟨c, hc, hb⟩ := bt_ne z
    rw [bt_and] at hb
    obtain ⟨h3, h4⟩ := Bool.and_eq_true_iff.mp hb
    refine h2.mpr ⟨c, by omega, ?_, h3, h4⟩
    rw [hrd c] at h3
    exact of_decide_eq_true (Bool.and_eq_true_iff.mp h3).1
theorem k66 (q' q : Nat) (X : Mem) (s0 : Int32) : f_X6_keepTry_66 q' q X s0 = some (cpI (cpI (sI X q' 13 s0) (q + 6) 0 (q' + 1) 0 6) (q + 7) 0 (q' + 2) 0 6) := by
  unfold f_X6_keepTry_66
  rw [show okC 0 0 6 6 6 = true by decide]
  rfl
theorem kp_eq {q' q k : Nat} {M : Mem} (hk : gI M q 4 = nI k) (k11 : k ≤ 11) (hq : q + 12 ≤ q') : ∃ M', f_X6_keepTry q' q M = some M' ∧ gI M' q' 9 = 1 ∧ gI M' q' 10 = gI M q 5 ∧ gL M' q' 11 = gL M q 7 ∧ gI M' q' 12 = (if k = 0 then nI (cb (gL M q 8) 64) else 0) ∧ gI M' q' 13 = (if k = 0 then 0 else gI M q 10) ∧ (∀ i, i < 6 → gI M' (q' + 1) i = gI M (q + 6) i ∧ gI M' (q' + 2) i = gI M (q + 7) i) ∧
    Ag (fun p i => ¬ ((p = q' ∧ 9 ≤ i ∧ i ≤ 13) ∨ p = q' + 1 ∨ p = q' + 2)) M M' := by
  have gen : ∀ (u v : Int32), f_X6_keepTry q' q M = some (cpI (cpI (sI (sI (sL (sI (sI M q' 9 1) q' 10 (gI M q 5)) q' 11 (gL M q 7)) q' 12 u) q' 13 v) (q + 6) 0 (q' + 1) 0 6) (q + 7) 0 (q' + 2) 0 6) → u = (if k = 0 then nI (cb (gL M q 8) 64) else 0) → v = (if k = 0 then 0 else gI M q 10) →
      ∃ M', f_X6_keepTry q' q M = some M' ∧ gI M' q' 9 = 1 ∧ gI M' q' 10 = gI M q 5 ∧ gL M' q' 11 = gL M q 7 ∧ gI M' q' 12 = (if k = 0 then nI (cb (gL M q 8) 64) else 0) ∧ gI M' q' 13 = (if k = 0 then 0 else gI M q 10) ∧ (∀ i, i < 6 → gI M' (q' + 1) i = gI M (q + 6) i ∧ gI M' (q' + 2) i = gI M (q + 7) i) ∧
      Ag (fun p i => ¬ ((p = q' ∧ 9 ≤ i ∧ i ≤ 13) ∨ p = q' + 1 ∨ p = q' + 2)) M M' := by
    intro u v h hu hv
    rw [← hu, ← hv]
    refine ⟨_, h, ?_, ?_, ?_, ?_, ?_, fun i hi => ⟨?_, ?_⟩, ?_⟩
    · rw [gI_cp, if_neg (by omega), gI_cp, if_neg (by omega)]; simp (disch := omega) only [gI_s, gI_ne, gI_tL]
    · rw [gI_cp, if_neg (by omega), gI_cp, if_neg (by omega)]; simp (disch := omega) only [gI_s, gI_ne, gI_tL]
    · rw [gL_cpI, gL_cpI]; simp (disch := omega) only [gL_s, gL_ne, gL_tI]
    · rw [gI_cp, if_neg (by omega), gI_cp, if_neg (by omega)]; simp (disch := omega) only [gI_s, gI_ne, gI_tL]
    · rw [gI_cp, if_neg (by omega), gI_cp, if_neg (by omega)]; simp (disch := omega) only [gI_s, gI_ne, gI_tL]
    · rw [gI_cp, if_neg (by omega), gI_cp, if_pos (by omega)]; simp (disch := omega) only [gI_s, gI_ne, gI_tL]
    · rw [gI_cp, if_pos (by omega), gI_cp, if_neg (by omega)]; simp (disch := omega) only [gI_s, gI_ne, gI_tL]
    · exact ((((((Ag.rf.tI (by omega)).tI (by omega)).tL (by omega)).tI (by omega)).tI (by omega)).tC (fun i hi => by omega)).tC (fun i hi => by omega)
  have x5 : gI (sI M q' 9 1) q 5 = gI M q 5 := gI_ne (by omega)
  have x7 : gL (sI (sI M q' 9 1) q' 10 (gI M q 5)) q 7 = gL M q 7 := by rw [gL_tI, gL_tI]
  have x8 : gL (sL (sI (sI M q' 9 1) q' 10 (gI M q 5)) q' 11 (gL M q 7)) q 8 = gL M q 8 := by simp (disch := omega) only [gL_s, gL_ne, gL_tI]
  have x10 : ∀ u, gI (sI (sL (sI (sI M q' 9 1) q' 10 (gI M q 5)) q' 11 (gL M q 7)) q' 12 u) q 10 = gI M q 10 := fun u => by simp (disch := omega) only [gI_s, gI_ne, gI_tL]
  by_cases z : k = 0
  · refine gen (nI (cb (gL M q 8) 64)) 0 ?_ (by rw [if_pos z]) (by rw [if_pos z])
    unfold f_X6_keepTry f_X6_keepTry_12 f_X6_keepTry_50
    rw [hk, if_pos (by rw [z]; rfl), lt_w, lt_w, lt_w, x5, x7, if_neg (by decide), x8, popC, sb_w, lt_w, if_neg (by decide), k66]
  · refine gen 0 (gI M q 10) ?_ (by rw [if_neg z]) (by rw [if_neg z])
    unfold f_X6_keepTry f_X6_keepTry_12 f_X6_keepTry_50
    rw [hk, if_neg (nI_ne0 (by omega) (by omega)), lt_w, lt_w, lt_w, x5, x7, if_pos rfl, lt_w, if_pos rfl, x10, k66]
theorem cnt24_lp {t j : Nat} (ht : t < 20) (hj : j < 4) (w : Int64) : ∀ r k F (N : Mem), (∀ c, bt w c = (decide (c < 40) && gB N 163 (40 * j + c))) → k + r = 40 → r < F → ∃ N', f_X9_counts_24 F N (nI t) (nI j) (nI (cb w k)) (nI k) = (if gI N' 159 j = 0 then f_X9_counts_103 N' (nI t) (nI j) (nI (cb w 40)) (nI t) else f_X9_counts_103 N' (nI t) (nI j) 0 (nI t)) ∧ Ag (fun q i => ¬ (q = 151 ∧ 40 * t + k ≤ i ∧ i < 40 * t + 40)) N N' ∧ ∀ c, k ≤ c → c < 40 → gB N' 151 (40 * t + c) = gB N 168 (40 * j + c)
  | 0, k, F, N, hw, hk, hF => by
    obtain ⟨F, rfl⟩ : ∃ f, F = f + 1 := ⟨F - 1, by omega⟩
    have : k = 40 := by omega
    subst this
    refine ⟨N, ?_, Ag.rf, fun c h1 h2 => absurd h1 (by omega)⟩
    rw [f_X9_counts_24, if_pos (by decide), inR_nI hj (by decide), gd_w, nI_clamp (show j < 2 ^ 31 by omega)]
  | r + 1, k, F, N, hw, hk, hF => by
    obtain ⟨F, rfl⟩ : ∃ f, F = f + 1 := ⟨F - 1, by omega⟩
    have hk40 : k < 40 := by omega
    have hwk := hw k
    rw [decide_eq_true hk40, Bool.true_and] at hwk
    have B : Ag (fun q i => ¬ (q = 151 ∧ i = 40 * t + k)) N (sB N 151 (40 * t + k) (gB N 168 (40 * j + k))) := Ag.rf.tB (by omega)
    obtain ⟨N', h1, h2, h3⟩ := cnt24_lp ht hj w r (k + 1) F (sB N 151 (40 * t + k) (gB N 168 (40 * j + k))) (fun c => by rw [B.b (by omega)]; exact hw c) (by omega) (by omega)
    refine ⟨N', ?_, ?_, fun c c1 c2 => ?_⟩
    · rw [f_X9_counts_24, if_neg (show ¬ (40 : Int32) ≤ nI k from nI_ge (b := 40) (by omega) (by decide)), mx (K := 40) 40 j k rfl, mx (K := 40) 40 t k rfl, inR_nI (show 40 * j + k < 160 by omega) (by decide), inR_nI (show 40 * t + k < 800 by omega) (by decide), gd_w, gd_w, lt_w, gd_w, nI_clamp (show 40 * j + k < 2 ^ 31 by omega), nI_clamp (show 40 * t + k < 2 ^ 31 by omega), iB_b, B.b (q := 163) (by omega), ← hwk]
      unfold f_X9_counts_76
      rw [← h1]
      have e : cb w (k + 1) = cb w k + (bt w k).toNat := rfl
      rw [e]
      cases bt w k with
      | false => rw [if_pos bI_f, lt_w, lt_w, nI_1, Int32.add_zero]; rfl
      | true => rw [if_neg (show ¬ bI true = 0 by decide), lt_w, lt_w, nI_1, nI_1]; rfl
    · exact (B.mo (fun q i z => by omega)).tr (h2.mo (fun q i z => by omega))
    · by_cases z : c = k
      · subst z
        rw [h2.b (by omega), gB_s]
      · rw [h3 c (by omega) c2, B.b (by omega)]
theorem cnt132_lp {t j w : Nat} (ht : t < 20) (hj : j < 4) (w6 : w ≤ 6) : ∀ r k F (N : Mem), gI N 152 t = nI w → k + r = w → r < F → ∃ N', f_X9_counts_132 F N (nI t) (nI j) (nI k) = some N' ∧ Ag (fun q i => ¬ ((q = 153 ∨ q = 154) ∧ 6 * t + k ≤ i ∧ i < 6 * t + w)) N N' ∧ ∀ i, k ≤ i → i < w → gI N' 153 (6 * t + i) = gI N 177 (6 * j + i) ∧ gI N' 154 (6 * t + i) = gI N 178 (6 * j + i)
  | 0, k, F, N, hw, hk, hF => by
    obtain ⟨F, rfl⟩ : ∃ f, F = f + 1 := ⟨F - 1, by omega⟩
    refine ⟨N, ?_, Ag.rf, fun c h1 h2 => absurd h1 (by omega)⟩
    rw [f_X9_counts_132, inR_nI ht (by decide), gd_w, nI_clamp (show t < 2 ^ 31 by omega), hw, if_pos (nI_le (by omega) (by omega))]
  | r + 1, k, F, N, hw, hk, hF => by
    obtain ⟨F, rfl⟩ : ∃ f, F = f + 1 := ⟨F - 1, by omega⟩
    have x178 : gI (sI N 153 (6 * t + k) (gI N 177 (6 * j + k))) 178 (6 * j + k) = gI N 178 (6 * j + k) := gI_ne (by omega)
    have B : Ag (fun q i => ¬ ((q = 153 ∨ q = 154) ∧ i = 6 * t + k)) N (sI (sI N 153 (6 * t + k) (gI N 177 (6 * j + k))) 154 (6 * t + k) (gI N 178 (6 * j + k))) := (Ag.rf.tI (by omega)).tI (by omega)
    obtain ⟨N', h1, h2, h3⟩ := cnt132_lp ht hj w6 r (k + 1) F (sI (sI N 153 (6 * t + k) (gI N 177 (6 * j + k))) 154 (6 * t + k) (gI N 178 (6 * j + k))) (by rw [B.i (by omega)]; exact hw) (by omega) (by omega)
    refine ⟨N', ?_, ?_, fun c c1 c2 => ?_⟩
    · rw [f_X9_counts_132, inR_nI ht (by decide), gd_w, nI_clamp (show t < 2 ^ 31 by omega), hw, if_neg (nI_ge (by omega) (by omega)), mx (K := 6) 6 j k rfl, mx (K := 6) 6 t k rfl, inR_nI (show 6 * j + k < 24 by omega) (by decide), inR_nI (show 6 * t + k < 120 by omega) (by decide), gd_w, gd_w, lt_w, gd_w, gd_w, lt_w, lt_w, nI_clamp (show 6 * j + k < 2 ^ 31 by omega), nI_clamp (show 6 * t + k < 2 ^ 31 by omega), x178, nI_1, h1]
    · exact (B.mo (fun q i z => by omega)).tr (h2.mo (fun q i z => by omega))
    · by_cases z : c = k
      · subst z
        rw [h2.i (by omega), h2.i (by omega)]
        simp (disch := omega) only [gI_s, gI_ne]
        exact ⟨trivial, trivial⟩
      · rw [(h3 c (by omega) c2).1, (h3 c (by omega) c2).2, B.i (by omega), B.i (by omega)]
        exact ⟨rfl, rfl⟩
theorem ct_eq {q j t k m a D : Nat} {V : Nat → Int32} {M N : Mem} (S : SL q j t k m a D V M N) (ht : t < 20) (hj : j < 4) : ∃ N', f_X9_counts N (nI t) (nI j) = some N' ∧ gB N' 148 t = true ∧ gI N' 149 t = gI N 162 j ∧ gI N' 150 t = (if k = 0 then nI (cb (gL M q 8) 40) else 0) ∧ gI N' 152 t = (if k = 0 then 0 else nI D) ∧ (k ≠ 0 → ∀ i, i < D → gI N' 153 (6 * t + i) = gI N 177 (6 * j + i) ∧ gI N' 154 (6 * t + i) = gI N 178 (6 * j + i)) ∧ (∀ c, c < 40 → gB N' 151 (40 * t + c) = gB N 168 (40 * j + c)) ∧ Ag (fun q' i => ¬ qTy t q' i) N N' := by
  obtain ⟨h1, h2, h3, h4, h5, h6, h7, h8, h9, h10, h11, h12, h13, h14, h15, h16, h17, h18, h19, h20⟩ := S
  unfold f_X9_counts
  rw [inR_nI ht (by decide), gd_w, lt_w, inR_nI hj (by decide), gd_w, gd_w, lt_w, nI_clamp (show t < 2 ^ 31 by omega), nI_clamp (show j < 2 ^ 31 by omega), iB_1, show gI (sB N 148 t true) 162 j = gI N 162 j from gI_tB]
  have B0 : Ag (fun q' i => ¬ ((q' = 148 ∨ q' = 149) ∧ i = t)) N (sI (sB N 148 t true) 149 t (gI N 162 j)) := (Ag.rf.tB (by omega)).tI (by omega)
  obtain ⟨N1, e1, B1, w1⟩ := cnt24_lp ht hj (gL M q 8) 40 0 FU (sI (sB N 148 t true) 149 t (gI N 162 j)) (fun c => by rw [B0.b (by omega)]; exact h8 c) (by omega) (by unfold FU; omega)
  rw [show (0 : Int32) = nI 0 from rfl, show f_X9_counts_24 FU (sI (sB N 148 t true) 149 t (gI N 162 j)) (nI t) (nI j) (nI 0) (nI 0) = f_X9_counts_24 FU (sI (sB N 148 t true) 149 t (gI N 162 j)) (nI t) (nI j) (nI (cb (gL M q 8) 0)) (nI 0) from rfl, e1]
  have x159 : gI N1 159 j = gI N 159 j := by rw [B1.i (by omega), B0.i (by omega)]
  have x176 : gI N1 176 j = gI N 176 j := by rw [B1.i (by omega), B0.i (by omega)]
  have x148 : gB N1 148 t = true := by rw [B1.b (by omega), gB_tI, gB_s]
  have x149 : gI N1 149 t = gI N 162 j := by rw [B1.i (by omega), gI_s]
  have fin : ∀ (u v : Int32) (w : Nat), w ≤ 6 → v = nI w → u = (if k = 0 then nI (cb (gL M q 8) 40) else 0) → v = (if k = 0 then 0 else nI D) → (k ≠ 0 → w = D) → ∃ N', f_X9_counts_132 FU (sI (sI N1 150 t u) 152 t v) (nI t) (nI j) 0 = some N' ∧ gB N' 148 t = true ∧ gI N' 149 t = gI N 162 j ∧ gI N' 150 t = (if k = 0 then nI (cb (gL M q 8) 40) else 0) ∧ gI N' 152 t = (if k = 0 then 0 else nI D) ∧ (k ≠ 0 → ∀ i, i < D → gI N' 153 (6 * t + i) = gI N 177 (6 * j + i) ∧ gI N' 154 (6 * t + i) = gI N 178 (6 * j + i)) ∧ (∀ c, c < 40 → gB N' 151 (40 * t + c) = gB N 168 (40 * j + c)) ∧ Ag (fun q' i => ¬ qTy t q' i) N N' := by
    intro u v w w6 hv hu hv2 hwD
    obtain ⟨N2, e2, B2, w2⟩ := cnt132_lp ht hj w6 w 0 FU (sI (sI N1 150 t u) 152 t v) (by rw [gI_s]; exact hv) (by omega) (by unfold FU; omega)
    have Bx : Ag (fun q i => ¬ ((q = 150 ∨ q = 152) ∧ i = t)) N1 (sI (sI N1 150 t u) 152 t v) := (Ag.rf.tI (by omega)).tI (by omega)
    refine ⟨N2, e2, ?_, ?_, ?_, ?_, fun z i hi => ?_, fun c hc => ?_, ?_⟩
    · rw [B2.b (by omega), Bx.b (by omega)]; exact x148
    · rw [B2.i (by omega), Bx.i (by omega)]; exact x149
    · rw [B2.i (by omega), ← hu]; simp (disch := omega) only [gI_s, gI_ne]
    · rw [B2.i (by omega), ← hv2]; simp (disch := omega) only [gI_s, gI_ne]
    · have := hwD z
      obtain ⟨y1, y2⟩ := w2 i (by omega) (by omega)
      rw [y1, y2, Bx.i (by omega), Bx.i (by omega), B1.i (by omega), B1.i (by omega), B0.i (by omega), B0.i (by omega)]
      exact ⟨rfl, rfl⟩
    · rw [B2.b (by omega), Bx.b (by omega), w1 c (by omega) hc, B0.b (by omega)]
    · refine (((B0.mo (fun q' i z => ?_)).tr (B1.mo (fun q' i z => ?_))).tr (Bx.mo (fun q' i z => ?_))).tr (B2.mo (fun q' i z => ?_))
      · unfold qTy at z; omega
      · unfold qTy at z; omega
      · unfold qTy at z; omega
      · unfold qTy at z; omega
  unfold f_X9_counts_103 f_X9_counts_128
  simp only [inR_nI ht (by decide), inR_nI hj (by decide), gd_w, lt_w, nI_clamp (show t < 2 ^ 31 by omega), nI_clamp (show j < 2 ^ 31 by omega)]
  have y159 : ∀ u, gI (sI N1 150 t u) 159 j = gI N 159 j := fun u => by rw [gI_ne (by omega)]; exact x159
  have y176 : ∀ u, gI (sI N1 150 t u) 176 j = gI N 176 j := fun u => by rw [gI_ne (by omega)]; exact x176
  rw [x159, y159, y159]
  by_cases z : k = 0
  · have z9 : gI N 159 j = 0 := by rw [h4, if_pos z]
    rw [z9, show (0 : Int32) = nI 0 from rfl, if_pos rfl, if_pos rfl]
    exact fin _ _ 0 (by omega) rfl (by rw [if_pos z]) (by rw [if_pos z]; rfl) (fun y => absurd z y)
  · have z9 : ¬ gI N 159 j = 0 := by
      rw [h4, if_neg z]
      split <;> decide
    rw [if_neg z9, if_neg z9, y176]
    obtain ⟨k1, k2, k3, k4⟩ := h20 z
    exact fin _ _ D k1 k3 (by rw [if_neg z]) (by rw [if_neg z]; exact k3) (fun _ => rfl)
theorem keep_eq {q j t k m a D : Nat} {V : Nat → Int32} {M N : Mem} (S : SL q j t k m a D V M N) (ht : t < 20) (hj : j < 4) (hq : q + 12 ≤ 189) : ∃ M' N', f_X6_keepTry (189 + 4 * t) q M = some M' ∧ f_X9_counts N (nI t) (nI j) = some N' ∧ PTry M' N' t ∧ gB N' 148 t = true ∧ Ag (fun p i => ¬ ((p = 189 + 4 * t ∧ 9 ≤ i ∧ i ≤ 13) ∨ p = 189 + 4 * t + 1 ∨ p = 189 + 4 * t + 2)) M M' ∧ Ag (fun q' i => ¬ qTy t q' i) N N' := by
  obtain ⟨N', b0, b1, b2, b3, b4, b5, b6, B⟩ := ct_eq S ht hj
  obtain ⟨h1, h2, h3, h4, h5, h6, h7, h8, h9, h10, h11, h12, h13, h14, h15, h16, h17, h18, h19, h20⟩ := S
  obtain ⟨M', a0, a1, a2, a3, a4, a5, a6, A⟩ := kp_eq (q' := 189 + 4 * t) h2 h3 (by omega)
  have hi : cb (gL M q 8) 64 = cb (gL M q 8) 40 := cb_hi (fun c hc => by rw [h8 c]; simp; omega) 24
  refine ⟨M', N', a0, b0, ⟨?_, fun _ => ⟨?_, ?_, ?_, fun c => ?_⟩, fun z => ?_⟩, b1, A, B⟩
  · rw [a1, b1]; rfl
  · rw [a2, b2]; exact h7
  · rw [a4, b3, hi]
  · by_cases z : k = 0
    · refine ⟨0, by omega, ?_, ?_, fun i hi => absurd hi (by omega)⟩
      · rw [a5, if_pos z]; rfl
      · rw [b4, if_pos z]; rfl
    · obtain ⟨k1, k2, k3, k4⟩ := h20 z
      refine ⟨D, k1, ?_, ?_, fun i hi => ?_⟩
      · rw [a5, if_neg z]; exact k2
      · rw [b4, if_neg z]
      · rw [(a6 i (by omega)).1, (a6 i (by omega)).2, (b5 z i hi).1, (b5 z i hi).2]
        exact k4 i (by omega) hi
  · rw [a3]
    show bt (gL M q 7) c = _
    rw [h10 c]
    by_cases hc : c < 40
    · rw [b6 c hc]
    · simp [hc]
  · rw [b1] at z; cases z

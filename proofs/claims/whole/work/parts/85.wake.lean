theorem w350_end {j t w : Nat} {K : Mem → Int32 → Int32 → Int32 → Option Mem} {N : Mem} {F : Nat} (hw : w < 20) (h3 : ¬ gI N 138 w = 3) (v : Int32) : f_X9_takeEffect_350 K (F + 1) N (nI t) (nI j) (nI w) v = K N (nI t) (nI j) (nI (w + 1)) := by
  rw [f_X9_takeEffect_350, inR_nI hw (by decide), gd_w, nI_clamp (show w < 2 ^ 31 by omega), if_neg h3, ite_self]
  unfold f_X9_takeEffect_425
  rw [lt_w, nI_1]
theorem w350_lp {j t w : Nat} (hj : j < 4) (hw : w < 20) {K : Mem → Int32 → Int32 → Int32 → Option Mem} {N : Mem} {S : Int64} (hs : ∀ c, c < 40 → bt S c = (gB N 163 (40 * j + c) && gB N 151 (40 * w + c))) (h3 : gI N 138 w = 3) : ∀ r c F, c + r = 40 → r + 1 < F →
    ((∀ x, c ≤ x → x < 40 → bt S x = false) → f_X9_takeEffect_350 K F N (nI t) (nI j) (nI w) (nI c) = K N (nI t) (nI j) (nI (w + 1))) ∧
    (∀ c0, c ≤ c0 → c0 < 40 → bt S c0 = true → (∀ x, c ≤ x → x < c0 → bt S x = false) → f_X9_takeEffect_350 K F N (nI t) (nI j) (nI w) (nI c) = K (sI (sI (sI N 138 w 0) 144 w (nI c0)) 145 w (nI t)) (nI t) (nI j) (nI (w + 1)))
  | 0, c, F, hc, hF => by
    obtain ⟨F, rfl⟩ : ∃ f, F = f + 1 := ⟨F - 1, by omega⟩
    have : c = 40 := by omega
    subst this
    refine ⟨fun _ => ?_, fun c0 h1 h2 => absurd h1 (by omega)⟩
    rw [f_X9_takeEffect_350, if_pos (by decide)]
    unfold f_X9_takeEffect_425
    rw [lt_w, nI_1]
  | r + 1, c, F, hc, hF => by
    obtain ⟨F, rfl⟩ : ∃ f, F = f + 1 + 1 := ⟨F - 2, by omega⟩
    have hc40 : c < 40 := by omega
    obtain ⟨ih1, ih2⟩ := w350_lp (t := t) hj hw (K := K) hs h3 r (c + 1) (F + 1) (by omega) (by omega)
    have e419 : f_X9_takeEffect_419 K (f_X9_takeEffect_350 K (F + 1)) N (nI t) (nI j) (nI w) (nI c) = f_X9_takeEffect_350 K (F + 1) N (nI t) (nI j) (nI w) (nI (c + 1)) := by
      unfold f_X9_takeEffect_419
      rw [lt_w, nI_1]
    have hb := hs c hc40
    have head : f_X9_takeEffect_350 K (F + 1 + 1) N (nI t) (nI j) (nI w) (nI c) = if bt S c = true then K (sI (sI (sI N 138 w 0) 144 w (nI c)) 145 w (nI t)) (nI t) (nI j) (nI (w + 1)) else f_X9_takeEffect_350 K (F + 1) N (nI t) (nI j) (nI w) (nI (c + 1)) := by
      rw [f_X9_takeEffect_350, if_neg (show ¬ (40 : Int32) ≤ nI c from nI_ge (b := 40) (by omega) (by decide)), inR_nI hw (by decide), gd_w, nI_clamp (show w < 2 ^ 31 by omega), if_pos h3, mx (K := 40) 40 j c rfl, mx (K := 40) 40 w c rfl, inR_nI (show 40 * j + c < 160 by omega) (by decide), gd_w, nI_clamp (show 40 * j + c < 2 ^ 31 by omega), inR_nI (show 40 * w + c < 800 by omega) (by decide), gd_w, nI_clamp (show 40 * w + c < 2 ^ 31 by omega), e419, gd_w, lt_w, gd_w, lt_w, gd_w, lt_w, hb]
      cases h1 : gB N 163 (40 * j + c) with
      | false => rw [if_pos bI_f, Bool.false_and, if_neg (by decide)]
      | true =>
        rw [if_neg (show ¬ bI true = 0 by decide)]
        cases h2 : gB N 151 (40 * w + c) with
        | false => rw [if_pos bI_f, if_neg (by decide)]
        | true =>
          rw [if_neg (show ¬ bI true = 0 by decide), if_pos (by decide)]
          unfold f_X9_takeEffect_419
          rw [lt_w]
          exact w350_end hw (by simp (disch := omega) only [gI_s, gI_ne]; decide) _
    rw [head]
    refine ⟨fun hz => ?_, fun c0 h1 h2 h4 h5 => ?_⟩
    · rw [if_neg (by rw [hz c (Nat.le_refl _) hc40]; decide)]
      exact ih1 (fun x x1 x2 => hz x (by omega) x2)
    · by_cases z : c0 = c
      · subst z
        rw [if_pos h4]
      · rw [if_neg (by rw [h5 c (Nat.le_refl _) (by omega)]; decide)]
        exact ih2 c0 (by omega) h2 h4 (fun x x1 x2 => h5 x (by omega) x2)
theorem w339_lp {nT j t : Nat} (hn : nT ≤ 20) (hj : j < 4) {S : Nat → Int64} : ∀ r k F (N : Mem), k + r = nT → r < F → gI N 119 18 = nI nT → (∀ w, k ≤ w → w < nT → gI N 138 w = 3 → (∀ c, c < 40 → bt (S w) c = (gB N 163 (40 * j + c) && gB N 151 (40 * w + c))) ∧ ∀ c, 40 ≤ c → bt (S w) c = false) →
    ∃ N', f_X9_takeEffect_339 F N (nI t) (nI j) (nI k) = some N' ∧ (∀ q i, gL N' q i = gL N q i ∧ gB N' q i = gB N q i) ∧ Ag (fun p i => ¬ ((p = 138 ∨ p = 144 ∨ p = 145) ∧ k ≤ i ∧ i < nT)) N N' ∧ ∀ w, k ≤ w → w < nT → ((gI N 138 w = 3 ∧ ¬ S w = 0) → gI N' 138 w = 0 ∧ gI N' 144 w = lo (S w) ∧ gI N' 145 w = nI t) ∧ (¬ (gI N 138 w = 3 ∧ ¬ S w = 0) → gI N' 138 w = gI N 138 w ∧ gI N' 144 w = gI N 144 w ∧ gI N' 145 w = gI N 145 w)
  | 0, k, F, N, hk, hF, h18, hS => by
    obtain ⟨F, rfl⟩ : ∃ f, F = f + 1 := ⟨F - 1, by omega⟩
    have : k = nT := by omega
    subst this
    refine ⟨N, ?_, fun _ _ => ⟨rfl, rfl⟩, Ag.rf, fun w h1 h2 => absurd h1 (by omega)⟩
    rw [f_X9_takeEffect_339, h18, if_pos (nI_le (Nat.le_refl _) (by omega))]
  | r + 1, k, F, N, hk, hF, h18, hS => by
    obtain ⟨F, rfl⟩ : ∃ f, F = f + 1 := ⟨F - 1, by omega⟩
    rw [f_X9_takeEffect_339, h18, if_neg (nI_ge (by omega) (by omega))]
    have stay : ¬ (gI N 138 k = 3 ∧ ¬ S k = 0) → f_X9_takeEffect_350 (f_X9_takeEffect_339 F) FU N (nI t) (nI j) (nI k) 0 = f_X9_takeEffect_339 F N (nI t) (nI j) (nI (k + 1)) → ∃ N', f_X9_takeEffect_350 (f_X9_takeEffect_339 F) FU N (nI t) (nI j) (nI k) 0 = some N' ∧ (∀ q i, gL N' q i = gL N q i ∧ gB N' q i = gB N q i) ∧ Ag (fun p i => ¬ ((p = 138 ∨ p = 144 ∨ p = 145) ∧ k ≤ i ∧ i < nT)) N N' ∧ ∀ w, k ≤ w → w < nT → ((gI N 138 w = 3 ∧ ¬ S w = 0) → gI N' 138 w = 0 ∧ gI N' 144 w = lo (S w) ∧ gI N' 145 w = nI t) ∧ (¬ (gI N 138 w = 3 ∧ ¬ S w = 0) → gI N' 138 w = gI N 138 w ∧ gI N' 144 w = gI N 144 w ∧ gI N' 145 w = gI N 145 w) := by
      intro hb he
      obtain ⟨N', e1, e0, e2, e3⟩ := w339_lp hn hj r (k + 1) F N (by omega) (by omega) h18 (fun w w1 w2 => hS w (by omega) w2)
      refine ⟨N', he.trans e1, e0, e2.mo (fun p i z => by omega), fun w w1 w2 => ?_⟩
      by_cases z : w = k
      · subst z
        refine ⟨fun y => absurd y hb, fun _ => ⟨e2.i (by omega), e2.i (by omega), e2.i (by omega)⟩⟩
      · exact e3 w (by omega) w2
    by_cases h3 : gI N 138 k = 3
    · obtain ⟨s1, s2⟩ := hS k (Nat.le_refl _) (by omega) h3
      by_cases hz : S k = 0
      · refine stay (fun y => y.2 hz) ?_
        exact (w350_lp (t := t) hj (show k < 20 by omega) (K := f_X9_takeEffect_339 F) s1 h3 40 0 FU (by omega) (by unfold FU; omega)).1 (fun x _ _ => by rw [hz, bt_0])
      · obtain ⟨c, hc, hb⟩ := bt_ne hz
        obtain ⟨c0, hc0, hl⟩ := pk_least (fun c => bt (S k) c = true) ⟨c, hb⟩
        have c40 : c0 < 40 := by
          rcases Nat.lt_or_ge c0 40 with y | y
          · exact y
          · rw [s2 c0 y] at hc0; cases hc0
        have hl' : ∀ x, x < c0 → bt (S k) x = false := fun x hx => by
          cases hy : bt (S k) x with
          | false => rfl
          | true => exact absurd hy (hl x hx)
        have elo := lo_eq c40 hc0 hl'
        have he := (w350_lp (t := t) hj (show k < 20 by omega) (K := f_X9_takeEffect_339 F) s1 h3 40 0 FU (by omega) (by unfold FU; omega)).2 c0 (by omega) c40 hc0 (fun x _ x2 => hl' x x2)
        have B : Ag (fun p i => ¬ ((p = 138 ∨ p = 144 ∨ p = 145) ∧ i = k)) N (sI (sI (sI N 138 k 0) 144 k (nI c0)) 145 k (nI t)) := ((Ag.rf.tI (by omega)).tI (by omega)).tI (by omega)
        have v1 : gI (sI (sI (sI N 138 k 0) 144 k (nI c0)) 145 k (nI t)) 138 k = 0 := by simp (disch := omega) only [gI_s, gI_ne]
        have v2 : gI (sI (sI (sI N 138 k 0) 144 k (nI c0)) 145 k (nI t)) 144 k = nI c0 := by simp (disch := omega) only [gI_s, gI_ne]
        have v3 : gI (sI (sI (sI N 138 k 0) 144 k (nI c0)) 145 k (nI t)) 145 k = nI t := gI_s
        have v4 : ∀ q i, gL (sI (sI (sI N 138 k 0) 144 k (nI c0)) 145 k (nI t)) q i = gL N q i ∧ gB (sI (sI (sI N 138 k 0) 144 k (nI c0)) 145 k (nI t)) q i = gB N q i := fun q i => ⟨by rw [gL_tI, gL_tI, gL_tI], by rw [gB_tI, gB_tI, gB_tI]⟩
        generalize sI (sI (sI N 138 k 0) 144 k (nI c0)) 145 k (nI t) = X at *
        obtain ⟨N', e1, e0, e2, e3⟩ := w339_lp hn hj r (k + 1) F X (by omega) (by omega) (by rw [B.i (by omega)]; exact h18) (fun w w1 w2 w3 => by
          rw [B.i (by omega)] at w3
          obtain ⟨u1, u2⟩ := hS w (by omega) w2 w3
          refine ⟨fun c hc => ?_, u2⟩
          rw [B.b (by omega), B.b (by omega)]
          exact u1 c hc)
        refine ⟨N', ?_, fun q i => ⟨(e0 q i).1.trans (v4 q i).1, (e0 q i).2.trans (v4 q i).2⟩, (B.mo (fun p i z => by omega)).tr (e2.mo (fun p i z => by omega)), fun w w1 w2 => ?_⟩
        · exact he.trans e1
        · by_cases z : w = k
          · subst z
            refine ⟨fun _ => ⟨?_, ?_, ?_⟩, fun y => absurd ⟨h3, hz⟩ y⟩
            · rw [e2.i (by omega)]; exact v1
            · rw [e2.i (by omega), elo]; exact v2
            · rw [e2.i (by omega)]; exact v3
          · have := e3 w (by omega) w2
            rw [B.i (by omega), B.i (by omega), B.i (by omega)] at this
            exact this
    · refine stay (fun y => h3 y.1) ?_
      have := w350_end (j := j) (t := t) (w := k) (K := f_X9_takeEffect_339 F) (N := N) (F := FU - 1) (by omega) h3 0
      rw [show FU - 1 + 1 = FU by unfold FU; omega] at this
      exact this
theorem PT1.big {M N : Mem} {t : Nat} (h : PT1 M N t) : ∀ c, 40 ≤ c → bt (gL M (189 + 4 * t) 11) c = false := by
  intro c hc
  obtain ⟨-, -, -, -, -, -, -, -, -, ⟨-, r2, r3⟩, -⟩ := h
  cases hh : gB N 148 t with
  | false => rw [(r3 hh).1, bt_0]
  | true =>
    have := (r2 hh).2.2.2 c
    unfold bt
    rw [this]
    simp
    omega
theorem wake2 {nT e t j : Nat} {M N : Mem} {ch : Int64} (R : R2 nT e M N) (hj : j < 4) (hch : ∀ c, bt ch c = (decide (c < 40) && gB N 163 (40 * j + c))) : ∃ M' N', f_X8_wake nT M ch (nI t) = some M' ∧ f_X9_takeEffect_339 FU N (nI t) (nI j) 0 = some N' ∧ R2 nT e M' N' ∧ Ag (fun p _ => p < 189) M M' ∧ Ag (fun p _ => ¬ (p = 138 ∨ p = 144 ∨ p = 145)) N N' ∧ (∀ s, gI N 138 s = 0 → gI N' 138 s = 0) := by
  obtain ⟨h1, h2, h3, h4, h5, h6, ⟨k1, k2, k3, k4, k5⟩, h8⟩ := R
  obtain ⟨M', e1, e2, e3, e4⟩ := wake_eq k1 (ch := ch) (by_ := nI t) k2 (fun w hw c hc => (k4 w hw).big c hc)
  have bits : ∀ w, w < nT → gI N 138 w = 3 → ∀ c, bt (gL M (189 + 4 * w) 11 &&& ch) c = (decide (c < 40) && (gB N 163 (40 * j + c) && gB N 151 (40 * w + c))) := by
    intro w hw h3 c
    obtain ⟨-, -, -, -, -, -, -, -, -, ⟨r1, r2, r3⟩, hw3, -⟩ := k4 w hw
    have := (r2 (hw3 h3)).2.2.2 c
    rw [bt_and, hch c, show bt (gL M (189 + 4 * w) 11) c = _ from this]
    cases decide (c < 40) <;> cases gB N 163 (40 * j + c) <;> cases gB N 151 (40 * w + c) <;> rfl
  obtain ⟨N', d1, d0, d2, d3⟩ := w339_lp (t := t) (S := fun w => gL M (189 + 4 * w) 11 &&& ch) k1 hj nT 0 FU N (by omega) (by unfold FU; omega) k3 (fun w _ hw h3 => ⟨fun c hc => by rw [bits w hw h3 c, decide_eq_true hc, Bool.true_and], fun c hc => by rw [bits w hw h3 c, decide_eq_false (by omega), Bool.false_and]⟩)
  have AL : ∀ q i, gL M' q i = gL M q i ∧ gB M' q i = gB M q i := fun q i => ⟨gL_of e2 q i, gB_of e2 q i⟩
  have A : Ag (fun p _ => p < 189) M M' := fun q i z => ⟨e3 q i (fun w hw => by omega), (AL q i).1, (AL q i).2⟩
  have B : Ag (fun p _ => ¬ (p = 138 ∨ p = 144 ∨ p = 145)) N N' := d2.mo (fun p i z => by omega)
  refine ⟨M', N', e1, d1, ⟨h1.ag A B (fun q i z => by omega) (fun q i z => by omega), h2.ag A B (fun q i z => by omega) (fun q i z => by omega), h3.ag A B (fun q i z => by omega) (fun q i z => by omega), h4.ag A B (fun q i z => by omega) (fun q i z => by omega), h5.ag A B (fun q i z => by omega) (fun q i z => by omega), h6.ag A B (fun q i z => by omega) (fun q i z => by omega), ⟨k1, ?_, ?_, fun w hw => ?_, fun w w1 w2 => ?_⟩, ?_⟩, A, B, fun s hs => ?_⟩
  · rw [A.i (by omega)]; exact k2
  · rw [B.i (by omega)]; exact k3
  · obtain ⟨d31, d32⟩ := d3 w (by omega) hw
    have t1 := k4 w hw
    obtain ⟨⟨tr, g1, g2, g3⟩, ⟨s, g4, g5, g6⟩, g7, g8, g9, g10, g11, g12, g13, g14, g15, g16, g17⟩ := k4 w hw
    have ck : wkC M ch w = decide (gI N 138 w = 3 ∧ ¬ gL M (189 + 4 * w) 11 &&& ch = 0) := by
      unfold wkC
      rw [g5, g6]
      by_cases y1 : nI s = 3 <;> by_cases y2 : gL M (189 + 4 * w) 11 &&& ch = 0 <;> simp [y1, y2]
    by_cases b : gI N 138 w = 3 ∧ ¬ gL M (189 + 4 * w) 11 &&& ch = 0
    · obtain ⟨x1, x2, x3⟩ := d31 b
      rw [decide_eq_true b] at ck
      have row : ∀ i, gI M' (189 + 4 * w) i = if i = 1 then 0 else if i = 7 then lo (gL M (189 + 4 * w) 11 &&& ch) else if i = 8 then nI t else gI M (189 + 4 * w) i := fun i => by
        rw [e4 w hw i]
        unfold wkv
        rw [if_pos ck]
      have rowk : ∀ i, i ≠ 1 → i ≠ 7 → i ≠ 8 → gI M' (189 + 4 * w) i = gI M (189 + 4 * w) i := fun i i1 i7 i8 => by rw [row, if_neg i1, if_neg i7, if_neg i8]
      have AT : Ag (fun p i => (p = 189 + 4 * w ∧ 9 ≤ i ∧ i ≤ 13) ∨ p = 189 + 4 * w + 1 ∨ p = 189 + 4 * w + 2) M M' := by
        intro p i z
        refine ⟨?_, (AL p i).1, (AL p i).2⟩
        rcases z with ⟨rfl, z1, z2⟩ | z | z
        · exact rowk i (by omega) (by omega) (by omega)
        · exact e3 p i (fun w' hw' => by omega)
        · exact e3 p i (fun w' hw' => by omega)
      refine ⟨⟨tr, g1, ?_, ?_⟩, ⟨0, by decide, ?_, ?_⟩, ?_, ?_, ?_, ?_, ?_, ?_, ?_, ?_, fun z => ?_, fun z => ?_, fun z => ?_⟩
      · rw [rowk _ (by decide) (by decide) (by decide)]; exact g2
      · rw [B.i (by omega)]; exact g3
      · rw [row]; rfl
      · rw [x1]; rfl
      · rw [rowk _ (by decide) (by decide) (by decide), B.i (by omega)]; exact g7
      · rw [rowk _ (by decide) (by decide) (by decide), B.i (by omega)]; exact g8
      · rw [rowk _ (by decide) (by decide) (by decide), B.i (by omega)]; exact g9
      · rw [rowk _ (by decide) (by decide) (by decide), B.i (by omega)]; exact g10
      · rw [rowk _ (by decide) (by decide) (by decide), B.i (by omega)]; exact g11
      · rw [row, x2, if_neg (by decide), if_pos rfl]
      · rw [row, x3, if_neg (by decide), if_neg (by decide), if_pos rfl]
      · exact g14.ag AT B (fun q i z => z) (fun q i z => by unfold qTy at z; omega)
      · rw [x1] at z; exact absurd z (by decide)
      · rw [x1] at z; exact absurd z (by decide)
      · rw [B.i (by omega)]; exact g17 (by rw [b.1]; decide)
    · obtain ⟨x1, x2, x3⟩ := d32 b
      rw [decide_eq_false b] at ck
      have row : ∀ i, gI M' (189 + 4 * w) i = gI M (189 + 4 * w) i := fun i => by
        rw [e4 w hw i]
        unfold wkv
        rw [if_neg (by rw [ck]; decide)]
      have AT : Ag (fun p _ => 189 + 4 * w ≤ p ∧ p ≤ 189 + 4 * w + 3) M M' := by
        intro p i z
        refine ⟨?_, (AL p i).1, (AL p i).2⟩
        by_cases y : p = 189 + 4 * w
        · subst y; exact row i
        · exact e3 p i (fun w' hw' => by omega)
      have BT : Ag (qTk w) N N' := by
        intro p i z
        by_cases y : (p = 138 ∨ p = 144 ∨ p = 145)
        · have : i = w := by unfold qTk at z; omega
          subst this
          refine ⟨?_, (d0 p i).1, (d0 p i).2⟩
          rcases y with rfl | rfl | rfl
          · exact x1
          · exact x2
          · exact x3
        · exact B p i y
      exact t1.ag AT BT (fun q i z => z) (fun q i z => z)
  · rw [B.i (by omega), B.i (by omega), B.i (by omega), B.i (by omega), B.b (by omega)]
    exact k5 w w1 w2
  · obtain ⟨m1, m2, m3, m4, m5, m6, ww, a1, a2, a3, a4⟩ := h8
    refine ⟨?_, ?_, ?_, fun i hi => ?_, ?_, ?_, ww, a1, a2, ?_, ?_⟩
    · rw [A.i (by omega)]; exact m1
    · rw [B.i (by omega)]; exact m2
    · rw [m3]
      refine (cntD_iff nT fun w hw => ?_).symm
      obtain ⟨d31, d32⟩ := d3 w (by omega) hw
      by_cases b : gI N 138 w = 3 ∧ ¬ gL M (189 + 4 * w) 11 &&& ch = 0
      · rw [(d31 b).1, b.1]; decide
      · rw [(d32 b).1]
    · rw [A.i (by omega), B.i (by omega)]; exact m4 i hi
    · rw [A.i (by omega), B.i (by omega)]; exact m5
    · rw [A.i (by omega), B.i (by omega)]; exact m6
    · rw [A.i (by omega)]; exact a3
    · rw [B.i (by omega)]; exact a4
  · by_cases hw : s < nT
    · exact ((d3 s (by omega) hw).2 (fun y => by rw [hs] at y; exact absurd y.1 (by decide))).1.trans hs
    · rw [d2.i (by omega)]; exact hs

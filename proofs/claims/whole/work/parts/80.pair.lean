/-! TWO STORES: the class's M and the reference's N -/
def PCells (M N : Mem) : Prop := ∀ c, c < 40 → CC (gI M 3 c) (gL M 4 c) (gI M 5 c) (gI M 6 c) (gI N 120 c) (gL N 121 c) (gI N 122 c) (gI N 123 c)
def PVers (M N : Mem) : Prop := ∀ c, c < 40 → gI M 7 c = gI N 124 c ∧ gI M 8 c = gI N 125 c
def PHist (e : Nat) (M N : Mem) : Prop := ∀ c, c < 40 → ∃ n, n ≤ e ∧ gI N 126 c = nI n ∧ gI M 10 c = nI (min n 12) ∧ ∀ i, i < n → i < 12 → gI M 9 (12 * c + i) = gI N 127 (12 * c + i)
def PTrd (M N : Mem) : Prop := (∀ t, t < 16 → ∃ n k, n ≤ 24 ∧ gI M 12 t = nI n ∧ gI N 128 t = nI n ∧ k ≤ 10 ∧ gI M 13 t = nI k ∧ gI N 132 t = nI k ∧ ∀ i, i < n → okS (gI N 129 (24 * t + i)) (gI N 130 (24 * t + i)) (gI N 131 (24 * t + i))) ∧ ∀ i, i < 384 → gI M 14 i = gI N 129 i ∧ gI M 15 i = gI N 130 i ∧ gI M 16 i = gI N 131 i
def PRul (M N : Mem) : Prop := ∃ n, n ≤ 10 ∧ gI M 17 4 = nI n ∧ gI N 119 13 = nI n ∧ ∀ i, i < n → okR (gI N 133 i) (gI N 134 i) (gI N 135 i) ∧ gI M 18 i = gI N 133 i ∧ gI M 19 i = gI N 134 i ∧ gI M 20 i = gI N 135 i ∧ gL M 21 i = gL N 136 i
def PNot (e : Nat) (M N : Mem) : Prop := ∃ n, n ≤ 40 * e ∧ gI M 22 3 = nI n ∧ gI N 119 42 = nI n ∧ ∀ i, i < 40 → i < n → gI M 23 i = gI N 156 i ∧ gI M 24 i = gI N 157 i ∧ gL M 25 i = gL N 158 i
def PTry (M N : Mem) (t : Nat) : Prop := gI M (189 + 4 * t) 9 = bI (gB N 148 t) ∧
  (gB N 148 t = true → gI M (189 + 4 * t) 10 = gI N 149 t ∧ gI M (189 + 4 * t) 12 = gI N 150 t ∧ (∃ w, w ≤ 6 ∧ gI M (189 + 4 * t) 13 = nI w ∧ gI N 152 t = nI w ∧ ∀ i, i < w → gI M (189 + 4 * t + 1) i = gI N 153 (6 * t + i) ∧ gI M (189 + 4 * t + 2) i = gI N 154 (6 * t + i)) ∧ ∀ c, (gL M (189 + 4 * t) 11).toBitVec.getLsbD c = (decide (c < 40) && gB N 151 (40 * t + c))) ∧
  (gB N 148 t = false → gL M (189 + 4 * t) 11 = 0 ∧ gI M (189 + 4 * t) 13 = 0)
def PT1 (M N : Mem) (t : Nat) : Prop := (∃ k, k < 16 ∧ gI M (189 + 4 * t) 0 = nI k ∧ gI N 137 t = nI k) ∧ (∃ k, k < 6 ∧ gI M (189 + 4 * t) 1 = nI k ∧ gI N 138 t = nI k) ∧
  gI M (189 + 4 * t) 2 = gI N 139 t ∧ gI M (189 + 4 * t) 3 = gI N 140 t ∧ gI M (189 + 4 * t) 4 = gI N 141 t ∧ gI M (189 + 4 * t) 5 = gI N 142 t ∧ gI M (189 + 4 * t) 6 = gI N 143 t ∧ gI M (189 + 4 * t) 7 = gI N 144 t ∧ gI M (189 + 4 * t) 8 = gI N 145 t ∧
  PTry M N t ∧ (gI N 138 t = 3 → gB N 148 t = true) ∧
  (gI N 138 t = 1 → ∃ n, n ≤ 40 ∧ gI M (189 + 4 * t) 16 = nI (min n 8) ∧ gI N 147 t = nI n ∧ ∀ i, i < n → i < 8 → gL M (189 + 4 * t + 3) i = gL N 146 (8 * t + i)) ∧ (¬ gI N 138 t = 4 → gI N 143 t = -1)
def PTk (nT : Nat) (M N : Mem) : Prop := nT ≤ 20 ∧ gI M 0 8 = nI nT ∧ gI N 119 18 = nI nT ∧ (∀ t, t < nT → PT1 M N t) ∧ ∀ t, nT ≤ t → t < 20 → gI N 139 t = 0 ∧ gI N 140 t = 0 ∧ gI N 141 t = 0 ∧ gI N 142 t = 0 ∧ gB N 148 t = false
def PMis (nT e : Nat) (M N : Mem) : Prop := gI M 0 9 = nI e ∧ gI N 119 38 = nI e ∧ e = cntD N nT ∧ (∀ i, i < e → gI M 118 i = gI N 155 i) ∧ gI M 0 10 = gI N 119 40 ∧ gI M 0 11 = gI N 119 41 ∧ ∃ w, 1 ≤ w ∧ w ≤ 4 ∧ gI M 0 12 = nI w ∧ gI N 119 37 = nI w
def R2 (nT e : Nat) (M N : Mem) : Prop := PCells M N ∧ PVers M N ∧ PHist e M N ∧ PTrd M N ∧ PRul M N ∧ PNot e M N ∧ PTk nT M N ∧ PMis nT e M N
theorem R2.of {nT : Nat} {M : Mem} (h : Rel nT M) : ∃ e, R2 nT e M M := h
theorem R2.to {nT e : Nat} {M : Mem} (h : R2 nT e M M) : Rel nT M := ⟨e, h⟩
section
variable {P Q : Nat → Nat → Prop} {M M' N N' : Mem} {nT e t : Nat}
theorem PCells.ag (h : PCells M N) (A : Ag P M M') (B : Ag Q N N') (hA : ∀ q i, 3 ≤ q ∧ q ≤ 6 → P q i) (hB : ∀ q i, 120 ≤ q ∧ q ≤ 123 → Q q i) : PCells M' N' := by
  intro c hc
  rw [A.i (hA _ _ (by omega)), A.i (hA _ _ (by omega)), A.i (hA _ _ (by omega)), A.l (hA _ _ (by omega)), B.i (hB _ _ (by omega)), B.i (hB _ _ (by omega)), B.i (hB _ _ (by omega)), B.l (hB _ _ (by omega))]
  exact h c hc
theorem PVers.ag (h : PVers M N) (A : Ag P M M') (B : Ag Q N N') (hA : ∀ q i, 7 ≤ q ∧ q ≤ 8 → P q i) (hB : ∀ q i, 124 ≤ q ∧ q ≤ 125 → Q q i) : PVers M' N' := by
  intro c hc
  rw [A.i (hA _ _ (by omega)), A.i (hA _ _ (by omega)), B.i (hB _ _ (by omega)), B.i (hB _ _ (by omega))]
  exact h c hc
theorem PHist.ag (h : PHist e M N) (A : Ag P M M') (B : Ag Q N N') (hA : ∀ q i, 9 ≤ q ∧ q ≤ 10 → P q i) (hB : ∀ q i, 126 ≤ q ∧ q ≤ 127 → Q q i) : PHist e M' N' := by
  intro c hc
  obtain ⟨n, h1, h2, h3, h4⟩ := h c hc
  refine ⟨n, h1, ?_, ?_, fun i i1 i2 => ?_⟩
  · rw [B.i (hB _ _ (by omega))]; exact h2
  · rw [A.i (hA _ _ (by omega))]; exact h3
  · rw [A.i (hA _ _ (by omega)), B.i (hB _ _ (by omega))]; exact h4 i i1 i2
theorem PTrd.ag (h : PTrd M N) (A : Ag P M M') (B : Ag Q N N') (hA : ∀ q i, 12 ≤ q ∧ q ≤ 16 → P q i) (hB : ∀ q i, 128 ≤ q ∧ q ≤ 132 → Q q i) : PTrd M' N' := by
  refine ⟨fun t ht => ?_, fun i hi => ?_⟩
  · obtain ⟨n, k, h1, h2, h3, h4, h5, h6, h7⟩ := h.1 t ht
    refine ⟨n, k, h1, ?_, ?_, h4, ?_, ?_, fun i hi => ?_⟩
    · rw [A.i (hA _ _ (by omega))]; exact h2
    · rw [B.i (hB _ _ (by omega))]; exact h3
    · rw [A.i (hA _ _ (by omega))]; exact h5
    · rw [B.i (hB _ _ (by omega))]; exact h6
    · rw [B.i (hB _ _ (by omega)), B.i (hB _ _ (by omega)), B.i (hB _ _ (by omega))]; exact h7 i hi
  · rw [A.i (hA _ _ (by omega)), A.i (hA _ _ (by omega)), A.i (hA _ _ (by omega)), B.i (hB _ _ (by omega)), B.i (hB _ _ (by omega)), B.i (hB _ _ (by omega))]
    exact h.2 i hi
theorem PRul.ag (h : PRul M N) (A : Ag P M M') (B : Ag Q N N') (hA : ∀ q i, 17 ≤ q ∧ q ≤ 21 → P q i) (hB : ∀ q i, (133 ≤ q ∧ q ≤ 136) ∨ (q = 119 ∧ i = 13) → Q q i) : PRul M' N' := by
  obtain ⟨n, h1, h2, h3, h4⟩ := h
  refine ⟨n, h1, ?_, ?_, fun i hi => ?_⟩
  · rw [A.i (hA _ _ (by omega))]; exact h2
  · rw [B.i (hB _ _ (by omega))]; exact h3
  · rw [A.i (hA _ _ (by omega)), A.i (hA _ _ (by omega)), A.i (hA _ _ (by omega)), A.l (hA _ _ (by omega)), B.i (hB _ _ (by omega)), B.i (hB _ _ (by omega)), B.i (hB _ _ (by omega)), B.l (hB _ _ (by omega))]
    exact h4 i hi
theorem PNot.ag (h : PNot e M N) (A : Ag P M M') (B : Ag Q N N') (hA : ∀ q i, 22 ≤ q ∧ q ≤ 25 → P q i) (hB : ∀ q i, (156 ≤ q ∧ q ≤ 158) ∨ (q = 119 ∧ i = 42) → Q q i) : PNot e M' N' := by
  obtain ⟨n, h1, h2, h3, h4⟩ := h
  refine ⟨n, h1, ?_, ?_, fun i i1 i2 => ?_⟩
  · rw [A.i (hA _ _ (by omega))]; exact h2
  · rw [B.i (hB _ _ (by omega))]; exact h3
  · rw [A.i (hA _ _ (by omega)), A.i (hA _ _ (by omega)), A.l (hA _ _ (by omega)), B.i (hB _ _ (by omega)), B.i (hB _ _ (by omega)), B.l (hB _ _ (by omega))]
    exact h4 i i1 i2
/-- the places of ticket t's try that counted -/
def qTy (t q i : Nat) : Prop := ((q = 148 ∨ q = 149 ∨ q = 150 ∨ q = 152) ∧ i = t) ∨ (q = 151 ∧ 40 * t ≤ i ∧ i < 40 * t + 40) ∨ ((q = 153 ∨ q = 154) ∧ 6 * t ≤ i ∧ i < 6 * t + 6)
def qTk (t q i : Nat) : Prop := (137 ≤ q ∧ q ≤ 152 ∧ q ≠ 146 ∧ q ≠ 151 ∧ i = t) ∨ (q = 151 ∧ 40 * t ≤ i ∧ i < 40 * t + 40) ∨ ((q = 153 ∨ q = 154) ∧ 6 * t ≤ i ∧ i < 6 * t + 6) ∨ (q = 146 ∧ 8 * t ≤ i ∧ i < 8 * t + 8)
theorem PTry.ag (h : PTry M N t) (A : Ag P M M') (B : Ag Q N N') (hA : ∀ q i, (q = 189 + 4 * t ∧ 9 ≤ i ∧ i ≤ 13) ∨ q = 189 + 4 * t + 1 ∨ q = 189 + 4 * t + 2 → P q i) (hB : ∀ q i, qTy t q i → Q q i) : PTry M' N' t := by
  obtain ⟨h1, h2, h3⟩ := h
  have b148 : gB N' 148 t = gB N 148 t := B.b (hB _ _ (by unfold qTy; omega))
  refine ⟨?_, fun z => ?_, fun z => ?_⟩
  · rw [A.i (hA _ _ (by omega)), b148]; exact h1
  · rw [b148] at z
    obtain ⟨k1, k2, ⟨w, k3, k4, k5, k6⟩, k7⟩ := h2 z
    refine ⟨?_, ?_, ⟨w, k3, ?_, ?_, fun i hi => ?_⟩, fun c => ?_⟩
    · rw [A.i (hA _ _ (by omega)), B.i (hB _ _ (by unfold qTy; omega))]; exact k1
    · rw [A.i (hA _ _ (by omega)), B.i (hB _ _ (by unfold qTy; omega))]; exact k2
    · rw [A.i (hA _ _ (by omega))]; exact k4
    · rw [B.i (hB _ _ (by unfold qTy; omega))]; exact k5
    · rw [A.i (hA _ _ (by omega)), A.i (hA _ _ (by omega)), B.i (hB _ _ (by unfold qTy; omega)), B.i (hB _ _ (by unfold qTy; omega))]; exact k6 i hi
    · rw [A.l (hA _ _ (by omega)), k7 c]
      by_cases hc : c < 40
      · rw [B.b (hB _ _ (by unfold qTy; omega))]
      · simp [hc]
  · rw [b148] at z
    rw [A.i (hA _ _ (by omega)), A.l (hA _ _ (by omega))]
    exact h3 z
theorem PT1.ag (h : PT1 M N t) (A : Ag P M M') (B : Ag Q N N') (hA : ∀ q i, 189 + 4 * t ≤ q ∧ q ≤ 189 + 4 * t + 3 → P q i) (hB : ∀ q i, qTk t q i → Q q i) : PT1 M' N' t := by
  obtain ⟨⟨k, h1, h2, h3⟩, ⟨s, h4, h5, h6⟩, h7, h8, h9, h10, h11, h12, h13, h14, h15, h16, h17⟩ := h
  have a : ∀ i, gI M' (189 + 4 * t) i = gI M (189 + 4 * t) i := fun i => A.i (hA _ _ (by omega))
  refine ⟨⟨k, h1, ?_, ?_⟩, ⟨s, h4, ?_, ?_⟩, ?_, ?_, ?_, ?_, ?_, ?_, ?_, ?_, ?_, ?_, ?_⟩
  · rw [a]; exact h2
  · rw [B.i (hB _ _ (by unfold qTk; omega))]; exact h3
  · rw [a]; exact h5
  · rw [B.i (hB _ _ (by unfold qTk; omega))]; exact h6
  · rw [a, B.i (hB _ _ (by unfold qTk; omega))]; exact h7
  · rw [a, B.i (hB _ _ (by unfold qTk; omega))]; exact h8
  · rw [a, B.i (hB _ _ (by unfold qTk; omega))]; exact h9
  · rw [a, B.i (hB _ _ (by unfold qTk; omega))]; exact h10
  · rw [a, B.i (hB _ _ (by unfold qTk; omega))]; exact h11
  · rw [a, B.i (hB _ _ (by unfold qTk; omega))]; exact h12
  · rw [a, B.i (hB _ _ (by unfold qTk; omega))]; exact h13
  · exact h14.ag A B (fun q i z => hA q i (by omega)) (fun q i z => hB q i (by unfold qTy at z; unfold qTk; omega))
  · rw [B.i (hB _ _ (by unfold qTk; omega)), B.b (hB _ _ (by unfold qTk; omega))]; exact h15
  · rw [B.i (hB _ _ (by unfold qTk; omega))]
    intro z
    obtain ⟨n, k1, k2, k3, k4⟩ := h16 z
    refine ⟨n, k1, ?_, ?_, fun i i1 i2 => ?_⟩
    · rw [a]; exact k2
    · rw [B.i (hB _ _ (by unfold qTk; omega))]; exact k3
    · rw [A.l (hA _ _ (by omega)), B.l (hB _ _ (by unfold qTk; omega))]; exact k4 i i1 i2
  · rw [B.i (hB _ _ (by unfold qTk; omega)), B.i (hB _ _ (by unfold qTk; omega))]; exact h17
theorem PTk.ag (h : PTk nT M N) (A : Ag P M M') (B : Ag Q N N') (hA : ∀ q i, 189 ≤ q ∨ (q = 0 ∧ i = 8) → P q i) (hB : ∀ q i, (137 ≤ q ∧ q ≤ 154) ∨ (q = 119 ∧ i = 18) → Q q i) : PTk nT M' N' := by
  obtain ⟨h1, h2, h3, h4, h5⟩ := h
  refine ⟨h1, ?_, ?_, fun t ht => (h4 t ht).ag A B (fun q i z => hA q i (by omega)) (fun q i z => hB q i (by unfold qTk at z; omega)), fun t t1 t2 => ?_⟩
  · rw [A.i (hA _ _ (by omega))]; exact h2
  · rw [B.i (hB _ _ (by omega))]; exact h3
  · rw [B.i (hB _ _ (by omega)), B.i (hB _ _ (by omega)), B.i (hB _ _ (by omega)), B.i (hB _ _ (by omega)), B.b (hB _ _ (by omega))]
    exact h5 t t1 t2
theorem PMis.ag (h : PMis nT e M N) (A : Ag P M M') (B : Ag Q N N') (hA : ∀ q i, q = 118 ∨ (q = 0 ∧ 9 ≤ i ∧ i ≤ 12) → P q i) (hB : ∀ q i, q = 138 ∨ q = 155 ∨ (q = 119 ∧ (i = 37 ∨ i = 38 ∨ i = 40 ∨ i = 41)) → Q q i) : PMis nT e M' N' := by
  obtain ⟨h1, h2, h3, h4, h5, h6, w, h7, h8, h9, h10⟩ := h
  refine ⟨?_, ?_, ?_, fun i hi => ?_, ?_, ?_, w, h7, h8, ?_, ?_⟩
  · rw [A.i (hA _ _ (by omega))]; exact h1
  · rw [B.i (hB _ _ (by omega))]; exact h2
  · rw [cntD_lt nT (fun i _ => B.i (hB 138 i (by omega)))]; exact h3
  · rw [A.i (hA _ _ (by omega)), B.i (hB _ _ (by omega))]; exact h4 i hi
  · rw [A.i (hA _ _ (by omega)), B.i (hB _ _ (by omega))]; exact h5
  · rw [A.i (hA _ _ (by omega)), B.i (hB _ _ (by omega))]; exact h6
  · rw [A.i (hA _ _ (by omega))]; exact h9
  · rw [B.i (hB _ _ (by omega))]; exact h10
theorem R2.ag (h : R2 nT e M N) (A : Ag P M M') (B : Ag Q N N') (hA : ∀ q i, (1 ≤ q ∧ q ≤ 28) ∨ q = 118 ∨ 189 ≤ q ∨ (q = 0 ∧ i ≤ 12) → P q i) (hB : ∀ q i, (120 ≤ q ∧ q ≤ 158) ∨ (q = 119 ∧ i ≤ 42) → Q q i) : R2 nT e M' N' := by
  obtain ⟨h1, h2, h3, h4, h5, h6, h7, h8⟩ := h
  exact ⟨h1.ag A B (fun q i z => hA q i (by omega)) (fun q i z => hB q i (by omega)), h2.ag A B (fun q i z => hA q i (by omega)) (fun q i z => hB q i (by omega)), h3.ag A B (fun q i z => hA q i (by omega)) (fun q i z => hB q i (by omega)), h4.ag A B (fun q i z => hA q i (by omega)) (fun q i z => hB q i (by omega)), h5.ag A B (fun q i z => hA q i (by omega)) (fun q i z => hB q i (by omega)), h6.ag A B (fun q i z => hA q i (by omega)) (fun q i z => hB q i (by omega)), h7.ag A B (fun q i z => hA q i (by omega)) (fun q i z => hB q i (by omega)), h8.ag A B (fun q i z => hA q i (by omega)) (fun q i z => hB q i (by omega))⟩
end
theorem PTrd.rt {M N : Mem} (h : PTrd M N) : RTr M N := by
  refine ⟨fun t ht => ?_, h.2⟩
  obtain ⟨n, k, h1, h2, h3, h4, h5, h6, h7⟩ := h.1 t ht
  exact ⟨n, h1, h2, h3, h7⟩
theorem PTk.t1 {nT t : Nat} {M N : Mem} (h : PTk nT M N) (ht : t < nT) : PT1 M N t := h.2.2.2.1 t ht
/-- one ticket's places change, and no other's -/
theorem PTk.up {nT t : Nat} {M M' N N' : Mem} {P Q : Nat → Nat → Prop} (h : PTk nT M N) (ht : t < nT) (A : Ag P M M') (B : Ag Q N N') (hA : ∀ q i, (189 ≤ q ∧ ¬ (189 + 4 * t ≤ q ∧ q ≤ 189 + 4 * t + 3)) ∨ (q = 0 ∧ i = 8) → P q i) (hB : ∀ q i, (137 ≤ q ∧ q ≤ 154 ∧ ¬ qTk t q i) ∨ (q = 119 ∧ i = 18) → Q q i) (h1 : PT1 M' N' t) : PTk nT M' N' := by
  obtain ⟨k1, k2, k3, k4, k5⟩ := h
  refine ⟨k1, ?_, ?_, fun s hs => ?_, fun s s1 s2 => ?_⟩
  · rw [A.i (hA _ _ (by omega))]; exact k2
  · rw [B.i (hB _ _ (by omega))]; exact k3
  · by_cases z : s = t
    · subst z; exact h1
    · exact (k4 s hs).ag A B (fun q i w => hA q i (by omega)) (fun q i w => hB q i (by unfold qTk at w ⊢; omega))
  · rw [B.i (hB _ _ (by unfold qTk; omega)), B.i (hB _ _ (by unfold qTk; omega)), B.i (hB _ _ (by unfold qTk; omega)), B.i (hB _ _ (by unfold qTk; omega)), B.b (hB _ _ (by unfold qTk; omega))]
    exact k5 s s1 s2
theorem cntD_1 {N N' : Mem} {t : Nat} (h : ∀ i, i ≠ t → gI N' 138 i = gI N 138 i) (h0 : ¬ gI N 138 t = 1) : ∀ n, cntD N' n = cntD N n + if t < n ∧ gI N' 138 t = 1 then 1 else 0
  | 0 => by simp [cntD]
  | n + 1 => by
    have ih := cntD_1 h h0 n
    unfold cntD
    rw [ih]
    by_cases z : n = t
    · subst z
      rw [if_neg (show ¬ (n < n ∧ gI N' 138 n = 1) from fun w => absurd w.1 (by omega)), if_neg h0]
      by_cases y : gI N' 138 n = 1
      · rw [if_pos y, if_pos ⟨by omega, y⟩]
      · rw [if_neg y, if_neg (fun w => y w.2)]
    · rw [h n z]
      by_cases y : t < n ∧ gI N' 138 t = 1
      · rw [if_pos y, if_pos (show t < n + 1 ∧ gI N' 138 t = 1 from ⟨by omega, y.2⟩)]; omega
      · rw [if_neg y, if_neg (show ¬ (t < n + 1 ∧ gI N' 138 t = 1) from fun w => y ⟨by omega, w.2⟩)]; omega

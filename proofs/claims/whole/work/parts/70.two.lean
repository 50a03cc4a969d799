def Ag (P : Nat → Nat → Prop) (M M' : Mem) : Prop := ∀ q i, P q i → gI M' q i = gI M q i ∧ gL M' q i = gL M q i ∧ gB M' q i = gB M q i
theorem Ag.rf {P : Nat → Nat → Prop} {M : Mem} : Ag P M M := fun _ _ _ => ⟨rfl, rfl, rfl⟩
theorem Ag.tr {P : Nat → Nat → Prop} {M M' M'' : Mem} (h : Ag P M M') (h' : Ag P M' M'') : Ag P M M'' := fun q i k => ⟨(h' q i k).1.trans (h q i k).1, (h' q i k).2.1.trans (h q i k).2.1, (h' q i k).2.2.trans (h q i k).2.2⟩
theorem Ag.mo {P Q : Nat → Nat → Prop} {M M' : Mem} (h : Ag P M M') (k : ∀ q i, Q q i → P q i) : Ag Q M M' := fun q i z => h q i (k q i z)
theorem Ag.i {P : Nat → Nat → Prop} {M M' : Mem} (h : Ag P M M') {q i : Nat} (k : P q i) : gI M' q i = gI M q i := (h q i k).1
theorem Ag.l {P : Nat → Nat → Prop} {M M' : Mem} (h : Ag P M M') {q i : Nat} (k : P q i) : gL M' q i = gL M q i := (h q i k).2.1
theorem Ag.b {P : Nat → Nat → Prop} {M M' : Mem} (h : Ag P M M') {q i : Nat} (k : P q i) : gB M' q i = gB M q i := (h q i k).2.2
theorem gI_ne {M : Mem} {q q' i i' : Nat} {v : Int32} (h : q' ≠ q ∨ i' ≠ i) : gI (sI M q i v) q' i' = gI M q' i' := by
  rcases h with h | h
  · exact gI_q h
  · by_cases z : q' = q
    · subst z; exact gI_i h
    · exact gI_q z
theorem gL_ne {M : Mem} {q q' i i' : Nat} {v : Int64} (h : q' ≠ q ∨ i' ≠ i) : gL (sL M q i v) q' i' = gL M q' i' := by
  rcases h with h | h
  · exact gL_q h
  · by_cases z : q' = q
    · subst z; exact gL_i h
    · exact gL_q z
theorem gB_ne {M : Mem} {q q' i i' : Nat} {v : Bool} (h : q' ≠ q ∨ i' ≠ i) : gB (sB M q i v) q' i' = gB M q' i' := by
  rcases h with h | h
  · exact gB_q h
  · by_cases z : q' = q
    · subst z; exact gB_i h
    · exact gB_q z
theorem ne_of {P : Nat → Nat → Prop} {q i q' i' : Nat} (k : ¬ P q i) (z : P q' i') : q' ≠ q ∨ i' ≠ i := by
  by_cases e : q' = q
  · right
    intro e2
    subst e; subst e2
    exact k z
  · exact Or.inl e
theorem Ag.tI {P : Nat → Nat → Prop} {M M' : Mem} {q i : Nat} {v : Int32} (h : Ag P M M') (k : ¬ P q i) : Ag P M (sI M' q i v) := fun q' i' z => ⟨(gI_ne (ne_of k z)).trans (h q' i' z).1, (h q' i' z).2.1, (h q' i' z).2.2⟩
theorem Ag.tL {P : Nat → Nat → Prop} {M M' : Mem} {q i : Nat} {v : Int64} (h : Ag P M M') (k : ¬ P q i) : Ag P M (sL M' q i v) := fun q' i' z => ⟨(h q' i' z).1, (gL_ne (ne_of k z)).trans (h q' i' z).2.1, (h q' i' z).2.2⟩
theorem Ag.tB {P : Nat → Nat → Prop} {M M' : Mem} {q i : Nat} {v : Bool} (h : Ag P M M') (k : ¬ P q i) : Ag P M (sB M' q i v) := fun q' i' z => ⟨(h q' i' z).1, (h q' i' z).2.1, (gB_ne (ne_of k z)).trans (h q' i' z).2.2⟩
theorem gI_cp {M : Mem} {a b q i n : Nat} : gI (cpI M a 0 b 0 n) q i = if q = b ∧ i < n then gI M a i else gI M q i := by
  unfold gI cpI va_up va_cpy
  by_cases h : q = b
  · subst h
    by_cases h2 : i < n <;> simp [h2]
  · simp [h]
theorem gL_cp {M : Mem} {a b q i n : Nat} : gL (cpL M a 0 b 0 n) q i = if q = b ∧ i < n then gL M a i else gL M q i := by
  unfold gL cpL va_up va_cpy
  by_cases h : q = b
  · subst h
    by_cases h2 : i < n <;> simp [h2]
  · simp [h]
theorem gI_cpL {M : Mem} {a sp b dp n q i : Nat} : gI (cpL M a sp b dp n) q i = gI M q i := rfl
theorem gL_cpI {M : Mem} {a sp b dp n q i : Nat} : gL (cpI M a sp b dp n) q i = gL M q i := rfl
theorem gB_cpI {M : Mem} {a sp b dp n q i : Nat} : gB (cpI M a sp b dp n) q i = gB M q i := rfl
theorem gB_cpL {M : Mem} {a sp b dp n q i : Nat} : gB (cpL M a sp b dp n) q i = gB M q i := rfl
theorem gI_tL {M : Mem} {q i q' i' : Nat} {v : Int64} : gI (sL M q i v) q' i' = gI M q' i' := by rw [gI, gI, sL]
theorem gI_tB {M : Mem} {q i q' i' : Nat} {v : Bool} : gI (sB M q i v) q' i' = gI M q' i' := by rw [gI, gI, sB]
theorem gL_tI {M : Mem} {q i q' i' : Nat} {v : Int32} : gL (sI M q i v) q' i' = gL M q' i' := by rw [gL, gL, sI]
theorem gL_tB {M : Mem} {q i q' i' : Nat} {v : Bool} : gL (sB M q i v) q' i' = gL M q' i' := by rw [gL, gL, sB]
theorem gB_tI {M : Mem} {q i q' i' : Nat} {v : Int32} : gB (sI M q i v) q' i' = gB M q' i' := by rw [gB, gB, sI]
theorem gB_tL {M : Mem} {q i q' i' : Nat} {v : Int64} : gB (sL M q i v) q' i' = gB M q' i' := by rw [gB, gB, sL]
def tkA (qd qs : Nat) (M : Mem) : Mem := cpI (cpI (cpL (cpI M (qs + 1) 0 (qd + 1) 0 40) (qs + 2) 0 (qd + 2) 0 40) (qs + 3) 0 (qd + 3) 0 40) (qs + 4) 0 (qd + 4) 0 40
theorem all_eq (qd qs : Nat) (M : Mem) : f_X1_takeAll qd qs M = some (tkA qd qs M) := by
  unfold f_X1_takeAll tkA
  rw [show okC 0 0 40 40 40 = true by decide]
  rfl
theorem tkA_I {qd qs q i : Nat} {M : Mem} (h : qs + 5 ≤ qd ∨ qd + 5 ≤ qs) : gI (tkA qd qs M) q i = if i < 40 ∧ (q = qd + 1 ∨ q = qd + 3 ∨ q = qd + 4) then gI M (qs + (q - qd)) i else gI M q i := by
  unfold tkA
  simp only [gI_cp, gI_cpL]
  by_cases hi : i < 40
  · by_cases h1 : q = qd + 1
    · subst h1
      repeat (first | rw [if_pos (by omega)] | rw [if_neg (by omega)])
      congr 1
      omega
    · by_cases h3 : q = qd + 3
      · subst h3
        repeat (first | rw [if_pos (by omega)] | rw [if_neg (by omega)])
        congr 1
        omega
      · by_cases h4 : q = qd + 4
        · subst h4
          repeat (first | rw [if_pos (by omega)] | rw [if_neg (by omega)])
          congr 1
          omega
        · repeat (first | rw [if_pos (by omega)] | rw [if_neg (by omega)])
  · repeat (first | rw [if_pos (by omega)] | rw [if_neg (by omega)])
theorem tkA_L {qd qs q i : Nat} {M : Mem} : gL (tkA qd qs M) q i = if i < 40 ∧ q = qd + 2 then gL M (qs + 2) i else gL M q i := by
  unfold tkA
  simp only [gL_cp, gL_cpI]
  by_cases h : i < 40 ∧ q = qd + 2
  · rw [if_pos h, if_pos ⟨h.2, h.1⟩]
  · rw [if_neg h, if_neg (fun z => h ⟨z.2, z.1⟩)]
theorem tkA_B {qd qs q i : Nat} {M : Mem} : gB (tkA qd qs M) q i = gB M q i := rfl
def CC (h : Int32) (v : Int64) (k g : Int32) (h' : Int32) (v' : Int64) (k' g' : Int32) : Prop := h = h' ∧ v = v' ∧ (h = 0 ∨ h = 1 ∨ h = 2) ∧ (h = 0 → v = 0) ∧ (h = 2 → k = k' ∧ g = g') ∧ (h ≠ 2 → k = -1 ∧ g = -1)
def hN (N : Mem) (b o c : Nat) : Int32 := if gB N b (o + c) = true then gI N (b + 1) (o + c) else gI N 120 c
def vN (N : Mem) (b o c : Nat) : Int64 := if gB N b (o + c) = true then gL N (b + 2) (o + c) else gL N 121 c
def kN (N : Mem) (b o c : Nat) : Int32 := if gB N b (o + c) = true then gI N (b + 3) (o + c) else gI N 122 c
def gN (N : Mem) (b o c : Nat) : Int32 := if gB N b (o + c) = true then gI N (b + 4) (o + c) else gI N 123 c
abbrev CRel (M N : Mem) (qc : Nat) (w : Int64) (b o : Nat) : Prop := (∀ c, bt w c = (decide (c < 40) && gB N b (o + c))) ∧ (∀ c, c < 40 → CC (gI M (qc + 1) c) (gL M (qc + 2) c) (gI M (qc + 3) c) (gI M (qc + 4) c) (hN N b o c) (vN N b o c) (kN N b o c) (gN N b o c))
theorem CRel.w {M N : Mem} {qc : Nat} {w : Int64} {b o : Nat} (H : CRel M N qc w b o) : ∀ c, bt w c = (decide (c < 40) && gB N b (o + c)) := H.1
theorem CRel.c {M N : Mem} {qc : Nat} {w : Int64} {b o : Nat} (H : CRel M N qc w b o) : ∀ c, c < 40 → CC (gI M (qc + 1) c) (gL M (qc + 2) c) (gI M (qc + 3) c) (gI M (qc + 4) c) (hN N b o c) (vN N b o c) (kN N b o c) (gN N b o c) := H.2
def pcC (qc q i : Nat) : Prop := qc + 1 ≤ q ∧ q ≤ qc + 4 ∧ i < 40
def pcD (b o q i : Nat) : Prop := (120 ≤ q ∧ q ≤ 123 ∧ i < 40) ∨ (b ≤ q ∧ q ≤ b + 4 ∧ o ≤ i ∧ i < o + 40)
theorem xN_ag {P : Nat → Nat → Prop} {N N' : Mem} {b o : Nat} (h : Ag P N N') (k : ∀ q i, pcD b o q i → P q i) {c : Nat} (hc : c < 40) : hN N' b o c = hN N b o c ∧ vN N' b o c = vN N b o c ∧ kN N' b o c = kN N b o c ∧ gN N' b o c = gN N b o c := by
  unfold hN vN kN gN
  rw [h.b (k b (o + c) (Or.inr (by omega))), h.i (k (b + 1) (o + c) (Or.inr (by omega))), h.l (k (b + 2) (o + c) (Or.inr (by omega))), h.i (k (b + 3) (o + c) (Or.inr (by omega))), h.i (k (b + 4) (o + c) (Or.inr (by omega))),
    h.i (k 120 c (Or.inl (by omega))), h.l (k 121 c (Or.inl (by omega))), h.i (k 122 c (Or.inl (by omega))), h.i (k 123 c (Or.inl (by omega)))]
  exact ⟨rfl, rfl, rfl, rfl⟩
theorem CRel.ag {P Q : Nat → Nat → Prop} {M M' N N' : Mem} {qc b o : Nat} {w : Int64} (H : CRel M N qc w b o) (h : Ag P M M') (h' : Ag Q N N') (k : ∀ q i, pcC qc q i → P q i) (k' : ∀ q i, pcD b o q i → Q q i) : CRel M' N' qc w b o := by
  refine ⟨fun c => ?_, fun c hc => ?_⟩
  · rw [H.w c]
    by_cases hc : c < 40
    · rw [h'.b (k' b (o + c) (Or.inr (by omega)))]
    · simp [hc]
  · obtain ⟨e1, e2, e3, e4⟩ := xN_ag h' k' hc
    rw [e1, e2, e3, e4, h.i (k (qc + 1) c ⟨by omega, by omega, hc⟩), h.l (k (qc + 2) c ⟨by omega, by omega, hc⟩), h.i (k (qc + 3) c ⟨by omega, by omega, hc⟩), h.i (k (qc + 4) c ⟨by omega, by omega, hc⟩)]
    exact H.c c hc
theorem CRel.cp {M N N' : Mem} {qd qs b o b' o' : Nat} {w : Int64} (H : CRel M N qs w b o) (h : qs + 5 ≤ qd ∨ qd + 5 ≤ qs)
    (k : ∀ c, c < 40 → gB N' b' (o' + c) = gB N b (o + c) ∧ gI N' (b' + 1) (o' + c) = gI N (b + 1) (o + c) ∧ gL N' (b' + 2) (o' + c) = gL N (b + 2) (o + c) ∧ gI N' (b' + 3) (o' + c) = gI N (b + 3) (o + c) ∧ gI N' (b' + 4) (o' + c) = gI N (b + 4) (o + c))
    (s : ∀ c, c < 40 → gI N' 120 c = gI N 120 c ∧ gL N' 121 c = gL N 121 c ∧ gI N' 122 c = gI N 122 c ∧ gI N' 123 c = gI N 123 c) : CRel (tkA qd qs M) N' qd w b' o' := by
  refine ⟨fun c => ?_, fun c hc => ?_⟩
  · rw [H.w c]
    by_cases hc : c < 40
    · rw [(k c hc).1]
    · simp [hc]
  · obtain ⟨k1, k2, k3, k4, k5⟩ := k c hc
    obtain ⟨s1, s2, s3, s4⟩ := s c hc
    unfold hN vN kN gN
    rw [k1, k2, k3, k4, k5, s1, s2, s3, s4, tkA_I h, tkA_I h, tkA_I h, tkA_L, if_pos (by omega), if_pos (by omega), if_pos (by omega), if_pos (by omega),
      show qs + (qd + 1 - qd) = qs + 1 by omega, show qs + (qd + 3 - qd) = qs + 3 by omega, show qs + (qd + 4 - qd) = qs + 4 by omega]
    exact H.c c hc
def okA (k b : Int32) : Prop := k = 0 ∨ (k = 1 ∧ inR b 40 = true)
abbrev TA (q j n m a : Nat) (M N : Mem) : Prop := (gI N 119 46 = nI j) ∧ (gL M q 6 = gL N 119 47) ∧ (CRel M N (q + 1) (gL M q 8) 163 (40 * j)) ∧ (∀ c, bt (gL M q 7) c = (decide (c < 40) && gB N 168 (40 * j + c))) ∧ (∀ c, c < 40 → gB N 168 (40 * j + c) = true → gI N 169 (40 * j + c) = gI N 124 c) ∧ (gI M q 5 = nI n) ∧ (gI N 119 48 = nI n) ∧ (gI M q 13 = nI (min m 8)) ∧ (gI N 170 j = nI m) ∧ (∀ i, i < m → i < 8 → gL M (q + 8) i = gL N 171 (8 * j + i)) ∧ (gI M q 15 = nI a) ∧ (gI N 172 j = nI a) ∧ (∀ i, i < a → i < 40 → okA (gI N 173 (40 * j + i)) (gI N 174 (40 * j + i)) ∧ gI M (q + 9) i = gI N 173 (40 * j + i) ∧ gI M (q + 10) i = gI N 174 (40 * j + i) ∧ gL M (q + 11) i = gL N 175 (40 * j + i)) ∧ (gI M q 9 = gI N 119 79)
theorem TA.sl {q j n m a : Nat} {M N : Mem} (H : TA q j n m a M N) : gI N 119 46 = nI j := H.1
theorem TA.x {q j n m a : Nat} {M N : Mem} (H : TA q j n m a M N) : gL M q 6 = gL N 119 47 := H.2.1
theorem TA.ce {q j n m a : Nat} {M N : Mem} (H : TA q j n m a M N) : CRel M N (q + 1) (gL M q 8) 163 (40 * j) := H.2.2.1
theorem TA.rd {q j n m a : Nat} {M N : Mem} (H : TA q j n m a M N) : ∀ c, bt (gL M q 7) c = (decide (c < 40) && gB N 168 (40 * j + c)) := H.2.2.2.1
theorem TA.rv {q j n m a : Nat} {M N : Mem} (H : TA q j n m a M N) : ∀ c, c < 40 → gB N 168 (40 * j + c) = true → gI N 169 (40 * j + c) = gI N 124 c := H.2.2.2.2.1
theorem TA.st {q j n m a : Nat} {M N : Mem} (H : TA q j n m a M N) : gI M q 5 = nI n := H.2.2.2.2.2.1
theorem TA.st' {q j n m a : Nat} {M N : Mem} (H : TA q j n m a M N) : gI N 119 48 = nI n := H.2.2.2.2.2.2.1
theorem TA.sa {q j n m a : Nat} {M N : Mem} (H : TA q j n m a M N) : gI M q 13 = nI (min m 8) := H.2.2.2.2.2.2.2.1
theorem TA.sa' {q j n m a : Nat} {M N : Mem} (H : TA q j n m a M N) : gI N 170 j = nI m := H.2.2.2.2.2.2.2.2.1
theorem TA.sv {q j n m a : Nat} {M N : Mem} (H : TA q j n m a M N) : ∀ i, i < m → i < 8 → gL M (q + 8) i = gL N 171 (8 * j + i) := H.2.2.2.2.2.2.2.2.2.1
theorem TA.ac {q j n m a : Nat} {M N : Mem} (H : TA q j n m a M N) : gI M q 15 = nI a := H.2.2.2.2.2.2.2.2.2.2.1
theorem TA.ac' {q j n m a : Nat} {M N : Mem} (H : TA q j n m a M N) : gI N 172 j = nI a := H.2.2.2.2.2.2.2.2.2.2.2.1
theorem TA.ab {q j n m a : Nat} {M N : Mem} (H : TA q j n m a M N) : ∀ i, i < a → i < 40 → okA (gI N 173 (40 * j + i)) (gI N 174 (40 * j + i)) ∧ gI M (q + 9) i = gI N 173 (40 * j + i) ∧ gI M (q + 10) i = gI N 174 (40 * j + i) ∧ gL M (q + 11) i = gL N 175 (40 * j + i) := H.2.2.2.2.2.2.2.2.2.2.2.2.1
theorem TA.to {q j n m a : Nat} {M N : Mem} (H : TA q j n m a M N) : gI M q 9 = gI N 119 79 := H.2.2.2.2.2.2.2.2.2.2.2.2.2
def PM (q q' i : Nat) : Prop := (q' = q ∧ (i = 5 ∨ i = 6 ∨ i = 7 ∨ i = 8 ∨ i = 9 ∨ i = 13 ∨ i = 15)) ∨ (q + 2 ≤ q' ∧ q' ≤ q + 5 ∧ i < 40) ∨ (q + 8 ≤ q' ∧ q' ≤ q + 11)
def PN (j q' i : Nat) : Prop := (q' = 119 ∧ (i = 46 ∨ i = 47 ∨ i = 48 ∨ i = 79)) ∨ (120 ≤ q' ∧ q' ≤ 124 ∧ i < 40) ∨ (163 ≤ q' ∧ q' ≤ 169 ∧ 40 * j ≤ i ∧ i < 40 * j + 40) ∨ (q' = 170 ∧ i = j) ∨ (q' = 171 ∧ 8 * j ≤ i ∧ i < 8 * j + 8) ∨ (q' = 172 ∧ i = j) ∨ (173 ≤ q' ∧ q' ≤ 175 ∧ 40 * j ≤ i ∧ i < 40 * j + 40)
theorem TA.ag {q j n m a : Nat} {M M' N N' : Mem} (T : TA q j n m a M N) (h : Ag (PM q) M M') (h' : Ag (PN j) N N') : TA q j n m a M' N' := by
  refine ⟨?_, ?_, ?_, ?_, ?_, ?_, ?_, ?_, ?_, ?_, ?_, ?_, ?_, ?_⟩
  · rw [h'.i (by unfold PN; omega)]; exact T.sl
  · rw [h.l (by unfold PM; omega), h'.l (by unfold PN; omega)]; exact T.x
  · rw [h.l (by unfold PM; omega)]
    exact T.ce.ag h h' (fun q i k => by unfold pcC at k; unfold PM; omega) (fun q i k => by unfold pcD at k; unfold PN; omega)
  · intro c
    rw [h.l (by unfold PM; omega), T.rd c]
    by_cases hc : c < 40
    · rw [h'.b (by unfold PN; omega)]
    · simp [hc]
  · intro c hc
    rw [h'.b (by unfold PN; omega), h'.i (by unfold PN; omega), h'.i (by unfold PN; omega)]
    exact T.rv c hc
  · rw [h.i (by unfold PM; omega)]; exact T.st
  · rw [h'.i (by unfold PN; omega)]; exact T.st'
  · rw [h.i (by unfold PM; omega)]; exact T.sa
  · rw [h'.i (by unfold PN; omega)]; exact T.sa'
  · intro i h1 h2
    rw [h.l (by unfold PM; omega), h'.l (by unfold PN; omega)]; exact T.sv i h1 h2
  · rw [h.i (by unfold PM; omega)]; exact T.ac
  · rw [h'.i (by unfold PN; omega)]; exact T.ac'
  · intro i h1 h2
    rw [h.i (by unfold PM; omega), h.i (by unfold PM; omega), h.l (by unfold PM; omega), h'.i (by unfold PN; omega), h'.i (by unfold PN; omega), h'.l (by unfold PN; omega)]
    exact T.ab i h1 h2
  · rw [h.i (by unfold PM; omega), h'.i (by unfold PN; omega)]; exact T.to

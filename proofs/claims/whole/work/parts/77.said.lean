abbrev RTr (M N : Mem) : Prop := (∀ t, t < 16 → ∃ n, n ≤ 24 ∧ gI M 12 t = nI n ∧ gI N 128 t = nI n ∧ ∀ i, i < n → okS (gI N 129 (24 * t + i)) (gI N 130 (24 * t + i)) (gI N 131 (24 * t + i))) ∧ ∀ i, i < 384 → gI M 14 i = gI N 129 i ∧ gI M 15 i = gI N 130 i ∧ gI M 16 i = gI N 131 i
theorem RTr.ag {M M' N N' : Mem} {P Q : Nat → Nat → Prop} (R : RTr M N) (A : Ag P M M') (B : Ag Q N N') (hA : ∀ q' i, 12 ≤ q' ∧ q' ≤ 16 → P q' i) (hB : ∀ q' i, 128 ≤ q' ∧ q' ≤ 131 → Q q' i) : RTr M' N' := by
  refine ⟨fun t ht => ?_, fun i hi => ?_⟩
  · obtain ⟨n, h1, h2, h3, h4⟩ := R.1 t ht
    refine ⟨n, h1, ?_, ?_, fun i hi => ?_⟩
    · rw [A.i (hA _ _ (by omega))]; exact h2
    · rw [B.i (hB _ _ (by omega))]; exact h3
    · rw [B.i (hB _ _ (by omega)), B.i (hB _ _ (by omega)), B.i (hB _ _ (by omega))]; exact h4 i hi
  · rw [A.i (hA _ _ (by omega)), A.i (hA _ _ (by omega)), A.i (hA _ _ (by omega)), B.i (hB _ _ (by omega)), B.i (hB _ _ (by omega)), B.i (hB _ _ (by omega))]
    exact R.2 i hi
def KC (q d q' i : Nat) : Prop := ¬ ((q' = q ∧ i ≠ 3 ∧ i ≠ 4) ∨ (q + 2 ≤ q' ∧ q' ≤ q + 5) ∨ ((q' = q + 6 ∨ q' = q + 7) ∧ d ≤ i) ∨ (q + 8 ≤ q' ∧ q' ≤ q + 11) ∨ (29 + 6 * d ≤ q' ∧ q' < 65))
def KR (j d q' i : Nat) : Prop := ¬ ((q' = 119 ∧ (i = 47 ∨ i = 48 ∨ i = 78 ∨ i = 79)) ∨ (163 ≤ q' ∧ q' ≤ 169 ∧ 40 * j ≤ i ∧ i < 40 * j + 40) ∨ (q' = 170 ∧ i = j) ∨ (q' = 171 ∧ 8 * j ≤ i ∧ i < 8 * j + 8) ∨ (q' = 172 ∧ i = j) ∨ (173 ≤ q' ∧ q' ≤ 175 ∧ 40 * j ≤ i ∧ i < 40 * j + 40) ∨ (q' = 176 ∧ i = j) ∨ (q' = 178 ∧ 6 * j + d ≤ i ∧ i < 6 * j + 6) ∨ ((q' = 177 ∨ (179 ≤ q' ∧ q' ≤ 182)) ∧ 6 * j + d + 1 ≤ i ∧ i < 6 * j + 6) ∨ (183 ≤ q' ∧ q' ≤ 187 ∧ 40 * (d + 1) ≤ i ∧ i < 240))
theorem Ag.up {q d : Nat} {M M' : Mem} (h : Ag (KC q (d + 1)) M M') : Ag (KC q d) M M' := h.mo (fun q' i z => by unfold KC at z ⊢; omega)
theorem Ag.vp {j d : Nat} {N N' : Mem} (h : Ag (KR j (d + 1)) N N') : Ag (KR j d) N N' := by
  refine h.mo (fun q' i z w => z ?_)
  clear z h
  rcases w with w | w | w | w | w | w | w | w | w | w
  · exact Or.inl w
  · exact Or.inr (Or.inl w)
  · exact Or.inr (Or.inr (Or.inl w))
  · exact Or.inr (Or.inr (Or.inr (Or.inl w)))
  · exact Or.inr (Or.inr (Or.inr (Or.inr (Or.inl w))))
  · exact Or.inr (Or.inr (Or.inr (Or.inr (Or.inr (Or.inl w)))))
  · exact Or.inr (Or.inr (Or.inr (Or.inr (Or.inr (Or.inr (Or.inl w))))))
  · exact Or.inr (Or.inr (Or.inr (Or.inr (Or.inr (Or.inr (Or.inr (Or.inl ⟨w.1, by omega, w.2.2⟩)))))))
  · exact Or.inr (Or.inr (Or.inr (Or.inr (Or.inr (Or.inr (Or.inr (Or.inr (Or.inl ⟨w.1, by omega, w.2.2⟩))))))))
  · exact Or.inr (Or.inr (Or.inr (Or.inr (Or.inr (Or.inr (Or.inr (Or.inr (Or.inr (⟨w.1, w.2.1, by omega, w.2.2.2⟩)))))))))
abbrev HD (q j d n m a tr p : Nat) (M N : Mem) : Prop := TA q j n m a M N ∧ RTr M N ∧ gI N 176 j = nI (d + 1) ∧ gI N 177 (6 * j + d) = nI tr ∧ gI N 178 (6 * j + d) = nI p ∧ gI N 119 78 = 0 ∧ m ≤ n ∧ a ≤ n ∧ n ≤ 40 ∧ tr < 16 ∧ p ≤ 48
def CT (k F j : Nat) (N : Mem) : Option Mem := if k = 10 then f_X9_attempt_117 F N (nI j) 0 else Option.bind (f_X9_isTaken N) fun r => if bI r.1 = 0 then f_X9_attempt_117 F r.2 (nI j) 0 else f_X9_attempt_117 F r.2 (nI j) 1
def WAY (q j d D : Nat) (M N : Mem) : Prop := ∀ i, d ≤ i → i < D → gI M (q + 6) i = gI N 177 (6 * j + i) ∧ gI M (q + 7) i = gI N 178 (6 * j + i)
def OutF (q j d n0 m0 a0 : Nat) (M0 N0 : Mem) (R : Option Mem) (k : Nat) (M : Mem) : Prop := ∃ F N n m a D, R = CT k F j N ∧ TA q j n m a M N ∧ gI N 119 78 = cd k ∧ 1 ≤ k ∧ k ≤ 11 ∧ d + 1 ≤ D ∧ D ≤ 6 ∧ gI N 176 j = nI D ∧ (∀ f, d < f → f < D → NT (gI N 179 (6 * j + f)) k) ∧ gI M q 10 = nI D ∧ WAY q j d D M N ∧ m ≤ n ∧ a ≤ n ∧ n ≤ 40 ∧ n0 ≤ n ∧ m0 ≤ m ∧ a0 ≤ a ∧ 0 < F ∧ (k ≠ 10 → 3 * (40 - n) + D + 1 < F) ∧ Ag (KC q d) M0 M ∧ Ag (KR j d) N0 N
def Out (q j d n0 m0 a0 tr : Nat) (M0 N0 : Mem) (R : Option Mem) (e : Int32) (M : Mem) : Prop :=
  (e = 0 ∧ ∃ F N n m a p s, R = f_X9_attempt_117 F N (nI j) 1 ∧ HD q j d n m a tr p M N ∧ gI N 128 tr = nI s ∧ s ≤ p ∧ n0 ≤ n ∧ m0 ≤ m ∧ a0 ≤ a ∧ 3 * (40 - n) + (d + 1) + 1 < F ∧ Ag (KC q d) M0 M ∧ Ag (KR j d) N0 N) ∨ (∃ k, e = nI k ∧ OutF q j d n0 m0 a0 M0 N0 R k M)
def POut (q j d n0 m0 a0 tr p : Nat) (M0 N0 : Mem) (R : Option Mem) (e : Int32) (M : Mem) : Prop :=
  (e = 0 ∧ ∃ F N n m a, R = f_X9_attempt_117 F N (nI j) 1 ∧ HD q j d n m a tr (p + 1) M N ∧ n0 ≤ n ∧ m0 ≤ m ∧ a0 ≤ a ∧ 3 * (40 - n) + (d + 1) + 1 < F ∧ Ag (KC q d) M0 M ∧ Ag (KR j d) N0 N) ∨ (∃ k, e = nI k ∧ OutF q j d n0 m0 a0 M0 N0 R k M)
theorem OutF.pre {q j d n0 m0 a0 n1 m1 a1 k : Nat} {M0 N0 M1 N1 M : Mem} {R : Option Mem} (H : OutF q j d n1 m1 a1 M1 N1 R k M) (hn : n0 ≤ n1) (hm : m0 ≤ m1) (ha : a0 ≤ a1) (A : Ag (KC q d) M0 M1) (B : Ag (KR j d) N0 N1) : OutF q j d n0 m0 a0 M0 N0 R k M := by
  obtain ⟨F, N, n, m, a, D, h1, h2, h3, h4, h5, h6, h7, h8, h9, h10, h11, h12, h13, h14, h15, h16, h17, h18, h19, h20, h21⟩ := H
  exact ⟨F, N, n, m, a, D, h1, h2, h3, h4, h5, h6, h7, h8, h9, h10, h11, h12, h13, h14, by omega, by omega, by omega, h18, h19, A.tr h20, B.tr h21⟩
theorem Out.pre {q j d n0 m0 a0 n1 m1 a1 tr : Nat} {M0 N0 M1 N1 M : Mem} {R : Option Mem} {e : Int32} (H : Out q j d n1 m1 a1 tr M1 N1 R e M) (hn : n0 ≤ n1) (hm : m0 ≤ m1) (ha : a0 ≤ a1) (A : Ag (KC q d) M0 M1) (B : Ag (KR j d) N0 N1) : Out q j d n0 m0 a0 tr M0 N0 R e M := by
  rcases H with ⟨h0, F, N, n, m, a, p, s, h1, h2, h3, h4, h5, h6, h7, h8, h9, h10⟩ | ⟨k, h0, H⟩
  · exact Or.inl ⟨h0, F, N, n, m, a, p, s, h1, h2, h3, h4, by omega, by omega, by omega, h8, A.tr h9, B.tr h10⟩
  · exact Or.inr ⟨k, h0, H.pre hn hm ha A B⟩
theorem POut.pre {q j d n0 m0 a0 n1 m1 a1 tr p : Nat} {M0 N0 M1 N1 M : Mem} {R : Option Mem} {e : Int32} (H : POut q j d n1 m1 a1 tr p M1 N1 R e M) (hn : n0 ≤ n1) (hm : m0 ≤ m1) (ha : a0 ≤ a1) (A : Ag (KC q d) M0 M1) (B : Ag (KR j d) N0 N1) : POut q j d n0 m0 a0 tr p M0 N0 R e M := by
  rcases H with ⟨h0, F, N, n, m, a, h1, h2, h5, h6, h7, h8, h9, h10⟩ | ⟨k, h0, H⟩
  · exact Or.inl ⟨h0, F, N, n, m, a, h1, h2, by omega, by omega, by omega, h8, A.tr h9, B.tr h10⟩
  · exact Or.inr ⟨k, h0, H.pre hn hm ha A B⟩
theorem head_lt {j d n p s tr F : Nat} {N : Mem} (hj : j < 4) (hd : d < 6) (htr : tr < 16) (hp : gI N 176 j = nI (d + 1)) (h7 : gI N 177 (6 * j + d) = nI tr) (h8 : gI N 178 (6 * j + d) = nI p) (hs : gI N 128 tr = nI s) (h24 : s ≤ 24) (hlt : p < s) (hn : gI N 119 48 = nI n) (n40 : n ≤ 40) :
    f_X9_attempt_117 (F + 1) N (nI j) 1 = if n = 40 then f_X9_attempt_117 F (sI N 119 78 10) (nI j) 0 else Option.bind (f_X9_goStep N (nI (6 * j + d))) fun r_1 => if gI r_1 119 78 = 0 then f_X9_attempt_117 F r_1 (nI j) 1 else Option.bind (f_X9_isTaken r_1) fun r => if bI r.1 = 0 then f_X9_attempt_117 F r.2 (nI j) 0 else f_X9_attempt_117 F r.2 (nI j) 1 := by
  rw [f_X9_attempt_117, if_neg (show ¬ (1 : Int32) = 0 by decide), inR_nI hj (by decide), gd_w, lt_w, nI_clamp (show j < 2 ^ 31 by omega), hp, mx (K := 6) 6 j (d + 1) rfl, show nI (6 * j + (d + 1)) - 1 = nI (6 * j + d) from pk_sub (a := 6 * j + (d + 1)) (b := 1) (by omega), inR_nI (show 6 * j + d < 24 by omega) (by decide), gd_w, gd_w, nI_clamp (show 6 * j + d < 2 ^ 31 by omega), h7, h8, inR_nI htr (by decide), gd_w, nI_clamp (show tr < 2 ^ 31 by omega), hs, if_pos (nI_lt hlt (by omega)), hn]
  unfold f_X9_attempt_244 f_X9_attempt_238 f_X9_attempt_243 f_X9_attempt_244
  by_cases z : n = 40
  · subst z
    rw [if_pos (show nI 40 = 40 from rfl), if_pos rfl, lt_w]
  · rw [if_neg z, if_neg (show ¬ nI n = 40 from fun w => z ((nI_eq (a := n) (b := 40) (by omega) (by omega)).mp w))]
theorem head_ge {j d p s tr F : Nat} {N : Mem} (hj : j < 4) (hd : d < 6) (htr : tr < 16) (hp : gI N 176 j = nI (d + 1)) (h7 : gI N 177 (6 * j + d) = nI tr) (h8 : gI N 178 (6 * j + d) = nI p) (hs : gI N 128 tr = nI s) (hlt : s ≤ p) (h48 : p ≤ 48) :
    f_X9_attempt_117 (F + 1) N (nI j) 1 = if d = 0 then f_X9_attempt_117 F (sI N 176 j (nI d)) (nI j) 0 else f_X9_attempt_117 F (sI (sI N 176 j (nI d)) 178 (6 * j + d - 1) (gI N 178 (6 * j + d - 1) + 1)) (nI j) 1 := by
  rw [f_X9_attempt_117, if_neg (show ¬ (1 : Int32) = 0 by decide), inR_nI hj (by decide), gd_w, lt_w, nI_clamp (show j < 2 ^ 31 by omega), hp, mx (K := 6) 6 j (d + 1) rfl, show nI (6 * j + (d + 1)) - 1 = nI (6 * j + d) from pk_sub (a := 6 * j + (d + 1)) (b := 1) (by omega), inR_nI (show 6 * j + d < 24 by omega) (by decide), gd_w, gd_w, nI_clamp (show 6 * j + d < 2 ^ 31 by omega), h7, h8, inR_nI htr (by decide), gd_w, nI_clamp (show tr < 2 ^ 31 by omega), hs, if_neg (nI_nlt hlt (by omega)), gd_w, gd_w, lt_w, show nI (d + 1) - 1 = nI d from pk_sub (a := d + 1) (b := 1) (by omega), gI_s, gd_w]
  unfold f_X9_attempt_244
  by_cases z : d = 0
  · subst z
    rw [if_pos (show nI 0 = 0 from rfl), if_pos rfl]
  · rw [if_neg (nI_ne0 (by omega) (by omega)), if_neg z, show nI (6 * j + d) - 1 = nI (6 * j + d - 1) from pk_sub (a := 6 * j + d) (b := 1) (by omega), inR_nI (show 6 * j + d - 1 < 24 by omega) (by decide), gd_w, gd_w, lt_w, nI_clamp (show 6 * j + d - 1 < 2 ^ 31 by omega), show gI (sI N 176 j (nI d)) 178 (6 * j + d - 1) = gI N 178 (6 * j + d - 1) by simp (disch := omega) only [gI_s, gL_s, gB_s, gI_ne, gL_ne, gB_ne, gI_tL, gI_tB, gL_tI, gL_tB, gB_tI, gB_tL]]
theorem after {q j d n0 m0 a0 tr p t1 : Nat} {M0 N0 M : Mem} {R : Option Mem} {e : Int32} (hq : 65 ≤ q) (hj : j < 4) (hd : d < 5) (H : Out q j (d + 1) n0 m0 a0 t1 M0 N0 R e M) (htr : tr < 16) (hp : p < 24) (h7 : gI N0 177 (6 * j + d) = nI tr) (h8 : gI N0 178 (6 * j + d) = nI p) (w7 : gI M0 (q + 6) d = nI tr) (w8 : gI M0 (q + 7) d = nI p)
    (nt : ∀ k, e = nI k → 1 ≤ k → k ≤ 11 → NT (gI N0 179 (6 * j + (d + 1))) k) : POut q j d n0 m0 a0 tr p M0 N0 R e M := by
  rcases H with ⟨h0, F, N, n, m, a, p1, s, h1, ⟨T, RT, i1, i2, i3, i4, i5, i6, i7, i8, i9⟩, h3, h4, h5, h6, hh7, hh8, A, B⟩ | ⟨k, h0, F, N, n, m, a, D, f1, f2, f3, f4, f5, f6, f7, f8, f9, f10, f11, f12, f13, f14, f15, f16, f17, f18, f19, A, B⟩
  · left
    refine ⟨h0, F - 1, sI (sI N 176 j (nI (d + 1))) 178 (6 * j + d) (nI (p + 1)), n, m, a, ?_, ⟨?_, ?_, ?_, ?_, ?_, ?_, i5, i6, i7, htr, by omega⟩, h5, h6, hh7, by omega, A.up, ?_⟩
    · obtain ⟨F, rfl⟩ : ∃ f, F = f + 1 := ⟨F - 1, by omega⟩
      rw [h1, head_ge hj (by omega) i8 i1 i2 i3 h3 h4 i9, if_neg (by omega), show 6 * j + (d + 1) - 1 = 6 * j + d by omega, B.i (by unfold KR; omega), h8, nI_1]
      rfl
    · exact T.ag Ag.rf ((Ag.rf.tI (by unfold PN; omega)).tI (by unfold PN; omega))
    · exact RT.ag (P := fun _ _ => True) (Q := fun q' _ => q' < 150) Ag.rf ((Ag.rf.tI (by omega)).tI (by omega)) (fun _ _ _ => trivial) (fun q' i z => by omega)
    · simp (disch := omega) only [gI_s, gL_s, gB_s, gI_ne, gL_ne, gB_ne, gI_tL, gI_tB, gL_tI, gL_tB, gB_tI, gB_tL]
    · simp (disch := omega) only [gI_s, gL_s, gB_s, gI_ne, gL_ne, gB_ne, gI_tL, gI_tB, gL_tI, gL_tB, gB_tI, gB_tL]; rw [B.i (by unfold KR; omega)]; exact h7
    · simp (disch := omega) only [gI_s, gL_s, gB_s, gI_ne, gL_ne, gB_ne, gI_tL, gI_tB, gL_tI, gL_tB, gB_tI, gB_tL]
    · simp (disch := omega) only [gI_s, gL_s, gB_s, gI_ne, gL_ne, gB_ne, gI_tL, gI_tB, gL_tI, gL_tB, gB_tI, gB_tL]; exact i4
    · exact (B.vp.tI (by unfold KR; omega)).tI (by unfold KR; omega)
  · right
    refine ⟨k, h0, F, N, n, m, a, D, f1, f2, f3, f4, f5, by omega, f7, f8, ?_, f10, ?_, f12, f13, f14, f15, f16, f17, f18, f19, A.up, B.vp⟩
    · intro f g1 g2
      by_cases z : f = d + 1
      · subst z
        rw [B.i (by unfold KR; omega)]
        exact nt k h0 f4 f5
      · exact f9 f (by omega) g2
    · intro i g1 g2
      by_cases z : i = d
      · subst z
        rw [A.i (by unfold KC; omega), A.i (by unfold KC; omega), B.i (by unfold KR; omega), B.i (by unfold KR; omega)]
        exact ⟨w7.trans h7.symm, w8.trans h8.symm⟩
      · exact f11 i (by omega) g2

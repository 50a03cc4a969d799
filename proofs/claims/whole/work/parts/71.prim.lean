theorem iB_1 : iB 1 = true := rfl
theorem iB_0 : iB 0 = false := rfl
theorem iB_b (b : Bool) : iB (bI b) = b := by cases b <;> rfl
theorem bt_xor1 (x : Int64) {c : Nat} (hc : c < 64) : bt (x ^^^ (-1)) c = !bt x c := by
  unfold bt
  rw [Int64.toBitVec_xor, BitVec.getLsbD_xor, show (-1 : Int64).toBitVec = BitVec.allOnes 64 from rfl, BitVec.getLsbD_allOnes]
  simp [hc]
theorem sL_sL (M : Mem) (q i : Nat) (u v : Int64) : sL (sL M q i u) q i v = sL M q i v := by
  unfold sL up2
  congr 2
  funext a b
  by_cases h1 : a = q <;> by_cases h2 : b = i <;> simp [h1, h2]
def KS (q q' i : Nat) : Prop := ¬ ((q' = q ∧ i ≠ 3 ∧ i ≠ 4 ∧ i ≠ 5 ∧ i ≠ 10) ∨ (q + 2 ≤ q' ∧ q' ≤ q + 5) ∨ (q + 8 ≤ q' ∧ q' ≤ q + 11))
def KN (j q' i : Nat) : Prop := ¬ ((q' = 119 ∧ (i = 47 ∨ i = 78 ∨ i = 79)) ∨ (163 ≤ q' ∧ q' ≤ 169 ∧ 40 * j ≤ i ∧ i < 40 * j + 40) ∨ (q' = 170 ∧ i = j) ∨ (q' = 171 ∧ 8 * j ≤ i ∧ i < 8 * j + 8) ∨ (q' = 172 ∧ i = j) ∨ (173 ≤ q' ∧ q' ≤ 175 ∧ 40 * j ≤ i ∧ i < 40 * j + 40))
abbrev TF (q j n m a : Nat) (M0 N0 M N : Mem) : Prop := (TA q j n m a M N) ∧ (Ag (KS q) M0 M) ∧ (Ag (KN j) N0 N)
theorem TF.t {q j n m a : Nat} {M0 N0 M N : Mem} (H : TF q j n m a M0 N0 M N) : TA q j n m a M N := H.1
theorem TF.k {q j n m a : Nat} {M0 N0 M N : Mem} (H : TF q j n m a M0 N0 M N) : Ag (KS q) M0 M := H.2.1
theorem TF.k' {q j n m a : Nat} {M0 N0 M N : Mem} (H : TF q j n m a M0 N0 M N) : Ag (KN j) N0 N := H.2.2
theorem TF.pf {q j n m a : Nat} {M0 N0 M N : Mem} (T : TF q j n m a M0 N0 M N) (v : Int32) : TF q j n m a M0 N0 M (sI N 119 78 v) :=
  ⟨T.t.ag Ag.rf (Ag.rf.tI (by unfold PN; omega)), T.k, T.k'.tI (by unfold KN; omega)⟩
theorem TF.px {q j n m a : Nat} {M0 N0 M N : Mem} (T : TF q j n m a M0 N0 M N) {v v' : Int64} (h : v = v') : TF q j n m a M0 N0 (sL M q 6 v) (sL N 119 47 v') := by
  subst h
  have A : Ag (fun q' i => PM q q' i ∧ ¬ (q' = q ∧ i = 6)) M (sL M q 6 v) := Ag.rf.tL (by simp)
  have B : Ag (fun q' i => PN j q' i ∧ ¬ (q' = 119 ∧ i = 47)) N (sL N 119 47 v) := Ag.rf.tL (by simp)
  refine ⟨⟨T.t.sl, ?_, ?_, ?_, T.t.rv, T.t.st, T.t.st', T.t.sa, T.t.sa', ?_, T.t.ac, T.t.ac', ?_, T.t.to⟩, T.k.tL (by unfold KS; omega), T.k'.tL (by unfold KN; omega)⟩
  · simp (disch := omega) only [gI_s, gL_s, gB_s, gI_ne, gL_ne, gB_ne, gI_tL, gI_tB, gL_tI, gL_tB, gB_tI, gB_tL]
  · rw [show gL (sL M q 6 v) q 8 = gL M q 8 by simp (disch := omega) only [gI_s, gL_s, gB_s, gI_ne, gL_ne, gB_ne, gI_tL, gI_tB, gL_tI, gL_tB, gB_tI, gB_tL]]
    exact T.t.ce.ag A B (fun q i k => by unfold pcC at k; unfold PM; omega) (fun q i k => by unfold pcD at k; unfold PN; omega)
  · intro c
    rw [show gL (sL M q 6 v) q 7 = gL M q 7 by simp (disch := omega) only [gI_s, gL_s, gB_s, gI_ne, gL_ne, gB_ne, gI_tL, gI_tB, gL_tI, gL_tB, gB_tI, gB_tL]]
    exact T.t.rd c
  · intro i h1 h2
    rw [show gL (sL M q 6 v) (q + 8) i = gL M (q + 8) i by simp (disch := omega) only [gI_s, gL_s, gB_s, gI_ne, gL_ne, gB_ne, gI_tL, gI_tB, gL_tI, gL_tB, gB_tI, gB_tL], show gL (sL N 119 47 v) 171 (8 * j + i) = gL N 171 (8 * j + i) by simp (disch := omega) only [gI_s, gL_s, gB_s, gI_ne, gL_ne, gB_ne, gI_tL, gI_tB, gL_tI, gL_tB, gB_tI, gB_tL]]
    exact T.t.sv i h1 h2
  · intro i h1 h2
    rw [show gL (sL M q 6 v) (q + 11) i = gL M (q + 11) i by simp (disch := omega) only [gI_s, gL_s, gB_s, gI_ne, gL_ne, gB_ne, gI_tL, gI_tB, gL_tI, gL_tB, gB_tI, gB_tL], show gL (sL N 119 47 v) 175 (40 * j + i) = gL N 175 (40 * j + i) by simp (disch := omega) only [gI_s, gL_s, gB_s, gI_ne, gL_ne, gB_ne, gI_tL, gI_tB, gL_tI, gL_tB, gB_tI, gB_tL]]
    exact T.t.ab i h1 h2
def lkC (q : Nat) (M : Mem) (c : Nat) : Mem := sL M q 7 (gL M q 7 ||| (((1 : Int64) <<< (Int32.toInt64 (nI c) &&& 63)) &&& (gL M q 8 ^^^ (-1))))
def lkN (N : Mem) (j c : Nat) : Mem := if gB N 163 (40 * j + c) = true then N else sI (sB N 168 (40 * j + c) true) 169 (40 * j + c) (gI N 124 c)
theorem look9 {N : Mem} {j c : Nat} (hj : j < 4) (hc : c < 40) (h : gI N 119 46 = nI j) : f_X9_look N (nI c) = some (lkN N j c) := by
  unfold f_X9_look lkN
  rw [h, mx (K := 40) 40 j c rfl]
  simp only [lt_v, inR_nI (show 40 * j + c < 160 by omega) (by decide), gd_t, nI_clamp (show 40 * j + c < 2 ^ 31 by omega), inR_nI hc (by decide), nI_clamp (show c < 2 ^ 31 by omega), bI_0, iB_1]
  cases gB N 163 (40 * j + c) <;> rfl
theorem TF.pl {q j n m a c : Nat} {M0 N0 M N : Mem} (T : TF q j n m a M0 N0 M N) (hc : c < 40) : TF q j n m a M0 N0 (lkC q M c) (lkN N j c) := by
  have A : Ag (fun q' i => PM q q' i ∧ ¬ (q' = q ∧ i = 7)) M (lkC q M c) := Ag.rf.tL (by simp)
  have w := T.t.ce.w c
  have hb : ∀ i, bt (gL (lkC q M c) q 7) i = (bt (gL M q 7) i || (decide (i = c) && !(gB N 163 (40 * j + c)))) := by
    intro i
    unfold lkC
    rw [gL_s, bt_or, bt_and, bt_m (by omega)]
    by_cases z : i = c
    · subst z
      rw [bt_xor1 _ (by omega), w]
      simp [hc]
    · simp [z]
  unfold lkN
  by_cases hw : gB N 163 (40 * j + c) = true
  · rw [if_pos hw]
    rw [hw] at hb
    refine ⟨⟨T.t.sl, ?_, ?_, ?_, T.t.rv, T.t.st, T.t.st', T.t.sa, T.t.sa', ?_, T.t.ac, T.t.ac', ?_, T.t.to⟩, T.k.tL (by unfold KS; omega), T.k'⟩
    · unfold lkC; simp (disch := omega) only [gI_s, gL_s, gB_s, gI_ne, gL_ne, gB_ne, gI_tL, gI_tB, gL_tI, gL_tB, gB_tI, gB_tL]; exact T.t.x
    · rw [show gL (lkC q M c) q 8 = gL M q 8 by unfold lkC; simp (disch := omega) only [gI_s, gL_s, gB_s, gI_ne, gL_ne, gB_ne, gI_tL, gI_tB, gL_tI, gL_tB, gB_tI, gB_tL]]
      exact T.t.ce.ag A (Ag.rf (P := fun _ _ => True)) (fun q i k => by unfold pcC at k; unfold PM; omega) (fun q i k => trivial)
    · intro i
      rw [hb i]
      simp
      exact T.t.rd i
    · intro i h1 h2
      rw [show gL (lkC q M c) (q + 8) i = gL M (q + 8) i by unfold lkC; simp (disch := omega) only [gI_s, gL_s, gB_s, gI_ne, gL_ne, gB_ne, gI_tL, gI_tB, gL_tI, gL_tB, gB_tI, gB_tL]]
      exact T.t.sv i h1 h2
    · intro i h1 h2
      rw [show gL (lkC q M c) (q + 11) i = gL M (q + 11) i by unfold lkC; simp (disch := omega) only [gI_s, gL_s, gB_s, gI_ne, gL_ne, gB_ne, gI_tL, gI_tB, gL_tI, gL_tB, gB_tI, gB_tL]]
      exact T.t.ab i h1 h2
  · rw [if_neg hw]
    have hw : gB N 163 (40 * j + c) = false := by cases h : gB N 163 (40 * j + c); rfl; exact absurd h hw
    rw [hw] at hb
    have B : Ag (fun q' i => q' < 168) N (sI (sB N 168 (40 * j + c) true) 169 (40 * j + c) (gI N 124 c)) := (Ag.rf.tB (by omega)).tI (by omega)
    refine ⟨⟨?_, ?_, ?_, ?_, ?_, T.t.st, ?_, T.t.sa, ?_, ?_, T.t.ac, ?_, ?_, ?_⟩, T.k.tL (by unfold KS; omega), (T.k'.tB (by unfold KN; omega)).tI (by unfold KN; omega)⟩
    · simp (disch := omega) only [gI_s, gL_s, gB_s, gI_ne, gL_ne, gB_ne, gI_tL, gI_tB, gL_tI, gL_tB, gB_tI, gB_tL]; exact T.t.sl
    · unfold lkC; simp (disch := omega) only [gI_s, gL_s, gB_s, gI_ne, gL_ne, gB_ne, gI_tL, gI_tB, gL_tI, gL_tB, gB_tI, gB_tL]; exact T.t.x
    · rw [show gL (lkC q M c) q 8 = gL M q 8 by unfold lkC; simp (disch := omega) only [gI_s, gL_s, gB_s, gI_ne, gL_ne, gB_ne, gI_tL, gI_tB, gL_tI, gL_tB, gB_tI, gB_tL]]
      exact T.t.ce.ag A B (fun q i k => by unfold pcC at k; unfold PM; omega) (fun q i k => by unfold pcD at k; omega)
    · intro i
      rw [hb i, T.t.rd i]
      by_cases z : i = c
      · subst z
        rw [show gB (sI (sB N 168 (40 * j + i) true) 169 (40 * j + i) (gI N 124 i)) 168 (40 * j + i) = true by simp (disch := omega) only [gI_s, gL_s, gB_s, gI_ne, gL_ne, gB_ne, gI_tL, gI_tB, gL_tI, gL_tB, gB_tI, gB_tL]]
        simp [hc]
      · rw [show gB (sI (sB N 168 (40 * j + c) true) 169 (40 * j + c) (gI N 124 c)) 168 (40 * j + i) = gB N 168 (40 * j + i) by simp (disch := omega) only [gI_s, gL_s, gB_s, gI_ne, gL_ne, gB_ne, gI_tL, gI_tB, gL_tI, gL_tB, gB_tI, gB_tL]]
        simp [z]
    · intro i hi h
      by_cases z : i = c
      · subst z
        simp (disch := omega) only [gI_s, gL_s, gB_s, gI_ne, gL_ne, gB_ne, gI_tL, gI_tB, gL_tI, gL_tB, gB_tI, gB_tL]
      · rw [show gB (sI (sB N 168 (40 * j + c) true) 169 (40 * j + c) (gI N 124 c)) 168 (40 * j + i) = gB N 168 (40 * j + i) by simp (disch := omega) only [gI_s, gL_s, gB_s, gI_ne, gL_ne, gB_ne, gI_tL, gI_tB, gL_tI, gL_tB, gB_tI, gB_tL]] at h
        simp (disch := omega) only [gI_s, gL_s, gB_s, gI_ne, gL_ne, gB_ne, gI_tL, gI_tB, gL_tI, gL_tB, gB_tI, gB_tL]
        exact T.t.rv i hi h
    · simp (disch := omega) only [gI_s, gL_s, gB_s, gI_ne, gL_ne, gB_ne, gI_tL, gI_tB, gL_tI, gL_tB, gB_tI, gB_tL]; exact T.t.st'
    · simp (disch := omega) only [gI_s, gL_s, gB_s, gI_ne, gL_ne, gB_ne, gI_tL, gI_tB, gL_tI, gL_tB, gB_tI, gB_tL]; exact T.t.sa'
    · intro i h1 h2
      rw [show gL (lkC q M c) (q + 8) i = gL M (q + 8) i by unfold lkC; simp (disch := omega) only [gI_s, gL_s, gB_s, gI_ne, gL_ne, gB_ne, gI_tL, gI_tB, gL_tI, gL_tB, gB_tI, gB_tL]]
      exact T.t.sv i h1 h2
    · simp (disch := omega) only [gI_s, gL_s, gB_s, gI_ne, gL_ne, gB_ne, gI_tL, gI_tB, gL_tI, gL_tB, gB_tI, gB_tL]; exact T.t.ac'
    · intro i h1 h2
      rw [show gL (lkC q M c) (q + 11) i = gL M (q + 11) i by unfold lkC; simp (disch := omega) only [gI_s, gL_s, gB_s, gI_ne, gL_ne, gB_ne, gI_tL, gI_tB, gL_tI, gL_tB, gB_tI, gB_tL]]
      simp (disch := omega) only [gI_s, gL_s, gB_s, gI_ne, gL_ne, gB_ne, gI_tL, gI_tB, gL_tI, gL_tB, gB_tI, gB_tL]
      exact T.t.ab i h1 h2
    · simp (disch := omega) only [gI_s, gL_s, gB_s, gI_ne, gL_ne, gB_ne, gI_tL, gI_tB, gL_tI, gL_tB, gB_tI, gB_tL]; exact T.t.to
def wrN (N : Mem) (i : Nat) (h : Int32) (v : Int64) (k g : Int32) : Mem := sI (sI (sL (sI (sB N 163 i true) 164 i h) 165 i v) 166 i k) 167 i g
theorem write9 {N : Mem} {j c : Nat} (hj : j < 4) (hc : c < 40) (hs : gI N 119 46 = nI j) (h : Int32) (v : Int64) (k g : Int32) : f_X9_write N (nI c) h v k g = some (wrN N (40 * j + c) h v k g) := by
  unfold f_X9_write wrN
  rw [hs, mx (K := 40) 40 j c rfl]
  simp only [lt_v, inR_nI (show 40 * j + c < 160 by omega) (by decide), gd_t, nI_clamp (show 40 * j + c < 2 ^ 31 by omega), iB_1]
theorem TF.pw {q j n m a c : Nat} {M0 N0 M N M' : Mem} {h h' k k' g g' : Int32} {v v' : Int64} (T : TF q j n m a M0 N0 M N) (hc : c < 40)
    (e2 : ∀ i, gI M' (q + 2) i = if i = c then h else gI M (q + 2) i) (e3 : ∀ i, gL M' (q + 3) i = if i = c then v else gL M (q + 3) i) (e4 : ∀ i, gI M' (q + 4) i = if i = c then k else gI M (q + 4) i) (e5 : ∀ i, gI M' (q + 5) i = if i = c then g else gI M (q + 5) i)
    (e8 : ∀ i, bt (gL M' q 8) i = (bt (gL M q 8) i || decide (i = c))) (A : Ag (fun q' i => (q' = q ∧ i ≠ 8) ∨ ¬ (q ≤ q' ∧ q' ≤ q + 5) ∨ q' = q + 1) M M') (hcc : CC h v k g h' v' k' g') : TF q j n m a M0 N0 M' (wrN N (40 * j + c) h' v' k' g') := by
  have B : Ag (fun q' i => q' < 163 ∨ 167 < q' ∨ i ≠ 40 * j + c) N (wrN N (40 * j + c) h' v' k' g') := ((((Ag.rf.tB (by omega)).tI (by omega)).tL (by omega)).tI (by omega)).tI (by omega)
  have T1 := T.t
  refine ⟨⟨?_, ?_, ⟨?_, ?_⟩, ?_, ?_, ?_, ?_, ?_, ?_, ?_, ?_, ?_, ?_, ?_⟩, ?_, ?_⟩
  · rw [B.i (by omega)]; exact T1.sl
  · rw [A.l (by omega), B.l (by omega)]; exact T1.x
  · intro i
    rw [e8 i, T1.ce.w i]
    by_cases z : i = c
    · subst z
      unfold wrN
      simp (disch := omega) only [gI_s, gL_s, gB_s, gI_ne, gL_ne, gB_ne, gI_tL, gI_tB, gL_tI, gL_tB, gB_tI, gB_tL]
      simp [hc]
    · rw [B.b (by omega)]
      simp [z]
  · intro i hi
    by_cases z : i = c
    · subst z
      unfold hN vN kN gN
      rw [e2, e3, e4, e5, if_pos rfl, if_pos rfl, if_pos rfl, if_pos rfl, show gB (wrN N (40 * j + i) h' v' k' g') 163 (40 * j + i) = true by unfold wrN; simp (disch := omega) only [gI_s, gL_s, gB_s, gI_ne, gL_ne, gB_ne, gI_tL, gI_tB, gL_tI, gL_tB, gB_tI, gB_tL],
        show gI (wrN N (40 * j + i) h' v' k' g') (163 + 1) (40 * j + i) = h' by unfold wrN; simp (disch := omega) only [gI_s, gL_s, gB_s, gI_ne, gL_ne, gB_ne, gI_tL, gI_tB, gL_tI, gL_tB, gB_tI, gB_tL], show gL (wrN N (40 * j + i) h' v' k' g') (163 + 2) (40 * j + i) = v' by unfold wrN; simp (disch := omega) only [gI_s, gL_s, gB_s, gI_ne, gL_ne, gB_ne, gI_tL, gI_tB, gL_tI, gL_tB, gB_tI, gB_tL],
        show gI (wrN N (40 * j + i) h' v' k' g') (163 + 3) (40 * j + i) = k' by unfold wrN; simp (disch := omega) only [gI_s, gL_s, gB_s, gI_ne, gL_ne, gB_ne, gI_tL, gI_tB, gL_tI, gL_tB, gB_tI, gB_tL], show gI (wrN N (40 * j + i) h' v' k' g') (163 + 4) (40 * j + i) = g' by unfold wrN; simp (disch := omega) only [gI_s, gL_s, gB_s, gI_ne, gL_ne, gB_ne, gI_tL, gI_tB, gL_tI, gL_tB, gB_tI, gB_tL]]
      exact hcc
    · have := T1.ce.c i hi
      unfold hN vN kN gN at this ⊢
      rw [e2, e3, e4, e5, if_neg z, if_neg z, if_neg z, if_neg z, B.b (by omega), B.i (by omega), B.l (by omega), B.i (by omega), B.i (by omega), B.i (by omega), B.l (by omega), B.i (by omega), B.i (by omega)]
      exact this
  · intro i
    rw [A.l (by omega), B.b (by omega)]
    exact T1.rd i
  · intro i hi hr
    rw [B.b (by omega)] at hr
    rw [B.i (by omega), B.i (by omega)]
    exact T1.rv i hi hr
  · rw [A.i (by omega)]; exact T1.st
  · rw [B.i (by omega)]; exact T1.st'
  · rw [A.i (by omega)]; exact T1.sa
  · rw [B.i (by omega)]; exact T1.sa'
  · intro i h1 h2
    rw [A.l (by omega), B.l (by omega)]; exact T1.sv i h1 h2
  · rw [A.i (by omega)]; exact T1.ac
  · rw [B.i (by omega)]; exact T1.ac'
  · intro i h1 h2
    rw [A.i (by omega), A.i (by omega), A.l (by omega), B.i (by omega), B.i (by omega), B.l (by omega)]
    exact T1.ab i h1 h2
  · rw [A.i (by omega), B.i (by omega)]; exact T1.to
  · exact T.k.tr (A.mo (fun q' i z => by unfold KS at z; omega))
  · exact T.k'.tr (B.mo (fun q' i z => by unfold KN at z; omega))
theorem hn9 {N : Mem} {j c : Nat} (hj : j < 4) (hc : c < 40) (hs : gI N 119 46 = nI j) : f_X9_holdsNow N (nI c) = some (hN N 163 (40 * j) c) := by
  unfold f_X9_holdsNow hN
  rw [hs, mx (K := 40) 40 j c rfl]
  simp only [lt_v, inR_nI (show 40 * j + c < 160 by omega) (by decide), gd_t, nI_clamp (show 40 * j + c < 2 ^ 31 by omega), inR_nI hc (by decide), nI_clamp (show c < 2 ^ 31 by omega), bI_0]
  cases gB N 163 (40 * j + c) <;> rfl
theorem vn9 {N : Mem} {j c : Nat} (hj : j < 4) (hc : c < 40) (hs : gI N 119 46 = nI j) : f_X9_numberNow N (nI c) = some (vN N 163 (40 * j) c) := by
  unfold f_X9_numberNow vN
  rw [hs, mx (K := 40) 40 j c rfl]
  simp only [lt_v, inR_nI (show 40 * j + c < 160 by omega) (by decide), gd_t, nI_clamp (show 40 * j + c < 2 ^ 31 by omega), inR_nI hc (by decide), nI_clamp (show c < 2 ^ 31 by omega), bI_0]
  cases gB N 163 (40 * j + c) <;> rfl
theorem kn9 {N : Mem} {j c : Nat} (hj : j < 4) (hc : c < 40) (hs : gI N 119 46 = nI j) : f_X9_kindNow N (nI c) = some (kN N 163 (40 * j) c) := by
  unfold f_X9_kindNow kN
  rw [hs, mx (K := 40) 40 j c rfl]
  simp only [lt_v, inR_nI (show 40 * j + c < 160 by omega) (by decide), gd_t, nI_clamp (show 40 * j + c < 2 ^ 31 by omega), inR_nI hc (by decide), nI_clamp (show c < 2 ^ 31 by omega), bI_0]
  cases gB N 163 (40 * j + c) <;> rfl
theorem gn9 {N : Mem} {j c : Nat} (hj : j < 4) (hc : c < 40) (hs : gI N 119 46 = nI j) : f_X9_growerNow N (nI c) = some (gN N 163 (40 * j) c) := by
  unfold f_X9_growerNow gN
  rw [hs, mx (K := 40) 40 j c rfl]
  simp only [lt_v, inR_nI (show 40 * j + c < 160 by omega) (by decide), gd_t, nI_clamp (show 40 * j + c < 2 ^ 31 by omega), inR_nI hc (by decide), nI_clamp (show c < 2 ^ 31 by omega), bI_0]
  cases gB N 163 (40 * j + c) <;> rfl
def lcd (h w : Int32) : Nat := if h = w then 0 else if h = 0 then 1 else 3
theorem lookC {q c : Nat} {M : Mem} (hc : c < 40) (w : Int32) : f_X0_look q M (nI c) w = some (nI (lcd (gI M (q + 2) c) w), lkC q M c) := by
  unfold f_X0_look lcd
  simp only [lt_v, inR_nI hc (by decide), gd_t, nI_clamp (show c < 2 ^ 31 by omega)]
  change (if gI (lkC q M c) (q + 1 + 1) c = w then some (0, lkC q M c) else if gI (lkC q M c) (q + 1 + 1) c = 0 then some (1, lkC q M c) else some (3, lkC q M c)) = _
  have e : gI (lkC q M c) (q + 1 + 1) c = gI M (q + 2) c := rfl
  generalize lkC q M c = X at e ⊢
  rw [e]
  by_cases h1 : gI M (q + 2) c = w
  · rw [if_pos h1, if_pos h1]; rfl
  · rw [if_neg h1, if_neg h1]
    by_cases h2 : gI M (q + 2) c = 0
    · rw [if_pos h2, if_pos h2]; rfl
    · rw [if_neg h2, if_neg h2]; rfl
theorem is9 {q j n m a c : Nat} {M0 N0 M N : Mem} (T : TF q j n m a M0 N0 M N) (hj : j < 4) (hc : c < 40) {w : Int32} (hw : w ≠ 0) : f_X9_is N (nI c) w = some (decide (lcd (gI M (q + 2) c) w = 0), sI (lkN N j c) 119 78 (nI (lcd (gI M (q + 2) c) w))) := by
  have T1 := T.pl (c := c) hc
  unfold f_X9_is
  rw [look9 hj hc T.t.sl, sb_v, hn9 hj hc T1.t.sl, sb_v]
  have := (T1.t.ce.c c hc).1
  rw [← this, show gI (lkC q M c) (q + 1 + 1) c = gI M (q + 2) c from rfl]
  unfold f_X9_is_30 lcd
  simp only [lt_v, gI_s]
  by_cases h2 : gI M (q + 2) c = 0
  · rw [if_pos h2, if_neg (by decide)]
    have : ¬ gI M (q + 2) c = w := fun z => hw (z.symm.trans h2)
    rw [if_neg this, if_pos h2]
    rfl
  · rw [if_neg h2]
    by_cases h1 : gI M (q + 2) c = w
    · rw [if_pos h1, if_pos (by decide), if_pos h1]
      rfl
    · rw [if_neg h1, if_neg (by decide), if_neg h1, if_neg h2]
      rfl
theorem lcd_le (h w : Int32) : lcd h w = 0 ∨ lcd h w = 1 ∨ lcd h w = 3 := by
  unfold lcd
  split
  · exact Or.inl rfl
  · split
    · exact Or.inr (Or.inl rfl)
    · exact Or.inr (Or.inr rfl)
theorem lcd_0 {h w : Int32} (z : lcd h w = 0) : h = w := by
  unfold lcd at z
  split at z
  · assumption
  · split at z <;> omega

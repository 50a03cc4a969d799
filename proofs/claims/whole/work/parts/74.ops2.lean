section
variable {q j n m a : Nat} {M0 N0 M N : Mem}
theorem putC {qc c : Nat} (hc : c < 40) (h : Int32) (v : Int64) (k g : Int32) : f_X1_put qc M (nI c) h v k g = some (sI (sI (sL (sI M (qc + 1) c h) (qc + 2) c v) (qc + 3) c k) (qc + 4) c g) := by
  unfold f_X1_put
  simp only [lt_v, inR_nI hc (by decide), gd_t, nI_clamp (show c < 2 ^ 31 by omega)]
theorem bt_o1 {w : Int64} {c : Nat} (hc : c < 40) (i : Nat) : bt (w ||| ((1 : Int64) <<< (Int32.toInt64 (nI c) &&& 63))) i = (bt w i || decide (i = c)) := by
  rw [bt_or, bt_m (by omega)]
theorem lkC_I {c q' i : Nat} : gI (lkC q M c) q' i = gI M q' i := by rw [lkC, gI_tL]
theorem op0 (T : TF q j n m a M0 N0 M N) (hf : gI N 119 78 = 0) (mn : m ≤ n) (an : a ≤ n) (a2 a3 : Int32) : OpOut q j n m a M0 N0 (f_X0_doStep q M 0 a2 a3) (f_X9_act N 0 a2 a3) := by
  unfold f_X0_doStep f_X9_act
  repeat (first | rw [if_pos (by decide)] | rw [if_neg (by decide)])
  exact OpOut.of (k := 0) (T.px rfl) mn an (by omega) hf
theorem op2 {c : Nat} (T : TF q j n m a M0 N0 M N) (hj : j < 4) (hc : c < 40) (hf : gI N 119 78 = 0) (mn : m ≤ n) (an : a ≤ n) (a3 : Int32) : OpOut q j n m a M0 N0 (f_X0_doStep q M 2 (nI c) a3) (f_X9_act N 2 (nI c) a3) := by
  unfold f_X0_doStep f_X9_act
  repeat (first | rw [if_pos (by decide)] | rw [if_neg (by decide)])
  refine i3 ?_
  unfold f_X0_write
  rw [putC hc, write9 hj hc T.t.sl, sb_v, lt_v]
  refine OpOut.of (k := 0) (T.pw (M' := _) (h := 1) (h' := 1) (k := -1) (g := -1) (v := gL M q 6) (c := c) hc ?_ ?_ ?_ ?_ ?_ ?_ ?_) mn an (by omega) ?_
  · intro i
    by_cases z : i = c
    · subst z; rw [if_pos rfl]; simp (disch := omega) only [gI_s, gL_s, gB_s, gI_ne, gL_ne, gB_ne, gI_tL, gI_tB, gL_tI, gL_tB, gB_tI, gB_tL]
    · rw [if_neg z]; simp (disch := omega) only [gI_s, gL_s, gB_s, gI_ne, gL_ne, gB_ne, gI_tL, gI_tB, gL_tI, gL_tB, gB_tI, gB_tL]
  · intro i
    by_cases z : i = c
    · subst z; rw [if_pos rfl]; simp (disch := omega) only [gI_s, gL_s, gB_s, gI_ne, gL_ne, gB_ne, gI_tL, gI_tB, gL_tI, gL_tB, gB_tI, gB_tL]
    · rw [if_neg z]; simp (disch := omega) only [gI_s, gL_s, gB_s, gI_ne, gL_ne, gB_ne, gI_tL, gI_tB, gL_tI, gL_tB, gB_tI, gB_tL]
  · intro i
    by_cases z : i = c
    · subst z; rw [if_pos rfl]; simp (disch := omega) only [gI_s, gL_s, gB_s, gI_ne, gL_ne, gB_ne, gI_tL, gI_tB, gL_tI, gL_tB, gB_tI, gB_tL]
    · rw [if_neg z]; simp (disch := omega) only [gI_s, gL_s, gB_s, gI_ne, gL_ne, gB_ne, gI_tL, gI_tB, gL_tI, gL_tB, gB_tI, gB_tL]
  · intro i
    by_cases z : i = c
    · subst z; rw [if_pos rfl]; simp (disch := omega) only [gI_s, gL_s, gB_s, gI_ne, gL_ne, gB_ne, gI_tL, gI_tB, gL_tI, gL_tB, gB_tI, gB_tL]
    · rw [if_neg z]; simp (disch := omega) only [gI_s, gL_s, gB_s, gI_ne, gL_ne, gB_ne, gI_tL, gI_tB, gL_tI, gL_tB, gB_tI, gB_tL]
  · intro i
    rw [gL_s, bt_o1 hc]
    simp (disch := omega) only [gI_s, gL_s, gB_s, gI_ne, gL_ne, gB_ne, gI_tL, gI_tB, gL_tI, gL_tB, gB_tI, gB_tL]
  · exact ((((Ag.rf.tI (by omega)).tL (by omega)).tI (by omega)).tI (by omega)).tL (by omega)
  · exact ⟨rfl, T.t.x, by decide, fun z => absurd z (by decide), fun z => absurd z (by decide), fun _ => ⟨rfl, rfl⟩⟩
  · unfold wrN
    simp (disch := omega) only [gI_s, gL_s, gB_s, gI_ne, gL_ne, gB_ne, gI_tL, gI_tB, gL_tI, gL_tB, gB_tI, gB_tL]
    exact hf
theorem op4 (T : TF q j n m a M0 N0 M N) (hf : gI N 119 78 = 0) (mn : m ≤ n) (an : a ≤ n) (a2 a3 : Int32) : OpOut q j n m a M0 N0 (f_X0_doStep q M 4 a2 a3) (f_X9_act N 4 a2 a3) := by
  unfold f_X0_doStep f_X9_act
  repeat (first | rw [if_pos (by decide)] | rw [if_neg (by decide)])
  exact i3 (plus_op T mn an hf _)
theorem op5 (T : TF q j n m a M0 N0 M N) (hf : gI N 119 78 = 0) (mn : m ≤ n) (an : a ≤ n) (a2 a3 : Int32) : OpOut q j n m a M0 N0 (f_X0_doStep q M 5 a2 a3) (f_X9_act N 5 a2 a3) := by
  unfold f_X0_doStep f_X9_act
  repeat (first | rw [if_pos (by decide)] | rw [if_neg (by decide)])
  rw [show (Option.bind (f_X0_multiply q M a2) fun r => some (r.1, r.2)) = f_X0_multiply q M a2 by cases f_X0_multiply q M a2 <;> rfl]
  obtain ⟨b, h1, h2⟩ := mul_eq q M a2
  rw [← T.t.x, h1, h2, sb_v]
  cases b with
  | true =>
    rw [if_pos rfl, if_neg (show ¬ bI true = 0 by decide)]
    exact OpOut.of (k := 0) (T.px rfl) mn an (by omega) hf
  | false =>
    rw [if_neg (by decide), if_pos (show bI false = 0 from rfl)]
    exact OpOut.of (k := 5) (T.pf 5) mn an (by omega) gI_s
theorem op14 (T : TF q j n m a M0 N0 M N) (mn : m ≤ n) (an : a ≤ n) (a2 a3 : Int32) : OpOut q j n m a M0 N0 (f_X0_doStep q M 14 a2 a3) (f_X9_act N 14 a2 a3) := by
  unfold f_X0_doStep f_X9_act f_X0_fail
  repeat (first | rw [if_pos (by decide)] | rw [if_neg (by decide)])
  simp only [lt_v, sb_v]
  have A : Ag (fun q' i => ¬ (q' = q ∧ i = 9)) M (sI M q 9 a2) := Ag.rf.tI (by omega)
  have B : Ag (fun q' i => ¬ (q' = 119 ∧ (i = 78 ∨ i = 79))) N (sI (sI N 119 78 8) 119 79 a2) := (Ag.rf.tI (by omega)).tI (by omega)
  refine OpOut.of (k := 8) ⟨⟨?_, ?_, ?_, T.t.rd, T.t.rv, ?_, ?_, ?_, ?_, ?_, ?_, ?_, ?_, ?_⟩, T.k.tI (by unfold KS; omega), (T.k'.tI (by unfold KN; omega)).tI (by unfold KN; omega)⟩ mn an (by omega) (by simp (disch := omega) only [gI_s, gL_s, gB_s, gI_ne, gL_ne, gB_ne, gI_tL, gI_tB, gL_tI, gL_tB, gB_tI, gB_tL]; rfl)
  · rw [B.i (by omega)]; exact T.t.sl
  · exact T.t.x
  · exact T.t.ce.ag A B (fun q i k => by unfold pcC at k; omega) (fun q i k => by unfold pcD at k; omega)
  · rw [A.i (by omega)]; exact T.t.st
  · rw [B.i (by omega)]; exact T.t.st'
  · rw [A.i (by omega)]; exact T.t.sa
  · rw [B.i (by omega)]; exact T.t.sa'
  · exact T.t.sv
  · rw [A.i (by omega)]; exact T.t.ac
  · rw [B.i (by omega)]; exact T.t.ac'
  · intro i h1 h2
    rw [A.i (by omega), A.i (by omega), A.l (by omega), B.i (by omega), B.i (by omega), B.l (by omega)]
    exact T.t.ab i h1 h2
  · simp (disch := omega) only [gI_s, gL_s, gB_s, gI_ne, gL_ne, gB_ne, gI_tL, gI_tB, gL_tI, gL_tB, gB_tI, gB_tL]
theorem op15 (T : TF q j n m a M0 N0 M N) (mn : m ≤ n) (an : a ≤ n) (a2 a3 : Int32) : OpOut q j n m a M0 N0 (f_X0_doStep q M 15 a2 a3) (f_X9_act N 15 a2 a3) := by
  unfold f_X0_doStep f_X9_act
  repeat (first | rw [if_pos (by decide)] | rw [if_neg (by decide)])
  exact OpOut.of (k := 11) (T.pf (-1)) mn an (by omega) gI_s
theorem op11 {c d : Nat} (T : TF q j n m a M0 N0 M N) (hj : j < 4) (hc : c < 40) (hd : d < 40) (hf : gI N 119 78 = 0) (mn : m ≤ n) (an : a ≤ n) : OpOut q j n m a M0 N0 (f_X0_doStep q M 11 (nI c) (nI d)) (f_X9_act N 11 (nI c) (nI d)) := by
  unfold f_X0_doStep f_X9_act
  repeat (first | rw [if_pos (by decide)] | rw [if_neg (by decide)])
  refine i3 ?_
  have T1 := (T.pl hc).pl hd
  have e1 : sL M q 7 ((gL M q 7) ||| ((((1 : Int64) <<< (Int32.toInt64 (nI c) &&& 63)) ||| (1 <<< (Int32.toInt64 (nI d) &&& 63))) &&& ((gL M q 8) ^^^ (-1)))) = lkC q (lkC q M c) d := by
    unfold lkC
    rw [sL_sL]
    congr 1
    rw [gL_s, show gL (sL M q 7 (gL M q 7 ||| (((1 : Int64) <<< (Int32.toInt64 (nI c) &&& 63)) &&& (gL M q 8 ^^^ (-1))))) q 8 = gL M q 8 by simp (disch := omega) only [gI_s, gL_s, gB_s, gI_ne, gL_ne, gB_ne, gI_tL, gI_tB, gL_tI, gL_tB, gB_tI, gB_tL]]
    refine bt_ext fun i hi => ?_
    simp only [bt_or, bt_and]
    generalize bt (gL M q 7) i = x1
    generalize bt (gL M q 8 ^^^ (-1)) i = x2
    generalize bt ((1 : Int64) <<< (Int32.toInt64 (nI c) &&& 63)) i = x3
    generalize bt ((1 : Int64) <<< (Int32.toInt64 (nI d) &&& 63)) i = x4
    cases x1 <;> cases x2 <;> cases x3 <;> cases x4 <;> rfl
  have hf1 : gI (lkN (lkN N j c) j d) 119 78 = 0 := by
    rw [← hf]
    unfold lkN
    split
    · split <;> rfl
    · split <;> rfl
  unfold f_X0_swap f_X9_swap
  rw [look9 hj hc T.t.sl, sb_w, look9 hj hd (T.pl hc).t.sl, sb_w]
  simp only [lt_w]
  rw [e1]
  generalize lkC q (lkC q M c) d = M1 at *
  generalize lkN (lkN N j c) j d = N1 at *
  rw [hn9 hj hc T1.t.sl, vn9 hj hc T1.t.sl, kn9 hj hc T1.t.sl, gn9 hj hc T1.t.sl, hn9 hj hd T1.t.sl, vn9 hj hd T1.t.sl, kn9 hj hd T1.t.sl, gn9 hj hd T1.t.sl]
  simp only [sb_w]
  have Cc := T1.t.ce.c c hc
  have Cd := T1.t.ce.c d hd
  rw [write9 hj hc T1.t.sl, sb_w, putC hc, sb_w, putC hd, sb_w]
  simp only [inR_nI hc (by decide), inR_nI hd (by decide), gd_w, nI_clamp (show c < 2 ^ 31 by omega), nI_clamp (show d < 2 ^ 31 by omega)]
  generalize gI M1 (q + 1 + 1) c = hc0 at *
  generalize gL M1 (q + 1 + 2) c = vc0 at *
  generalize gI M1 (q + 1 + 3) c = kc0 at *
  generalize gI M1 (q + 1 + 4) c = gc0 at *
  generalize gI M1 (q + 1 + 1) d = hd0 at *
  generalize gL M1 (q + 1 + 2) d = vd0 at *
  generalize gI M1 (q + 1 + 3) d = kd0 at *
  generalize gI M1 (q + 1 + 4) d = gd0 at *
  generalize hN N1 163 (40 * j) c = hc1 at *
  generalize vN N1 163 (40 * j) c = vc1 at *
  generalize kN N1 163 (40 * j) c = kc1 at *
  generalize gN N1 163 (40 * j) c = gc1 at *
  have T2 : TF q j n m a M0 N0 (sL (sI (sI (sL (sI M1 (q + 1 + 1) c hd0) (q + 1 + 2) c vd0) (q + 1 + 3) c kd0) (q + 1 + 4) c gd0) q 8 (gL M1 q 8 ||| ((1 : Int64) <<< (Int32.toInt64 (nI c) &&& 63)))) (wrN N1 (40 * j + c) (hN N1 163 (40 * j) d) (vN N1 163 (40 * j) d) (kN N1 163 (40 * j) d) (gN N1 163 (40 * j) d)) := by
    refine T1.pw hc (h := hd0) (v := vd0) (k := kd0) (g := gd0) ?_ ?_ ?_ ?_ ?_ ?_ Cd
    · intro i
      by_cases z : i = c
      · subst z; rw [if_pos rfl]; simp (disch := omega) only [gI_s, gL_s, gB_s, gI_ne, gL_ne, gB_ne, gI_tL, gI_tB, gL_tI, gL_tB, gB_tI, gB_tL]
      · rw [if_neg z]; simp (disch := omega) only [gI_s, gL_s, gB_s, gI_ne, gL_ne, gB_ne, gI_tL, gI_tB, gL_tI, gL_tB, gB_tI, gB_tL]
    · intro i
      by_cases z : i = c
      · subst z; rw [if_pos rfl]; simp (disch := omega) only [gI_s, gL_s, gB_s, gI_ne, gL_ne, gB_ne, gI_tL, gI_tB, gL_tI, gL_tB, gB_tI, gB_tL]
      · rw [if_neg z]; simp (disch := omega) only [gI_s, gL_s, gB_s, gI_ne, gL_ne, gB_ne, gI_tL, gI_tB, gL_tI, gL_tB, gB_tI, gB_tL]
    · intro i
      by_cases z : i = c
      · subst z; rw [if_pos rfl]; simp (disch := omega) only [gI_s, gL_s, gB_s, gI_ne, gL_ne, gB_ne, gI_tL, gI_tB, gL_tI, gL_tB, gB_tI, gB_tL]
      · rw [if_neg z]; simp (disch := omega) only [gI_s, gL_s, gB_s, gI_ne, gL_ne, gB_ne, gI_tL, gI_tB, gL_tI, gL_tB, gB_tI, gB_tL]
    · intro i
      by_cases z : i = c
      · subst z; rw [if_pos rfl]; simp (disch := omega) only [gI_s, gL_s, gB_s, gI_ne, gL_ne, gB_ne, gI_tL, gI_tB, gL_tI, gL_tB, gB_tI, gB_tL]
      · rw [if_neg z]; simp (disch := omega) only [gI_s, gL_s, gB_s, gI_ne, gL_ne, gB_ne, gI_tL, gI_tB, gL_tI, gL_tB, gB_tI, gB_tL]
    · intro i
      rw [gL_s, bt_o1 hc]
    · exact ((((Ag.rf.tI (by omega)).tL (by omega)).tI (by omega)).tI (by omega)).tL (by omega)
  rw [write9 hj hd T2.t.sl, sb_w]
  refine OpOut.of (k := 0) (T2.pw hd (h := hc0) (v := vc0) (k := kc0) (g := gc0) ?_ ?_ ?_ ?_ ?_ ?_ Cc) mn an (by omega) ?_
  · intro i
    by_cases z : i = d
    · subst z; rw [if_pos rfl]; simp (disch := omega) only [gI_s, gL_s, gB_s, gI_ne, gL_ne, gB_ne, gI_tL, gI_tB, gL_tI, gL_tB, gB_tI, gB_tL]
    · rw [if_neg z]; simp (disch := omega) only [gI_s, gL_s, gB_s, gI_ne, gL_ne, gB_ne, gI_tL, gI_tB, gL_tI, gL_tB, gB_tI, gB_tL]
  · intro i
    by_cases z : i = d
    · subst z; rw [if_pos rfl]; simp (disch := omega) only [gI_s, gL_s, gB_s, gI_ne, gL_ne, gB_ne, gI_tL, gI_tB, gL_tI, gL_tB, gB_tI, gB_tL]
    · rw [if_neg z]; simp (disch := omega) only [gI_s, gL_s, gB_s, gI_ne, gL_ne, gB_ne, gI_tL, gI_tB, gL_tI, gL_tB, gB_tI, gB_tL]
  · intro i
    by_cases z : i = d
    · subst z; rw [if_pos rfl]; simp (disch := omega) only [gI_s, gL_s, gB_s, gI_ne, gL_ne, gB_ne, gI_tL, gI_tB, gL_tI, gL_tB, gB_tI, gB_tL]
    · rw [if_neg z]; simp (disch := omega) only [gI_s, gL_s, gB_s, gI_ne, gL_ne, gB_ne, gI_tL, gI_tB, gL_tI, gL_tB, gB_tI, gB_tL]
  · intro i
    by_cases z : i = d
    · subst z; rw [if_pos rfl]; simp (disch := omega) only [gI_s, gL_s, gB_s, gI_ne, gL_ne, gB_ne, gI_tL, gI_tB, gL_tI, gL_tB, gB_tI, gB_tL]
    · rw [if_neg z]; simp (disch := omega) only [gI_s, gL_s, gB_s, gI_ne, gL_ne, gB_ne, gI_tL, gI_tB, gL_tI, gL_tB, gB_tI, gB_tL]
  · intro i
    rw [gL_s, gL_s, bt_o1 hc, bt_or, bt_or, bt_m (by omega), bt_m (by omega)]
    simp (disch := omega) only [gI_s, gL_s, gB_s, gI_ne, gL_ne, gB_ne, gI_tL, gI_tB, gL_tI, gL_tB, gB_tI, gB_tL]
    rw [Bool.or_assoc]
  · intro q' i k
    refine ⟨?_, ?_, ?_⟩
    · simp (disch := omega) only [gI_s, gL_s, gB_s, gI_ne, gL_ne, gB_ne, gI_tL, gI_tB, gL_tI, gL_tB, gB_tI, gB_tL]
    · simp (disch := omega) only [gI_s, gL_s, gB_s, gI_ne, gL_ne, gB_ne, gI_tL, gI_tB, gL_tI, gL_tB, gB_tI, gB_tL]
    · simp (disch := omega) only [gI_s, gL_s, gB_s, gI_ne, gL_ne, gB_ne, gI_tL, gI_tB, gL_tI, gL_tB, gB_tI, gB_tL]
  · unfold wrN
    simp (disch := omega) only [gI_s, gL_s, gB_s, gI_ne, gL_ne, gB_ne, gI_tL, gI_tB, gL_tI, gL_tB, gB_tI, gB_tL]
    exact hf1
theorem op10 {c d : Nat} (T : TF q j n m a M0 N0 M N) (hj : j < 4) (hc : c < 40) (hd : d < 40) (mn : m ≤ n) (an : a ≤ n) : OpOut q j n m a M0 N0 (f_X0_doStep q M 10 (nI c) (nI d)) (f_X9_act N 10 (nI c) (nI d)) := by
  unfold f_X0_doStep f_X9_act
  repeat (first | rw [if_pos (by decide)] | rw [if_neg (by decide)])
  refine i3 ?_
  unfold f_X0_give f_X9_give
  rw [lookC hc, is9 T hj hc (by decide), sb_w, sb_w]
  have T1 := (T.pl hc).pf (nI (lcd (gI M (q + 2) c) 2))
  have fl : ∀ (k : Nat) (M1 N1 : Mem), (k = 1 ∨ k = 3) → TF q j n m a M0 N0 M1 N1 → gI N1 119 78 = nI k → OpOut q j n m a M0 N0 (f_X0_give_18 q M1 (nI c) (nI d) (nI k)) (some N1) := by
    intro k M1 N1 hk T1 h
    unfold f_X0_give_18
    rw [if_neg (by rcases hk with rfl | rfl <;> decide)]
    exact OpOut.of T1 mn an (by omega) (by rw [h]; unfold cd; rw [if_neg (by omega)])
  have hh := lcd_le (gI M (q + 2) c) 2
  have hz := @lcd_0 (gI M (q + 2) c) 2
  generalize lcd (gI M (q + 2) c) 2 = k1 at *
  by_cases h : k1 = 0
  · subst h
    rw [if_pos (show nI 0 = 0 from rfl), if_neg (show ¬ bI (decide (0 = 0)) = 0 by decide), lookC hd, is9 T1 hj hd (by decide), sb_w, sb_w]
    have T2 := (T1.pl hd).pf (nI (lcd (gI (lkC q M c) (q + 2) d) 2))
    have hh2 := lcd_le (gI (lkC q M c) (q + 2) d) 2
    have hz2 := @lcd_0 (gI (lkC q M c) (q + 2) d) 2
    generalize lcd (gI (lkC q M c) (q + 2) d) 2 = k2 at *
    by_cases h : k2 = 0
    · subst h
      rw [if_neg (show ¬ bI (decide (0 = 0)) = 0 by decide)]
      have hc2 : gI (lkC q (lkC q M c) d) (q + 2) c = 2 := by rw [lkC_I, lkC_I]; exact hz rfl
      have hd2 : gI (lkC q (lkC q M c) d) (q + 2) d = 2 := by rw [lkC_I]; exact hz2 rfl
      have hf2 : gI (sI (lkN (sI (lkN N j c) 119 78 (nI 0)) j d) 119 78 (nI 0)) 119 78 = 0 := gI_s
      generalize lkC q (lkC q M c) d = M1 at *
      generalize sI (lkN (sI (lkN N j c) 119 78 (nI 0)) j d) 119 78 (nI 0) = N1 at *
      rw [vn9 hj hc T2.t.sl, vn9 hj hd T2.t.sl, kn9 hj hc T2.t.sl, kn9 hj hd T2.t.sl]
      simp only [sb_w]
      have Cc := T2.t.ce.c c hc
      have Cd := T2.t.ce.c d hd
      unfold f_X0_give_18
      rw [if_pos (show nI 0 = 0 from rfl)]
      simp only [inR_nI hc (by decide), inR_nI hd (by decide), gd_w, nI_clamp (show c < 2 ^ 31 by omega), nI_clamp (show d < 2 ^ 31 by omega)]
      rw [← (Cc.2.2.2.2.1 hc2).1, ← (Cd.2.2.2.2.1 hd2).1, ← T2.t.x, ← Cc.2.1, ← Cd.2.1]
      have six : OpOut q j n m a M0 N0 (some (6, M1)) (f_X9_give_91 N1) := OpOut.of (k := 6) (T2.pf 6) mn an (by omega) gI_s
      by_cases hk : gI M1 (q + 1 + 3) c = gI M1 (q + 1 + 3) d
      · rw [if_pos hk, if_pos hk]
        by_cases h1 : gL M1 q 6 < 0
        · rw [if_pos h1, if_pos h1]; exact six
        · rw [if_neg h1, if_neg h1]
          by_cases h2 : gL M1 (q + 1 + 2) c < gL M1 q 6
          · rw [if_pos h2, if_pos h2]; exact six
          · rw [if_neg h2, if_neg h2]
            by_cases hcd : c = d
            · subst hcd
              rw [if_pos rfl, if_pos rfl]
              unfold f_X0_give_103 f_X9_give_100
              rw [if_pos rfl, kn9 hj hc T2.t.sl, gn9 hj hc T2.t.sl, sb_w, sb_w, write9 hj hc T2.t.sl, sb_w]
              simp only [inR_nI hc (by decide), gd_w, nI_clamp (show c < 2 ^ 31 by omega), lt_w]
              refine OpOut.of (k := 0) (T2.pw hc (h := 2) (v := gL M1 (q + 1 + 2) c) (k := gI M1 (q + 1 + 3) c) (g := gI M1 (q + 1 + 4) c) ?_ ?_ ?_ ?_ ?_ ?_ ?_) mn an (by omega) ?_
              · intro i
                by_cases z : i = c
                · subst z; rw [if_pos rfl]; simp (disch := omega) only [gI_s, gL_s, gB_s, gI_ne, gL_ne, gB_ne, gI_tL, gI_tB, gL_tI, gL_tB, gB_tI, gB_tL]; exact hc2
                · rw [if_neg z]; simp (disch := omega) only [gI_s, gL_s, gB_s, gI_ne, gL_ne, gB_ne, gI_tL, gI_tB, gL_tI, gL_tB, gB_tI, gB_tL]
              · intro i
                by_cases z : i = c
                · subst z; rw [if_pos rfl]; simp (disch := omega) only [gI_s, gL_s, gB_s, gI_ne, gL_ne, gB_ne, gI_tL, gI_tB, gL_tI, gL_tB, gB_tI, gB_tL]; rw [Int64.sub_add_cancel]
                · rw [if_neg z]; simp (disch := omega) only [gI_s, gL_s, gB_s, gI_ne, gL_ne, gB_ne, gI_tL, gI_tB, gL_tI, gL_tB, gB_tI, gB_tL]
              · intro i
                by_cases z : i = c
                · subst z; rw [if_pos rfl]; simp (disch := omega) only [gI_s, gL_s, gB_s, gI_ne, gL_ne, gB_ne, gI_tL, gI_tB, gL_tI, gL_tB, gB_tI, gB_tL]
                · rw [if_neg z]; simp (disch := omega) only [gI_s, gL_s, gB_s, gI_ne, gL_ne, gB_ne, gI_tL, gI_tB, gL_tI, gL_tB, gB_tI, gB_tL]
              · intro i
                by_cases z : i = c
                · subst z; rw [if_pos rfl]; simp (disch := omega) only [gI_s, gL_s, gB_s, gI_ne, gL_ne, gB_ne, gI_tL, gI_tB, gL_tI, gL_tB, gB_tI, gB_tL]
                · rw [if_neg z]; simp (disch := omega) only [gI_s, gL_s, gB_s, gI_ne, gL_ne, gB_ne, gI_tL, gI_tB, gL_tI, gL_tB, gB_tI, gB_tL]
              · intro i
                rw [gL_s, bt_or, bt_or, bt_m (by omega), Bool.or_self]
                simp (disch := omega) only [gI_s, gL_s, gB_s, gI_ne, gL_ne, gB_ne, gI_tL, gI_tB, gL_tI, gL_tB, gB_tI, gB_tL]
              · exact ((Ag.rf.tL (by omega)).tL (by omega)).tL (by omega)
              · exact ⟨rfl, rfl, by decide, fun z => absurd z (by decide), fun _ => Cc.2.2.2.2.1 hc2, fun z => absurd rfl z⟩
              · unfold wrN
                simp (disch := omega) only [gI_s, gL_s, gB_s, gI_ne, gL_ne, gB_ne, gI_tL, gI_tB, gL_tI, gL_tB, gB_tI, gB_tL]
                exact hf2
            · have hne : ¬ nI c = nI d := fun z => hcd ((nI_eq (by omega) (by omega)).mp z)
              rw [if_neg hne, if_neg hne]
              by_cases h3 : gL M1 (q + 1 + 2) d + gL M1 q 6 ≤ 1000000000
              · rw [if_pos h3, if_pos h3]
                unfold f_X0_give_103 f_X9_give_100
                rw [if_neg hne, kn9 hj hc T2.t.sl, gn9 hj hc T2.t.sl, sb_w, sb_w, write9 hj hc T2.t.sl, sb_w, ← T2.t.x]
                simp only [inR_nI hc (by decide), inR_nI hd (by decide), gd_w, nI_clamp (show c < 2 ^ 31 by omega), nI_clamp (show d < 2 ^ 31 by omega), lt_w]
                have T3 : TF q j n m a M0 N0 (sL (sL M1 (q + 1 + 2) c (gL M1 (q + 1 + 2) c - gL M1 q 6)) q 8 (gL M1 q 8 ||| ((1 : Int64) <<< (Int32.toInt64 (nI c) &&& 63)))) (wrN N1 (40 * j + c) 2 (gL M1 (q + 1 + 2) c - gL M1 q 6) (kN N1 163 (40 * j) c) (gN N1 163 (40 * j) c)) := by
                  refine T2.pw hc (h := 2) (v := gL M1 (q + 1 + 2) c - gL M1 q 6) (k := gI M1 (q + 1 + 3) c) (g := gI M1 (q + 1 + 4) c) ?_ ?_ ?_ ?_ ?_ ?_ ?_
                  · intro i
                    by_cases z : i = c
                    · subst z; rw [if_pos rfl]; simp (disch := omega) only [gI_s, gL_s, gB_s, gI_ne, gL_ne, gB_ne, gI_tL, gI_tB, gL_tI, gL_tB, gB_tI, gB_tL]; exact hc2
                    · rw [if_neg z]; simp (disch := omega) only [gI_s, gL_s, gB_s, gI_ne, gL_ne, gB_ne, gI_tL, gI_tB, gL_tI, gL_tB, gB_tI, gB_tL]
                  · intro i
                    by_cases z : i = c
                    · subst z; rw [if_pos rfl]; simp (disch := omega) only [gI_s, gL_s, gB_s, gI_ne, gL_ne, gB_ne, gI_tL, gI_tB, gL_tI, gL_tB, gB_tI, gB_tL]
                    · rw [if_neg z]; simp (disch := omega) only [gI_s, gL_s, gB_s, gI_ne, gL_ne, gB_ne, gI_tL, gI_tB, gL_tI, gL_tB, gB_tI, gB_tL]
                  · intro i
                    by_cases z : i = c
                    · subst z; rw [if_pos rfl]; simp (disch := omega) only [gI_s, gL_s, gB_s, gI_ne, gL_ne, gB_ne, gI_tL, gI_tB, gL_tI, gL_tB, gB_tI, gB_tL]
                    · rw [if_neg z]; simp (disch := omega) only [gI_s, gL_s, gB_s, gI_ne, gL_ne, gB_ne, gI_tL, gI_tB, gL_tI, gL_tB, gB_tI, gB_tL]
                  · intro i
                    by_cases z : i = c
                    · subst z; rw [if_pos rfl]; simp (disch := omega) only [gI_s, gL_s, gB_s, gI_ne, gL_ne, gB_ne, gI_tL, gI_tB, gL_tI, gL_tB, gB_tI, gB_tL]
                    · rw [if_neg z]; simp (disch := omega) only [gI_s, gL_s, gB_s, gI_ne, gL_ne, gB_ne, gI_tL, gI_tB, gL_tI, gL_tB, gB_tI, gB_tL]
                  · intro i
                    rw [gL_s, bt_o1 hc]
                  · exact (Ag.rf.tL (by omega)).tL (by omega)
                  · exact ⟨rfl, rfl, by decide, fun z => absurd z (by decide), fun _ => Cc.2.2.2.2.1 hc2, fun z => absurd rfl z⟩
                have hf3 : gI (wrN N1 (40 * j + c) 2 (gL M1 (q + 1 + 2) c - gL M1 q 6) (kN N1 163 (40 * j) c) (gN N1 163 (40 * j) c)) 119 78 = 0 := by
                  unfold wrN
                  simp (disch := omega) only [gI_s, gL_s, gB_s, gI_ne, gL_ne, gB_ne, gI_tL, gI_tB, gL_tI, gL_tB, gB_tI, gB_tL]
                  exact hf2
                have x3 : gL (wrN N1 (40 * j + c) 2 (gL M1 (q + 1 + 2) c - gL M1 q 6) (kN N1 163 (40 * j) c) (gN N1 163 (40 * j) c)) 119 47 = gL M1 q 6 := by
                  rw [T2.t.x]
                  unfold wrN
                  simp (disch := omega) only [gI_s, gL_s, gB_s, gI_ne, gL_ne, gB_ne, gI_tL, gI_tB, gL_tI, gL_tB, gB_tI, gB_tL]
                generalize wrN N1 (40 * j + c) 2 (gL M1 (q + 1 + 2) c - gL M1 q 6) (kN N1 163 (40 * j) c) (gN N1 163 (40 * j) c) = N2 at *
                have Dd := T3.t.ce.c d hd
                rw [kn9 hj hd T3.t.sl, gn9 hj hd T3.t.sl, sb_w, sb_w, write9 hj hd T3.t.sl, sb_w, x3]
                refine OpOut.of (k := 0) (T3.pw hd (h := 2) (v := gL M1 (q + 1 + 2) d + gL M1 q 6) (k := gI M1 (q + 1 + 3) d) (g := gI M1 (q + 1 + 4) d) ?_ ?_ ?_ ?_ ?_ ?_ ?_) mn an (by omega) ?_
                · intro i
                  by_cases z : i = d
                  · subst z; rw [if_pos rfl]; simp (disch := omega) only [gI_s, gL_s, gB_s, gI_ne, gL_ne, gB_ne, gI_tL, gI_tB, gL_tI, gL_tB, gB_tI, gB_tL]; exact hd2
                  · rw [if_neg z]; simp (disch := omega) only [gI_s, gL_s, gB_s, gI_ne, gL_ne, gB_ne, gI_tL, gI_tB, gL_tI, gL_tB, gB_tI, gB_tL]
                · intro i
                  by_cases z : i = d
                  · subst z; rw [if_pos rfl]; simp (disch := omega) only [gI_s, gL_s, gB_s, gI_ne, gL_ne, gB_ne, gI_tL, gI_tB, gL_tI, gL_tB, gB_tI, gB_tL]
                  · rw [if_neg z]; simp (disch := omega) only [gI_s, gL_s, gB_s, gI_ne, gL_ne, gB_ne, gI_tL, gI_tB, gL_tI, gL_tB, gB_tI, gB_tL]
                · intro i
                  by_cases z : i = d
                  · subst z; rw [if_pos rfl]; simp (disch := omega) only [gI_s, gL_s, gB_s, gI_ne, gL_ne, gB_ne, gI_tL, gI_tB, gL_tI, gL_tB, gB_tI, gB_tL]
                  · rw [if_neg z]; simp (disch := omega) only [gI_s, gL_s, gB_s, gI_ne, gL_ne, gB_ne, gI_tL, gI_tB, gL_tI, gL_tB, gB_tI, gB_tL]
                · intro i
                  by_cases z : i = d
                  · subst z; rw [if_pos rfl]; simp (disch := omega) only [gI_s, gL_s, gB_s, gI_ne, gL_ne, gB_ne, gI_tL, gI_tB, gL_tI, gL_tB, gB_tI, gB_tL]
                  · rw [if_neg z]; simp (disch := omega) only [gI_s, gL_s, gB_s, gI_ne, gL_ne, gB_ne, gI_tL, gI_tB, gL_tI, gL_tB, gB_tI, gB_tL]
                · intro i
                  rw [gL_s, gL_s, bt_o1 hc, bt_or, bt_or, bt_m (by omega), bt_m (by omega)]
                  simp (disch := omega) only [gI_s, gL_s, gB_s, gI_ne, gL_ne, gB_ne, gI_tL, gI_tB, gL_tI, gL_tB, gB_tI, gB_tL]
                  rw [Bool.or_assoc]
                · intro q' i k
                  refine ⟨?_, ?_, ?_⟩
                  · simp (disch := omega) only [gI_s, gL_s, gB_s, gI_ne, gL_ne, gB_ne, gI_tL, gI_tB, gL_tI, gL_tB, gB_tI, gB_tL]
                  · simp (disch := omega) only [gI_s, gL_s, gB_s, gI_ne, gL_ne, gB_ne, gI_tL, gI_tB, gL_tI, gL_tB, gB_tI, gB_tL]
                  · simp (disch := omega) only [gI_s, gL_s, gB_s, gI_ne, gL_ne, gB_ne, gI_tL, gI_tB, gL_tI, gL_tB, gB_tI, gB_tL]
                · refine ⟨rfl, rfl, by decide, fun z => absurd z (by decide), fun _ => Dd.2.2.2.2.1 hd2, fun z => absurd rfl z⟩
                · unfold wrN
                  simp (disch := omega) only [gI_s, gL_s, gB_s, gI_ne, gL_ne, gB_ne, gI_tL, gI_tB, gL_tI, gL_tB, gB_tI, gB_tL]
                  exact hf3
              · rw [if_neg h3, if_neg h3]; exact six
      · rw [if_neg hk, if_neg hk]
        exact OpOut.of (k := 7) (T2.pf 7) mn an (by omega) gI_s
    · rw [show decide (k2 = 0) = false by simp [h], if_pos (show bI false = 0 from rfl)]
      exact fl k2 _ _ (by omega) T2 gI_s
  · rw [if_neg (show ¬ nI k1 = 0 by rcases hh with rfl | rfl | rfl; exact absurd rfl h; decide; decide), show decide (k1 = 0) = false by simp [h], if_pos (show bI false = 0 from rfl)]
    exact fl k1 _ _ (by omega) T1 gI_s
end

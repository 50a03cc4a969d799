def cd (k : Nat) : Int32 := if k = 11 then -1 else nI k
def OpOut (q j n m a : Nat) (M0 N0 : Mem) (oc : Option (Int32 × Mem)) (on : Option Mem) : Prop := ∃ k M' N' m' a', oc = some (nI k, M') ∧ on = some N' ∧ gI N' 119 78 = cd k ∧ (k ≤ 8 ∨ k = 11) ∧ TF q j n m' a' M0 N0 M' N' ∧ m ≤ m' ∧ m' ≤ n ∧ a ≤ a' ∧ a' ≤ n
theorem OpOut.of {q j n m a k : Nat} {M0 N0 M' N' : Mem} (T : TF q j n m a M0 N0 M' N') (mn : m ≤ n) (an : a ≤ n) (hk : k ≤ 8 ∨ k = 11) (h : gI N' 119 78 = cd k) : OpOut q j n m a M0 N0 (some (nI k, M')) (some N') := ⟨k, M', N', m, a, rfl, rfl, h, hk, T, Nat.le_refl _, mn, Nat.le_refl _, an⟩
theorem sL_self (M : Mem) (q i : Nat) : sL M q i (gL M q i) = M := by
  unfold sL up2 gL
  obtain ⟨a, b, c⟩ := M
  simp only [Prod.mk.injEq, true_and, and_true]
  funext x y
  by_cases h1 : x = q <;> by_cases h2 : y = i <;> simp [h1, h2]
theorem lkN_x (N : Mem) (j c : Nat) : gL (lkN N j c) 119 47 = gL N 119 47 := by
  unfold lkN
  split <;> rfl
theorem lk_op {q j n m a c : Nat} {M0 N0 M N : Mem} (T : TF q j n m a M0 N0 M N) (hj : j < 4) (hc : c < 40) (mn : m ≤ n) (an : a ≤ n) {w : Int32} (hw : w ≠ 0) {f : Mem → Int32} (hf : ∀ N1, gL N1 119 47 = gL N 119 47 → f N1 = nI c)
    {KC : Mem → Int64 → Option (Int32 × Mem)} {KR : Mem → Int64 → Option Mem} (K : ∀ v M1 N1, TF q j n m a M0 N0 M1 N1 → gI N1 119 78 = 0 → OpOut q j n m a M0 N0 (KC M1 v) (KR N1 v)) :
    OpOut q j n m a M0 N0 (Option.bind (f_X0_look q M (nI c) w) fun r => if r.1 = 0 then KC r.2 (gL r.2 (q + 3) c) else some (r.1, r.2)) (Option.bind (f_X9_is N (nI c) w) fun r => if bI r.1 = 0 then some r.2 else Option.bind (f_X9_numberNow r.2 (f r.2)) fun v => KR r.2 v) := by
  rw [lookC hc, is9 T hj hc hw, sb_v, sb_v]
  have T1 := (T.pl hc).pf (nI (lcd (gI M (q + 2) c) w))
  rcases lcd_le (gI M (q + 2) c) w with h | h | h
  · rw [h] at T1 ⊢
    simp only [decide_true, bI_t, i10, if_false]
    rw [if_pos (show nI 0 = 0 from rfl), hf (sI (lkN N j c) 119 78 (nI 0)) (lkN_x N j c), vn9 hj hc T1.t.sl, sb_v, ← (T1.t.ce.c c hc).2.1]
    exact K _ _ _ T1 gI_s
  · rw [h] at T1 ⊢
    rw [if_neg (show ¬ nI 1 = 0 by decide), show decide (1 = 0) = false from rfl, if_pos (show bI false = 0 from rfl)]
    exact OpOut.of T1 mn an (by omega) gI_s
  · rw [h] at T1 ⊢
    rw [if_neg (show ¬ nI 3 = 0 by decide), show decide (3 = 0) = false from rfl, if_pos (show bI false = 0 from rfl)]
    exact OpOut.of T1 mn an (by omega) gI_s
theorem plus_op {q j n m a : Nat} {M0 N0 M N : Mem} (T : TF q j n m a M0 N0 M N) (mn : m ≤ n) (an : a ≤ n) (hf : gI N 119 78 = 0) (v : Int64) : OpOut q j n m a M0 N0 (f_X0_add q M v) (f_X9_plus N v) := by
  unfold f_X0_add f_X9_plus
  rw [adds_eq, sb_v, ← T.t.x]
  simp only [lt_v]
  by_cases h : 0 ≤ ((gL M q 6 ^^^ (gL M q 6 + v)) &&& (v ^^^ (gL M q 6 + v)))
  · rw [if_pos h, decide_eq_true h, if_neg (show ¬ bI true = 0 by decide)]
    exact OpOut.of (k := 0) (T.px rfl) mn an (by omega) hf
  · rw [if_neg h, decide_eq_false h, if_pos (show bI false = 0 by decide)]
    exact OpOut.of (k := 5) (T.pf 5) mn an (by omega) gI_s
theorem i3 {M0 N0 : Mem} {q j n m a : Nat} {oc : Option (Int32 × Mem)} {on : Option Mem} (h : OpOut q j n m a M0 N0 oc on) : OpOut q j n m a M0 N0 (Option.bind oc fun r => some (r.1, r.2)) (Option.bind on fun r => some r) := by
  rw [show (Option.bind oc fun r => some (r.1, r.2)) = oc by cases oc <;> rfl, show (Option.bind on fun r => some r) = on by cases on <;> rfl]
  exact h
theorem act111 (N : Mem) : f_X9_act_111 N (gL N 119 47) = some N := by
  unfold f_X9_act_111
  rw [lt_v, sL_self]
theorem act307 (N : Mem) : f_X9_act_307 N (gL N 119 47) = some N := by
  unfold f_X9_act_307
  rw [lt_v, sL_self]
section
variable {q j n m a : Nat} {M0 N0 M N : Mem}
def rkC (q : Nat) (op : Int32) (M1 : Mem) (v_1 : Int64) : Option (Int32 × Mem) := if op = 3 then (Option.bind (f_X0_add q M1 v_1) fun r_2 => some (r_2.1, r_2.2)) else if op = 6 then (Option.bind (f_X8_faultOfPart (gL M1 q 6) v_1) fun r_3 => if r_3 = 0 then (gd (v_1 != 0) <| f_X0_reckon_96 q M1 r_3 ((gL M1 q 6) / v_1)) else (f_X0_reckon_96 q M1 r_3 (gL M1 q 6))) else if op = 8 then (if v_1 ≤ (gL M1 q 6) then (f_X0_reckon_117 q M1 0) else (f_X0_reckon_117 q M1 1)) else some (0, sL M1 q 6 v_1)
theorem reckC {c : Nat} (hc : c < 40) (op : Int32) : f_X0_reckon q M op (nI c) = Option.bind (f_X0_look q M (nI c) 1) fun r_1 => if r_1.1 = 0 then rkC q op r_1.2 (gL r_1.2 (q + 3) c) else (some (r_1.1, r_1.2)) := by
  unfold f_X0_reckon rkC
  simp only [lt_v, inR_nI hc (by decide), gd_t, nI_clamp (show c < 2 ^ 31 by omega)]
theorem op1 {c : Nat} (T : TF q j n m a M0 N0 M N) (hj : j < 4) (hc : c < 40) (mn : m ≤ n) (an : a ≤ n) (f : Mem → Int32) (hf : ∀ N1, gL N1 119 47 = gL N 119 47 → f N1 = nI c) : OpOut q j n m a M0 N0 (f_X0_reckon q M 1 (nI c)) (Option.bind (f_X9_is N (nI c) 1) fun r => if bI r.1 = 0 then some r.2 else Option.bind (f_X9_numberNow r.2 (f r.2)) fun v => some (sL r.2 119 47 v)) := by
  rw [reckC hc]
  refine lk_op T hj hc mn an (w := 1) (by decide) hf (KC := rkC q 1) (KR := fun N1 v => some (sL N1 119 47 v)) fun v M1 N1 T1 h1 => ?_
  unfold rkC
  repeat (first | rw [if_pos (by decide)] | rw [if_neg (by decide)])
  exact OpOut.of (k := 0) (T1.px rfl) mn an (by omega) h1
theorem op3 {c : Nat} (T : TF q j n m a M0 N0 M N) (hj : j < 4) (hc : c < 40) (mn : m ≤ n) (an : a ≤ n) (a3 : Int32) : OpOut q j n m a M0 N0 (f_X0_doStep q M 3 (nI c) a3) (f_X9_act N 3 (nI c) a3) := by
  unfold f_X0_doStep f_X9_act
  repeat (first | rw [if_pos (by decide)] | rw [if_neg (by decide)])
  rw [show (Option.bind (f_X0_reckon q M 3 (nI c)) fun r => some (r.1, r.2)) = f_X0_reckon q M 3 (nI c) by cases f_X0_reckon q M 3 (nI c) <;> rfl, reckC hc]
  refine lk_op T hj hc mn an (w := 1) (by decide) (f := fun _ => nI c) (fun _ _ => rfl) (KC := rkC q 3) (KR := fun N1 v => Option.bind (f_X9_plus N1 v) fun r_6 => some r_6) fun v M1 N1 T1 h1 => ?_
  unfold rkC
  repeat (first | rw [if_pos (by decide)] | rw [if_neg (by decide)])
  exact i3 (plus_op T1 mn an h1 v)
theorem op6 {c : Nat} (T : TF q j n m a M0 N0 M N) (hj : j < 4) (hc : c < 40) (mn : m ≤ n) (an : a ≤ n) (a3 : Int32) : OpOut q j n m a M0 N0 (f_X0_doStep q M 6 (nI c) a3) (f_X9_act N 6 (nI c) a3) := by
  unfold f_X0_doStep f_X9_act
  repeat (first | rw [if_pos (by decide)] | rw [if_neg (by decide)])
  refine i3 ?_
  unfold f_X9_part
  rw [reckC hc]
  refine lk_op T hj hc mn an (w := 1) (by decide) (f := fun _ => nI c) (fun _ _ => rfl) (KC := rkC q 6) (KR := fun N1 v => if v = 0 then (lt (sI N1 119 78 4) fun M_2 => some M_2) else (if (gL N1 119 47) = (-9223372036854775808) then (if v = (-1) then (lt (sI N1 119 78 5) fun M_1 => some M_1) else (f_X9_part_57 N1 v)) else (f_X9_part_57 N1 v))) fun v M1 N1 T1 h1 => ?_
  unfold rkC
  repeat (first | rw [if_pos (by decide)] | rw [if_neg (by decide)])
  unfold f_X8_faultOfPart f_X0_reckon_96 f_X9_part_57
  simp only [lt_v]
  rw [← T1.t.x]
  by_cases h0 : v = 0
  · simp only [if_pos h0, sb_v]
    repeat (first | rw [if_pos (by decide)] | rw [if_neg (by decide)])
    rw [sL_self]
    exact OpOut.of (k := 4) (T1.pf 4) mn an (by omega) gI_s
  · have hg : (v != 0) = true := by simp [h0]
    simp only [if_neg h0, hg, gd_t]
    by_cases h2 : gL M1 q 6 = -9223372036854775808
    · by_cases h3 : v = -1
      · simp only [if_pos h2, if_pos h3, sb_v]
        repeat (first | rw [if_pos (by decide)] | rw [if_neg (by decide)])
        rw [sL_self]
        exact OpOut.of (k := 5) (T1.pf 5) mn an (by omega) gI_s
      · simp only [if_pos h2, if_neg h3, sb_v]
        repeat (first | rw [if_pos (by decide)] | rw [if_neg (by decide)])
        exact OpOut.of (k := 0) (T1.px rfl) mn an (by omega) h1
    · simp only [if_neg h2, sb_v]
      repeat (first | rw [if_pos (by decide)] | rw [if_neg (by decide)])
      exact OpOut.of (k := 0) (T1.px rfl) mn an (by omega) h1
theorem op8 {c : Nat} (T : TF q j n m a M0 N0 M N) (hj : j < 4) (hc : c < 40) (mn : m ≤ n) (an : a ≤ n) (a3 : Int32) : OpOut q j n m a M0 N0 (f_X0_doStep q M 8 (nI c) a3) (f_X9_act N 8 (nI c) a3) := by
  unfold f_X0_doStep f_X9_act
  repeat (first | rw [if_pos (by decide)] | rw [if_neg (by decide)])
  rw [show (Option.bind (f_X0_reckon q M 8 (nI c)) fun r => some (r.1, r.2)) = f_X0_reckon q M 8 (nI c) by cases f_X0_reckon q M 8 (nI c) <;> rfl, reckC hc]
  refine lk_op T hj hc mn an (w := 1) (by decide) (f := fun _ => nI c) (fun _ _ => rfl) (KC := rkC q 8) (KR := fun N1 v => if v ≤ (gL N1 119 47) then (f_X9_act_279 N1 0) else (f_X9_act_279 N1 1)) fun v M1 N1 T1 h1 => ?_
  unfold rkC
  repeat (first | rw [if_pos (by decide)] | rw [if_neg (by decide)])
  unfold f_X0_reckon_117 f_X9_act_279
  simp only [lt_v]
  rw [← T1.t.x]
  by_cases h : v ≤ gL M1 q 6
  · rw [if_pos h, if_pos h]
    exact OpOut.of (k := 0) (T1.px rfl) mn an (by omega) h1
  · rw [if_neg h, if_neg h]
    exact OpOut.of (k := 0) (T1.px rfl) mn an (by omega) h1
theorem op9 {c : Nat} (T : TF q j n m a M0 N0 M N) (hj : j < 4) (hc : c < 40) (mn : m ≤ n) (an : a ≤ n) (a3 : Int32) : OpOut q j n m a M0 N0 (f_X0_doStep q M 9 (nI c) a3) (f_X9_act N 9 (nI c) a3) := by
  unfold f_X0_doStep f_X9_act
  repeat (first | rw [if_pos (by decide)] | rw [if_neg (by decide)])
  simp only [act307]
  rw [show (Option.bind (f_X0_weigh q M (nI c)) fun r => some (r.1, r.2)) = f_X0_weigh q M (nI c) by cases f_X0_weigh q M (nI c) <;> rfl]
  unfold f_X0_weigh
  simp only [lt_v, inR_nI hc (by decide), gd_t, nI_clamp (show c < 2 ^ 31 by omega)]
  have e : (Option.bind (f_X0_look q M (nI c) 2) fun r_1 => if r_1.1 = 0 then some (r_1.1, sL r_1.2 q 6 (gL r_1.2 (q + 1 + 2) c)) else some (r_1.1, r_1.2)) = Option.bind (f_X0_look q M (nI c) 2) fun r_1 => if r_1.1 = 0 then (fun M1 v => some (0, sL M1 q 6 v)) r_1.2 (gL r_1.2 (q + 3) c) else some (r_1.1, r_1.2) := by
    congr 1
    funext r
    by_cases h : r.1 = 0
    · rw [if_pos h, if_pos h, h]
    · rw [if_neg h, if_neg h]
  rw [e]
  refine lk_op T hj hc mn an (w := 2) (by decide) (f := fun _ => nI c) (fun _ _ => rfl) (KC := fun M1 v => some (0, sL M1 q 6 v)) (KR := fun N1 v => f_X9_act_307 N1 v) fun v M1 N1 T1 h1 => ?_
  exact OpOut.of (k := 0) (T1.px rfl) mn an (by omega) h1
theorem op7 (T : TF q j n m a M0 N0 M N) (hj : j < 4) (hf : gI N 119 78 = 0) (mn : m ≤ n) (an : a ≤ n) (a2 a3 : Int32) : OpOut q j n m a M0 N0 (f_X0_doStep q M 7 a2 a3) (f_X9_act N 7 a2 a3) := by
  unfold f_X0_doStep f_X9_act
  repeat (first | rw [if_pos (by decide)] | rw [if_neg (by decide)])
  rw [← T.t.x]
  rcases cellL (gL M q 6) with ⟨h1, h2⟩ | ⟨c, hc, h0, h1, h2⟩
  · rw [h1, h2, sb_v, sb_v, if_pos bI_f, if_pos bI_f]
    exact OpOut.of (k := 2) (T.pf 2) mn an (by omega) gI_s
  · rw [h1, h2, sb_v, sb_v, bI_t, if_neg (by decide), if_neg (by decide), h0]
    rw [show (Option.bind (f_X0_reckon q M 1 (nI c)) fun r => some (r.1, r.2)) = f_X0_reckon q M 1 (nI c) by cases f_X0_reckon q M 1 (nI c) <;> rfl]
    exact op1 T hj hc mn an (fun N1 => Int64.toInt32 (gL N1 119 47)) (fun N1 h => by rw [h, ← T.t.x, h0])
theorem op12 (T : TF q j n m a M0 N0 M N) (hj : j < 4) (hf : gI N 119 78 = 0) (mn : m < n) (an : a ≤ n) (n40 : n ≤ 40) (a2 a3 : Int32) : OpOut q j n m a M0 N0 (f_X0_doStep q M 12 a2 a3) (f_X9_act N 12 a2 a3) := by
  unfold f_X0_doStep f_X9_act
  repeat (first | rw [if_pos (by decide)] | rw [if_neg (by decide)])
  rw [show (Option.bind (f_X0_say q M) fun r => some (r.1, r.2)) = f_X0_say q M by cases f_X0_say q M <;> rfl]
  unfold f_X0_say f_X9_act_371
  simp only [lt_v, T.t.sl, inR_nI hj (by decide), gd_t, nI_clamp (show j < 2 ^ 31 by omega), gI_sL, T.t.sa, T.t.sa']
  by_cases h : m < 8
  · have h8 : min m 8 = m := by omega
    rw [h8, if_neg (show ¬ (8 : Int32) ≤ nI m from nI_ge (b := 8) h (by decide)), if_neg (show ¬ (8 : Int32) ≤ nI m from nI_ge (b := 8) h (by decide)), mx (K := 8) 8 j m rfl, inR_nI h (by decide), inR_nI (show 8 * j + m < 32 by omega) (by decide), gd_t, gd_t, nI_clamp (show m < 2 ^ 31 by omega), nI_clamp (show 8 * j + m < 2 ^ 31 by omega), nI_1]
    refine ⟨0, _, _, m + 1, a, rfl, rfl, ?_, by omega, ⟨⟨?_, ?_, ?_, ?_, ?_, ?_, ?_, ?_, ?_, ?_, ?_, ?_, ?_, ?_⟩, (T.k.tL (by unfold KS; omega)).tI (by unfold KS; omega), (T.k'.tL (by unfold KN; omega)).tI (by unfold KN; omega)⟩, by omega, by omega, by omega, by omega⟩
    · simp (disch := omega) only [gI_s, gL_s, gB_s, gI_ne, gL_ne, gB_ne, gI_tL, gI_tB, gL_tI, gL_tB, gB_tI, gB_tL]; exact hf
    · simp (disch := omega) only [gI_s, gL_s, gB_s, gI_ne, gL_ne, gB_ne, gI_tL, gI_tB, gL_tI, gL_tB, gB_tI, gB_tL]; exact T.t.sl
    · simp (disch := omega) only [gI_s, gL_s, gB_s, gI_ne, gL_ne, gB_ne, gI_tL, gI_tB, gL_tI, gL_tB, gB_tI, gB_tL]; exact T.t.x
    · rw [show gL (sI (sL M (q + 8) m (gL M q 6)) q 13 (nI (m + 1))) q 8 = gL M q 8 by simp (disch := omega) only [gI_s, gL_s, gB_s, gI_ne, gL_ne, gB_ne, gI_tL, gI_tB, gL_tI, gL_tB, gB_tI, gB_tL]]
      exact T.t.ce.ag (P := fun q' i => q' < q + 8 ∧ q ≠ q') (Q := fun q' i => q' < 170) ((Ag.rf.tL (by omega)).tI (by omega)) ((Ag.rf.tL (by omega)).tI (by omega)) (fun q i k => by unfold pcC at k; omega) (fun q i k => by unfold pcD at k; omega)
    · intro c
      rw [show gL (sI (sL M (q + 8) m (gL M q 6)) q 13 (nI (m + 1))) q 7 = gL M q 7 by simp (disch := omega) only [gI_s, gL_s, gB_s, gI_ne, gL_ne, gB_ne, gI_tL, gI_tB, gL_tI, gL_tB, gB_tI, gB_tL]]
      exact T.t.rd c
    · exact T.t.rv
    · simp (disch := omega) only [gI_s, gL_s, gB_s, gI_ne, gL_ne, gB_ne, gI_tL, gI_tB, gL_tI, gL_tB, gB_tI, gB_tL]; exact T.t.st
    · simp (disch := omega) only [gI_s, gL_s, gB_s, gI_ne, gL_ne, gB_ne, gI_tL, gI_tB, gL_tI, gL_tB, gB_tI, gB_tL]; exact T.t.st'
    · simp (disch := omega) only [gI_s, gL_s, gB_s, gI_ne, gL_ne, gB_ne, gI_tL, gI_tB, gL_tI, gL_tB, gB_tI, gB_tL]
      rw [show min (m + 1) 8 = m + 1 by omega]
    · simp (disch := omega) only [gI_s, gL_s, gB_s, gI_ne, gL_ne, gB_ne, gI_tL, gI_tB, gL_tI, gL_tB, gB_tI, gB_tL]
    · intro i h1 h2
      by_cases z : i = m
      · subst z
        simp (disch := omega) only [gI_s, gL_s, gB_s, gI_ne, gL_ne, gB_ne, gI_tL, gI_tB, gL_tI, gL_tB, gB_tI, gB_tL]
        exact T.t.x
      · simp (disch := omega) only [gI_s, gL_s, gB_s, gI_ne, gL_ne, gB_ne, gI_tL, gI_tB, gL_tI, gL_tB, gB_tI, gB_tL]
        exact T.t.sv i (by omega) h2
    · simp (disch := omega) only [gI_s, gL_s, gB_s, gI_ne, gL_ne, gB_ne, gI_tL, gI_tB, gL_tI, gL_tB, gB_tI, gB_tL]; exact T.t.ac
    · simp (disch := omega) only [gI_s, gL_s, gB_s, gI_ne, gL_ne, gB_ne, gI_tL, gI_tB, gL_tI, gL_tB, gB_tI, gB_tL]; exact T.t.ac'
    · intro i h1 h2
      have := T.t.ab i h1 h2
      rw [show gL (sI (sL M (q + 8) m (gL M q 6)) q 13 (nI (m + 1))) (q + 11) i = gL M (q + 11) i by simp (disch := omega) only [gI_s, gL_s, gB_s, gI_ne, gL_ne, gB_ne, gI_tL, gI_tB, gL_tI, gL_tB, gB_tI, gB_tL], show gI (sI (sL M (q + 8) m (gL M q 6)) q 13 (nI (m + 1))) (q + 9) i = gI M (q + 9) i by simp (disch := omega) only [gI_s, gL_s, gB_s, gI_ne, gL_ne, gB_ne, gI_tL, gI_tB, gL_tI, gL_tB, gB_tI, gB_tL], show gI (sI (sL M (q + 8) m (gL M q 6)) q 13 (nI (m + 1))) (q + 10) i = gI M (q + 10) i by simp (disch := omega) only [gI_s, gL_s, gB_s, gI_ne, gL_ne, gB_ne, gI_tL, gI_tB, gL_tI, gL_tB, gB_tI, gB_tL]]
      simp (disch := omega) only [gI_s, gL_s, gB_s, gI_ne, gL_ne, gB_ne, gI_tL, gI_tB, gL_tI, gL_tB, gB_tI, gB_tL]
      exact this
    · simp (disch := omega) only [gI_s, gL_s, gB_s, gI_ne, gL_ne, gB_ne, gI_tL, gI_tB, gL_tI, gL_tB, gB_tI, gB_tL]; exact T.t.to
  · have h8 : min m 8 = 8 := by omega
    have h9 : min (m + 1) 8 = 8 := by omega
    rw [h8, if_pos (show (8 : Int32) ≤ nI 8 by decide), if_pos (show (8 : Int32) ≤ nI m from nI_le (a := 8) (by omega) (by omega)), nI_1]
    refine ⟨0, M, _, m + 1, a, rfl, rfl, ?_, by omega, ⟨⟨?_, ?_, ?_, ?_, ?_, ?_, ?_, ?_, ?_, ?_, ?_, ?_, ?_, ?_⟩, T.k, T.k'.tI (by unfold KN; omega)⟩, by omega, by omega, by omega, by omega⟩
    · simp (disch := omega) only [gI_s, gL_s, gB_s, gI_ne, gL_ne, gB_ne, gI_tL, gI_tB, gL_tI, gL_tB, gB_tI, gB_tL]; exact hf
    · simp (disch := omega) only [gI_s, gL_s, gB_s, gI_ne, gL_ne, gB_ne, gI_tL, gI_tB, gL_tI, gL_tB, gB_tI, gB_tL]; exact T.t.sl
    · simp (disch := omega) only [gI_s, gL_s, gB_s, gI_ne, gL_ne, gB_ne, gI_tL, gI_tB, gL_tI, gL_tB, gB_tI, gB_tL]; exact T.t.x
    · exact T.t.ce.ag (P := fun q' i => True) (Q := fun q' i => q' < 170) Ag.rf (Ag.rf.tI (by omega)) (fun q i k => trivial) (fun q i k => by unfold pcD at k; omega)
    · exact T.t.rd
    · exact T.t.rv
    · exact T.t.st
    · simp (disch := omega) only [gI_s, gL_s, gB_s, gI_ne, gL_ne, gB_ne, gI_tL, gI_tB, gL_tI, gL_tB, gB_tI, gB_tL]; exact T.t.st'
    · rw [h9, T.t.sa, h8]
    · simp (disch := omega) only [gI_s, gL_s, gB_s, gI_ne, gL_ne, gB_ne, gI_tL, gI_tB, gL_tI, gL_tB, gB_tI, gB_tL]
    · intro i h1 h2
      simp (disch := omega) only [gI_s, gL_s, gB_s, gI_ne, gL_ne, gB_ne, gI_tL, gI_tB, gL_tI, gL_tB, gB_tI, gB_tL]
      exact T.t.sv i (by omega) h2
    · exact T.t.ac
    · simp (disch := omega) only [gI_s, gL_s, gB_s, gI_ne, gL_ne, gB_ne, gI_tL, gI_tB, gL_tI, gL_tB, gB_tI, gB_tL]; exact T.t.ac'
    · intro i h1 h2
      simp (disch := omega) only [gI_s, gL_s, gB_s, gI_ne, gL_ne, gB_ne, gI_tL, gI_tB, gL_tI, gL_tB, gB_tI, gB_tL]
      exact T.t.ab i h1 h2
    · simp (disch := omega) only [gI_s, gL_s, gB_s, gI_ne, gL_ne, gB_ne, gI_tL, gI_tB, gL_tI, gL_tB, gB_tI, gB_tL]; exact T.t.to
theorem op19 (T : TF q j n m a M0 N0 M N) (hj : j < 4) (hf : gI N 119 78 = 0) (mn : m ≤ n) (an : a < n) (n40 : n ≤ 40) (a2 a3 : Int32) (hok : okA a2 a3) : OpOut q j n m a M0 N0 (f_X0_doStep q M 19 a2 a3) (f_X9_act N 19 a2 a3) := by
  unfold f_X0_doStep f_X9_act
  repeat (first | rw [if_pos (by decide)] | rw [if_neg (by decide)])
  rw [show (Option.bind (f_X0_putOff q M a2 a3) fun r => some (r.1, r.2)) = f_X0_putOff q M a2 a3 by cases f_X0_putOff q M a2 a3 <;> rfl]
  unfold f_X0_putOff
  have z1 : ∀ u, gI (sI M (q + 9) u a2) q 15 = gI M q 15 := fun u => by simp (disch := omega) only [gI_s, gL_s, gB_s, gI_ne, gL_ne, gB_ne, gI_tL, gI_tB, gL_tI, gL_tB, gB_tI, gB_tL]
  have z2 : ∀ u u', gI (sI (sI M (q + 9) u a2) (q + 10) u' a3) q 15 = gI M q 15 := fun u u' => by simp (disch := omega) only [gI_s, gL_s, gB_s, gI_ne, gL_ne, gB_ne, gI_tL, gI_tB, gL_tI, gL_tB, gB_tI, gB_tL]
  have z3 : ∀ u u', gL (sI (sI M (q + 9) u a2) (q + 10) u' a3) q 6 = gL M q 6 := fun u u' => rfl
  have z4 : ∀ u u' u'' v, gI (sL (sI (sI M (q + 9) u a2) (q + 10) u' a3) (q + 11) u'' v) q 15 = gI M q 15 := fun u u' u'' v => by simp (disch := omega) only [gI_s, gL_s, gB_s, gI_ne, gL_ne, gB_ne, gI_tL, gI_tB, gL_tI, gL_tB, gB_tI, gB_tL]
  simp only [lt_v, T.t.sl, inR_nI hj (by decide), gd_t, nI_clamp (show j < 2 ^ 31 by omega), gI_sL, T.t.ac', z1, z2, z3, z4, T.t.ac]
  rw [if_neg (show ¬ (40 : Int32) ≤ nI a from nI_ge (b := 40) (by omega) (by decide)), mx (K := 40) 40 j a rfl, inR_nI (show a < 40 by omega) (by decide), inR_nI (show 40 * j + a < 160 by omega) (by decide)]
  have y1 : ∀ u u' v v', gI (sI (sI N 173 u v) 174 u' v') 119 46 = gI N 119 46 := fun u u' v v' => by simp (disch := omega) only [gI_s, gL_s, gB_s, gI_ne, gL_ne, gB_ne, gI_tL, gI_tB, gL_tI, gL_tB, gB_tI, gB_tL]
  have y2 : ∀ u u' v v', gI (sI (sI N 173 u v) 174 u' v') 172 j = gI N 172 j := fun u u' v v' => by simp (disch := omega) only [gI_s, gL_s, gB_s, gI_ne, gL_ne, gB_ne, gI_tL, gI_tB, gL_tI, gL_tB, gB_tI, gB_tL]
  have y3 : ∀ u u' v v', gL (sI (sI N 173 u v) 174 u' v') 119 47 = gL N 119 47 := fun u u' v v' => by simp (disch := omega) only [gI_s, gL_s, gB_s, gI_ne, gL_ne, gB_ne, gI_tL, gI_tB, gL_tI, gL_tB, gB_tI, gB_tL]
  simp only [gd_t, nI_clamp (show a < 2 ^ 31 by omega), nI_clamp (show 40 * j + a < 2 ^ 31 by omega), y1, y2, y3, T.t.sl, inR_nI hj (by decide), nI_clamp (show j < 2 ^ 31 by omega), T.t.ac', nI_1]
  have A : Ag (fun q' i => (q' < q + 9 ∨ q + 11 < q') ∧ ¬ (q' = q ∧ i = 15)) M (sI (sL (sI (sI M (q + 9) a a2) (q + 10) a a3) (q + 11) a (gL M q 6)) q 15 (nI (a + 1))) := (((Ag.rf.tI (by omega)).tI (by omega)).tL (by omega)).tI (by omega)
  have B : Ag (fun q' i => (q' < 172 ∨ 175 < q')) N (sI (sL (sI (sI N 173 (40 * j + a) a2) 174 (40 * j + a) a3) 175 (40 * j + a) (gL N 119 47)) 172 j (nI (a + 1))) := (((Ag.rf.tI (by omega)).tI (by omega)).tL (by omega)).tI (by omega)
  refine ⟨0, _, _, m, a + 1, rfl, rfl, ?_, by omega, ⟨⟨?_, ?_, ?_, ?_, ?_, ?_, ?_, ?_, ?_, ?_, ?_, ?_, ?_, ?_⟩, ?_, ?_⟩, by omega, by omega, by omega, by omega⟩
  · rw [B.i (by omega)]; exact hf
  · rw [B.i (by omega)]; exact T.t.sl
  · rw [A.l (by omega), B.l (by omega)]; exact T.t.x
  · rw [A.l (by omega)]
    exact T.t.ce.ag A B (fun q i k => by unfold pcC at k; omega) (fun q i k => by unfold pcD at k; omega)
  · intro c
    rw [A.l (by omega), B.b (by omega)]
    exact T.t.rd c
  · intro c h1 h2
    rw [B.b (by omega)] at h2
    rw [B.i (by omega), B.i (by omega)]
    exact T.t.rv c h1 h2
  · rw [A.i (by omega)]; exact T.t.st
  · rw [B.i (by omega)]; exact T.t.st'
  · rw [A.i (by omega)]; exact T.t.sa
  · rw [B.i (by omega)]; exact T.t.sa'
  · intro i h1 h2
    rw [A.l (by omega), B.l (by omega)]
    exact T.t.sv i h1 h2
  · simp (disch := omega) only [gI_s, gL_s, gB_s, gI_ne, gL_ne, gB_ne, gI_tL, gI_tB, gL_tI, gL_tB, gB_tI, gB_tL]
  · simp (disch := omega) only [gI_s, gL_s, gB_s, gI_ne, gL_ne, gB_ne, gI_tL, gI_tB, gL_tI, gL_tB, gB_tI, gB_tL]
  · intro i h1 h2
    by_cases z : i = a
    · subst z
      simp (disch := omega) only [gI_s, gL_s, gB_s, gI_ne, gL_ne, gB_ne, gI_tL, gI_tB, gL_tI, gL_tB, gB_tI, gB_tL]
      exact ⟨hok, trivial, trivial, T.t.x⟩
    · simp (disch := omega) only [gI_s, gL_s, gB_s, gI_ne, gL_ne, gB_ne, gI_tL, gI_tB, gL_tI, gL_tB, gB_tI, gB_tL]
      exact T.t.ab i (by omega) h2
  · rw [A.i (by omega), B.i (by omega)]; exact T.t.to
  · exact T.k.tr (A.mo (fun q' i z => by unfold KS at z; omega))
  · refine T.k'.tr ?_
    exact (((Ag.rf.tI (by unfold KN; omega)).tI (by unfold KN; omega)).tL (by unfold KN; omega)).tI (by unfold KN; omega)
end

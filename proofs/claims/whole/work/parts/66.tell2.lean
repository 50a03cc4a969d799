theorem cntD_iff {M M' : Mem} : ∀ n, (∀ i, i < n → (gI M' 138 i = 1 ↔ gI M 138 i = 1)) → cntD M' n = cntD M n
  | 0, _ => rfl
  | n + 1, k => by
    show cntD M' n + _ = cntD M n + _
    rw [cntD_iff n (fun i hi => k i (by omega))]
    simp only [k n (by omega)]
theorem gL_of {M N : Mem} (h : N.2 = M.2) (q i : Nat) : gL N q i = gL M q i := by unfold gL; rw [h]
theorem gB_of {M N : Mem} (h : N.2 = M.2) (q i : Nat) : gB N q i = gB M q i := by unfold gB; rw [h]
theorem RT1.big {M : Mem} {t : Nat} (h : RT1 M t) : ∀ c, 40 ≤ c → bt (gL M (189 + 4 * t) 11) c = false := by
  intro c hc
  obtain ⟨-, -, -, -, -, -, -, -, -, ⟨-, r2, r3⟩, -⟩ := h
  cases hh : gB M 148 t with
  | false => rw [(r3 hh).1, bt_0]
  | true =>
    have := (r2 hh).2.2.2 c
    unfold bt
    rw [this]
    simp
    omega
theorem RTry.at {M M' : Mem} {t : Nat} (h : RTry M t) (k0 : ∀ i, i ∈ [9, 10, 12, 13] → gI M' (189 + 4 * t) i = gI M (189 + 4 * t) i) (k1 : ∀ q, q ∈ [149, 150, 152] → gI M' q t = gI M q t) (k2 : ∀ q i, q ∈ [153, 154] → gI M' q i = gI M q i) (k3 : ∀ j i, 1 ≤ j → j ≤ 2 → gI M' (189 + 4 * t + j) i = gI M (189 + 4 * t + j) i) (l0 : gL M' (189 + 4 * t) 11 = gL M (189 + 4 * t) 11) (b1 : gB M' 148 t = gB M 148 t) (b2 : ∀ i, gB M' 151 i = gB M 151 i) : RTry M' t := by
  unfold RTry at h ⊢
  simp only [k0 9 (by decide), k0 10 (by decide), k0 12 (by decide), k0 13 (by decide), l0, k3 1 _ (by decide) (by decide), k3 2 _ (by decide) (by decide), k2 153 _ (by decide), k2 154 _ (by decide), k1 149 (by decide), k1 150 (by decide), k1 152 (by decide), b1, b2]
  exact h
theorem tell_rel {nT : Nat} {M : Mem} (hR : Rel nT M) {c : Nat} (hc : c < 40) {w kc gc kr gr : Int32} {v : Int64} (w1 : w = 0 ∨ w = 1 ∨ w = 2) (w2 : w = 0 → v = 0) (w3 : w = 2 → kc = kr ∧ gc = gr) (w4 : w ≠ 2 → kc = -1 ∧ gc = -1) :
    ∃ r M1 M2, (Option.bind (f_X1_put 2 M (nI c) w v kc gc) fun r_2 => Option.bind (f_X8_tellAnew nT r_2 (nI c)) fun r_3 => some (r_3.1, r_3.2)) = some (r, M1) ∧ (Option.bind (f_X9_tells M1 (nI c) w v kr gr) fun r_2 => some (r_2.1, r_2.2)) = some (r, M2) ∧ Rel nT M2 := by
  obtain ⟨e, hC, hV, hH, hTr, hRu, hN, ⟨k1, k2, k3, k4, k5⟩, hMi⟩ := hR
  have hcl := nI_clamp (show c < 2 ^ 31 by omega)
  have hin := inR_nI hc (by decide)
  obtain ⟨Mt, hMt⟩ : ∃ Mt, Mt = sI (sI (sI (sI (sL (sI M 3 c w) 4 c v) 5 c kc) 6 c gc) 7 c (gI M 7 c + 1)) 8 c (-1) := ⟨_, rfl⟩
  have tI : ∀ q i, q ∉ [3, 5, 6, 7, 8] → gI Mt q i = gI M q i := fun q i hq => by
    simp only [List.mem_cons, List.not_mem_nil, or_false, not_or] at hq
    rw [hMt, gI_q hq.2.2.2.2, gI_q hq.2.2.2.1, gI_q hq.2.2.1, gI_q hq.2.1, gI_sL, gI_q hq.1]
  have tL : ∀ q i, q ≠ 4 → gL Mt q i = gL M q i := fun q i hq => by
    rw [hMt, gL_sI, gL_sI, gL_sI, gL_sI, gL_q hq, gL_sI]
  obtain ⟨M1, e1, e2, e3, e4⟩ := wake_eq k1 (ch := 1 <<< (Int32.toInt64 (nI c) &&& 63)) (by_ := -1) (M := Mt) (by rw [tI 0 8 (by decide)]; exact k2) (fun t ht c' hc' => by rw [tL _ _ (by omega)]; exact (k4 t ht).big c' hc')
  have c1 : ∀ q i, q < 189 → gI M1 q i = gI Mt q i := fun q i hq => e3 q i (fun t ht => by omega)
  obtain ⟨Mr, hMr⟩ : ∃ Mr, Mr = sI (sI (sI (sI (sL (sI M1 120 c w) 121 c v) 122 c kr) 123 c gr) 124 c (gI M1 124 c + 1)) 125 c (-1) := ⟨_, rfl⟩
  have rI : ∀ q i, q ∉ [120, 122, 123, 124, 125] → gI Mr q i = gI M1 q i := fun q i hq => by
    simp only [List.mem_cons, List.not_mem_nil, or_false, not_or] at hq
    rw [hMr, gI_q hq.2.2.2.2, gI_q hq.2.2.2.1, gI_q hq.2.2.1, gI_q hq.2.1, gI_sL, gI_q hq.1]
  have rL : ∀ q i, q ≠ 121 → gL Mr q i = gL M1 q i := fun q i hq => by
    rw [hMr, gL_sI, gL_sI, gL_sI, gL_sI, gL_q hq, gL_sI]
  obtain ⟨M2, d1, d2, d3, d4⟩ := tells_lp k1 hc nT 0 FU Mr (by omega) (by unfold FU; omega) (by rw [rI 119 18 (by decide), c1 119 18 (by decide), tI 119 18 (by decide)]; exact k3)
  have x1 : ∀ q i, q ∉ [138, 144, 145] → gI M2 q i = gI Mr q i := fun q i hq => d3 q i (fun z => hq z.1)
  -- ints behind both, in terms of M
  have oI : ∀ q i, q < 189 → q ∉ [3, 5, 6, 7, 8, 120, 122, 123, 124, 125, 138, 144, 145] → gI M2 q i = gI M q i := fun q i h1 h2 => by
    simp only [List.mem_cons, List.not_mem_nil, or_false, not_or] at h2
    rw [x1 q i (by simp only [List.mem_cons, List.not_mem_nil, or_false, not_or]; omega), rI q i (by simp only [List.mem_cons, List.not_mem_nil, or_false, not_or]; omega), c1 q i h1, tI q i (by simp only [List.mem_cons, List.not_mem_nil, or_false, not_or]; omega)]
  have oL : ∀ q i, q ≠ 4 → q ≠ 121 → gL M2 q i = gL M q i := fun q i h1 h2 => by
    rw [gL_of d2, rL q i h2, gL_of e2, tL q i h1]
  have oB : ∀ q i, gB M2 q i = gB M q i := fun q i => by
    rw [gB_of d2, hMr]
    show gB M1 q i = _
    rw [gB_of e2, hMt]
    rfl
  have y3 : ∀ i, gI M2 3 i = if i = c then w else gI M 3 i := fun i => by
    rw [x1 3 i (by decide), rI 3 i (by decide), c1 3 i (by decide), hMt, gI_q (by decide), gI_q (by decide), gI_q (by decide), gI_q (by decide), gI_sL, gI_x]
  have y5 : ∀ i, gI M2 5 i = if i = c then kc else gI M 5 i := fun i => by
    rw [x1 5 i (by decide), rI 5 i (by decide), c1 5 i (by decide), hMt, gI_q (by decide), gI_q (by decide), gI_q (by decide), gI_x, gI_sL, gI_q (by decide)]
  have y6 : ∀ i, gI M2 6 i = if i = c then gc else gI M 6 i := fun i => by
    rw [x1 6 i (by decide), rI 6 i (by decide), c1 6 i (by decide), hMt, gI_q (by decide), gI_q (by decide), gI_x, gI_q (by decide), gI_sL, gI_q (by decide)]
  have y7 : ∀ i, gI M2 7 i = if i = c then gI M 7 c + 1 else gI M 7 i := fun i => by
    rw [x1 7 i (by decide), rI 7 i (by decide), c1 7 i (by decide), hMt, gI_q (by decide), gI_x, gI_q (by decide), gI_q (by decide), gI_sL, gI_q (by decide)]
  have y8 : ∀ i, gI M2 8 i = if i = c then -1 else gI M 8 i := fun i => by
    rw [x1 8 i (by decide), rI 8 i (by decide), c1 8 i (by decide), hMt, gI_x, gI_q (by decide), gI_q (by decide), gI_q (by decide), gI_sL, gI_q (by decide)]
  have y4 : ∀ i, gL M2 4 i = if i = c then v else gL M 4 i := fun i => by
    rw [gL_of d2, rL 4 i (by decide), gL_of e2, hMt, gL_sI, gL_sI, gL_sI, gL_sI, gL_x, gL_sI]
  have y120 : ∀ i, gI M2 120 i = if i = c then w else gI M 120 i := fun i => by
    rw [x1 120 i (by decide), hMr, gI_q (by decide), gI_q (by decide), gI_q (by decide), gI_q (by decide), gI_sL, gI_x, c1 120 i (by decide), tI 120 i (by decide)]
  have y122 : ∀ i, gI M2 122 i = if i = c then kr else gI M 122 i := fun i => by
    rw [x1 122 i (by decide), hMr, gI_q (by decide), gI_q (by decide), gI_q (by decide), gI_x, gI_sL, gI_q (by decide), c1 122 i (by decide), tI 122 i (by decide)]
  have y123 : ∀ i, gI M2 123 i = if i = c then gr else gI M 123 i := fun i => by
    rw [x1 123 i (by decide), hMr, gI_q (by decide), gI_q (by decide), gI_x, gI_q (by decide), gI_sL, gI_q (by decide), c1 123 i (by decide), tI 123 i (by decide)]
  have y124 : ∀ i, gI M2 124 i = if i = c then gI M 124 c + 1 else gI M 124 i := fun i => by
    rw [x1 124 i (by decide), hMr, gI_q (by decide), gI_x, gI_q (by decide), gI_q (by decide), gI_sL, gI_q (by decide), c1 124 i (by decide), c1 124 c (by decide), tI 124 i (by decide), tI 124 c (by decide)]
  have y125 : ∀ i, gI M2 125 i = if i = c then -1 else gI M 125 i := fun i => by
    rw [x1 125 i (by decide), hMr, gI_x, gI_q (by decide), gI_q (by decide), gI_q (by decide), gI_sL, gI_q (by decide), c1 125 i (by decide), tI 125 i (by decide)]
  have y121 : ∀ i, gL M2 121 i = if i = c then v else gL M 121 i := fun i => by
    rw [gL_of d2, hMr, gL_sI, gL_sI, gL_sI, gL_sI, gL_x, gL_sI, gL_of e2, tL 121 i (by decide)]
  have mem : ∀ (l : List Nat) (q : Nat), q ∈ l → (∀ x ∈ l, x < 189 ∧ x ∉ [3, 5, 6, 7, 8, 120, 122, 123, 124, 125, 138, 144, 145]) → ∀ i, gI M2 q i = gI M q i := fun l q hq hl i => oI q i (hl q hq).1 (hl q hq).2
  have memL : ∀ (l : List Nat) (q : Nat), q ∈ l → (∀ x ∈ l, x ≠ 4 ∧ x ≠ 121) → ∀ i, gL M2 q i = gL M q i := fun l q hq hl i => oL q i (hl q hq).1 (hl q hq).2
  -- the woken ones are the same
  have eqv : ∀ t, t < nT → wkC Mt (1 <<< (Int32.toInt64 (nI c) &&& 63)) t = wk9 Mr c t ∧ (wk9 Mr c t = true → lo (gL Mt (189 + 4 * t) 11 &&& (1 <<< (Int32.toInt64 (nI c) &&& 63))) = nI c) ∧ (wk9 Mr c t = true → gI M 138 t = 3) := by
    intro t ht
    obtain ⟨-, ⟨s, -, s1, s2⟩, -, -, -, -, -, -, -, ⟨r1, r2, r3⟩, hw3, -⟩ := k4 t ht
    have a1 : gI Mt (189 + 4 * t) 1 = nI s := by rw [tI _ _ (by simp only [List.mem_cons, List.not_mem_nil, or_false, not_or]; omega)]; exact s1
    have a2 : gL Mt (189 + 4 * t) 11 = gL M (189 + 4 * t) 11 := tL _ _ (by omega)
    have a3 : gI Mr 138 t = nI s := by rw [rI 138 t (by decide), c1 138 t (by decide), tI 138 t (by decide)]; exact s2
    have a4 : gB Mr 151 (40 * t + c) = gB M 151 (40 * t + c) := by
      rw [hMr]
      show gB M1 _ _ = _
      rw [gB_of e2, hMt]
      rfl
    unfold wkC wk9
    rw [a1, a2, a3, a4]
    by_cases z : nI s = 3
    · have hh := hw3 (s2.trans z)
      have hb : bt (gL M (189 + 4 * t) 11) c = gB M 151 (40 * t + c) := by
        have := (r2 hh).2.2.2 c
        unfold bt
        rw [this]
        simp [hc]
      have hbit : ∀ j, bt (gL M (189 + 4 * t) 11 &&& (1 <<< (Int32.toInt64 (nI c) &&& 63))) j = (gB M 151 (40 * t + c) && decide (j = c)) := fun j => by
        rw [bt_and, bt_m (by omega)]
        by_cases y : j = c
        · subst y; rw [hb]
        · simp [y]
      cases hg : gB M 151 (40 * t + c) with
      | false =>
        have : gL M (189 + 4 * t) 11 &&& (1 <<< (Int32.toInt64 (nI c) &&& 63)) = 0 := bt_ext fun j _ => by rw [hbit, hg, bt_0]; rfl
        simp [this]
      | true =>
        have hne : ¬ (gL M (189 + 4 * t) 11 &&& (1 <<< (Int32.toInt64 (nI c) &&& 63)) = 0) := fun y => by
          have := hbit c
          rw [y, bt_0, hg] at this
          simp at this
        refine ⟨by simp [z, hne], fun _ => lo_eq hc (by rw [hbit, hg]; simp) (fun j hj => by rw [hbit]; simp; omega), fun _ => s2.trans z⟩
    · simp [z]
  refine ⟨gI M1 7 c, M1, M2, ?_, ?_, e, ?_, ?_, hH.ag (fun q i hq => mem _ q hq (by decide) i), hTr.ag (fun q i hq => mem _ q hq (by decide) i), hRu.ag (fun q i hq => mem _ q hq (by decide) i) (oI 119 13 (by decide) (by decide)) (fun q i hq => memL _ q hq (by decide) i), hN.ag (fun q i hq => mem _ q hq (by decide) i) (oI 119 42 (by decide) (by decide)) (fun q i hq => memL _ q hq (by decide) i), ⟨k1, (oI 0 8 (by decide) (by decide)).trans k2, (oI 119 18 (by decide) (by decide)).trans k3, fun t ht => ?_, fun t h1 h2 => ?_⟩, ?_⟩
  · unfold f_X1_put f_X8_tellAnew
    simp only [hin, gd_t, lt_v, hcl, sb_v]
    rw [show gI (sI (sI (sL (sI M (2 + 1) c w) (2 + 2) c v) (2 + 3) c kc) (2 + 4) c gc) 7 c = gI M 7 c from rfl]
    have e1' : f_X8_wake nT (sI (sI (sI (sI (sL (sI M (2 + 1) c w) (2 + 2) c v) (2 + 3) c kc) (2 + 4) c gc) 7 c (gI M 7 c + 1)) 8 c (-1)) (1 <<< (Int32.toInt64 (nI c) &&& 63)) (-1) = some M1 := by rw [← e1, hMt]
    rw [e1']
    rfl
  · unfold f_X9_tells
    simp only [hin, gd_t, lt_v, hcl]
    rw [show gI (sI (sI (sL (sI M1 120 c w) 121 c v) 122 c kr) 123 c gr) 124 c = gI M1 124 c from rfl, ← hMr, show (0 : Int32) = nI 0 from rfl, d1]
    simp only [sb_v]
    have : gI M2 124 c = gI M1 7 c := by
      rw [y124, if_pos rfl, c1 7 c (by decide), hMt, gI_q (by decide), gI_s, (hV c hc).1]
    rw [this]
  · intro i hi
    rw [y3, y4, y5, y6, y120, y121, y122, y123]
    by_cases z : i = c
    · subst z
      simp only [if_true]
      exact ⟨trivial, trivial, w1, w2, w3, w4⟩
    · simp only [z, if_false]
      exact hC i hi
  · intro i hi
    rw [y7, y8, y124, y125]
    by_cases z : i = c
    · subst z
      simp only [if_true, (hV i hi).1]
      exact ⟨trivial, trivial⟩
    · simp only [z, if_false]
      exact hV i hi
  · obtain ⟨q1, q2, q3⟩ := eqv t ht
    obtain ⟨d8, d44, d45⟩ := d4 t (by omega) ht
    have hT : ∀ j i, gI M2 (189 + 4 * t + j) i = gI M1 (189 + 4 * t + j) i := fun j i => by
      rw [x1 _ i (by simp only [List.mem_cons, List.not_mem_nil, or_false, not_or]; omega), rI _ i (by simp only [List.mem_cons, List.not_mem_nil, or_false, not_or]; omega)]
    have hT0 : ∀ i, gI M2 (189 + 4 * t) i = wkv Mt (1 <<< (Int32.toInt64 (nI c) &&& 63)) (-1) t i := fun i => (hT 0 i).trans (e4 t ht i)
    have hMT : ∀ j i, gI Mt (189 + 4 * t + j) i = gI M (189 + 4 * t + j) i := fun j i => tI _ i (by simp only [List.mem_cons, List.not_mem_nil, or_false, not_or]; omega)
    have hT1 : ∀ j i, 1 ≤ j → j ≤ 2 → gI M2 (189 + 4 * t + j) i = gI M (189 + 4 * t + j) i := fun j i h1 h2 => by
      rw [hT j i, e3 _ i (fun t' _ => by omega)]
      exact hMT j i
    have hTo : ∀ i, i ≠ 1 → i ≠ 7 → i ≠ 8 → gI M2 (189 + 4 * t) i = gI M (189 + 4 * t) i := fun i z1 z7 z8 => by
      rw [hT0 i]
      unfold wkv
      simp only [z1, z7, z8, if_false]
      split <;> exact hMT 0 i
    have hTr' : RTry M2 t := (k4 t ht).2.2.2.2.2.2.2.2.2.1.at (fun i hi => hTo i (by rintro rfl; exact absurd hi (by decide)) (by rintro rfl; exact absurd hi (by decide)) (by rintro rfl; exact absurd hi (by decide))) (fun q hq => mem _ q hq (by decide) t) (fun q i hq => mem _ q hq (by decide) i) hT1 (oL _ _ (by omega) (by omega)) (oB _ _) (fun i => oB _ _)
    have m138 : gI Mr 138 t = gI M 138 t := by rw [rI 138 t (by decide), c1 138 t (by decide), tI 138 t (by decide)]
    have m144 : gI Mr 144 t = gI M 144 t := by rw [rI 144 t (by decide), c1 144 t (by decide), tI 144 t (by decide)]
    have m145 : gI Mr 145 t = gI M 145 t := by rw [rI 145 t (by decide), c1 145 t (by decide), tI 145 t (by decide)]
    obtain ⟨⟨t0, u0, u1, u2⟩, ⟨s, s0, s1, s2⟩, v2, v3, v4, v5, v6, v7, v8, -, v10, v11, v12⟩ := k4 t ht
    have base : ∀ (i q : Nat), i ≠ 1 → i ≠ 7 → i ≠ 8 → q < 189 → q ∉ [3, 5, 6, 7, 8, 120, 122, 123, 124, 125, 138, 144, 145] → gI M (189 + 4 * t) i = gI M q t → gI M2 (189 + 4 * t) i = gI M2 q t := fun i q z1 z7 z8 z9 z10 h => by
      rw [hTo i z1 z7 z8, oI q t z9 z10]; exact h
    refine ⟨⟨t0, u0, (hTo 0 (by decide) (by decide) (by decide)).trans u1, (oI 137 t (by decide) (by decide)).trans u2⟩, ?_, base 2 139 (by decide) (by decide) (by decide) (by decide) (by decide) v2, base 3 140 (by decide) (by decide) (by decide) (by decide) (by decide) v3, base 4 141 (by decide) (by decide) (by decide) (by decide) (by decide) v4, base 5 142 (by decide) (by decide) (by decide) (by decide) (by decide) v5, base 6 143 (by decide) (by decide) (by decide) (by decide) (by decide) v6, ?_, ?_, hTr', ?_, ?_, ?_⟩
    · cases hb : wk9 Mr c t with
      | true =>
        refine ⟨0, by decide, ?_, ?_⟩
        · rw [hT0 1]
          unfold wkv
          rw [q1, hb]
          rfl
        · rw [d8, hb]
          rfl
      | false =>
        refine ⟨s, s0, ?_, ?_⟩
        · rw [hT0 1]
          unfold wkv
          rw [q1, hb, if_neg (by decide)]
          exact (hMT 0 1).trans s1
        · rw [d8, hb, if_neg (by decide), m138]
          exact s2
    · cases hb : wk9 Mr c t with
      | true =>
        rw [hT0 7, d44, hb]
        unfold wkv
        rw [q1, hb, q2 hb]
        rfl
      | false =>
        rw [hT0 7, d44, hb]
        unfold wkv
        rw [q1, hb, if_neg (by decide), if_neg (by decide), m144]
        exact (hMT 0 7).trans v7
    · cases hb : wk9 Mr c t with
      | true =>
        rw [hT0 8, d45, hb]
        unfold wkv
        rw [q1, hb]
        rfl
      | false =>
        rw [hT0 8, d45, hb]
        unfold wkv
        rw [q1, hb, if_neg (by decide), if_neg (by decide), m145]
        exact (hMT 0 8).trans v8
    · rw [d8, oB, m138]
      cases hb : wk9 Mr c t with
      | true => rw [if_pos rfl]; intro z; exact absurd z (by decide)
      | false => intro z; exact v10 z
    · rw [d8, m138]
      cases hb : wk9 Mr c t with
      | true => rw [if_pos rfl]; intro z; exact absurd z (by decide)
      | false =>
        intro z
        obtain ⟨n, n1, n2, n3, n4⟩ := v11 z
        refine ⟨n, n1, (hTo 16 (by decide) (by decide) (by decide)).trans n2, (oI 147 t (by decide) (by decide)).trans n3, fun i hi hj => ?_⟩
        rw [oL _ _ (by omega) (by omega), oL 146 _ (by decide) (by decide)]
        exact n4 i hi hj
    · rw [d8, m138, oI 143 t (by decide) (by decide)]
      cases hb : wk9 Mr c t with
      | true => intro _; exact v12 (by rw [q3 hb]; decide)
      | false => intro z; exact v12 z
  · rw [oI 139 _ (by decide) (by decide), oI 140 _ (by decide) (by decide), oI 141 _ (by decide) (by decide), oI 142 _ (by decide) (by decide), oB]
    exact k5 t h1 h2
  · obtain ⟨m1, m2, m3, m4, m5, m6, ww, a1, a2, a3, a4⟩ := hMi
    refine ⟨(oI 0 9 (by decide) (by decide)).trans m1, (oI 119 38 (by decide) (by decide)).trans m2, ?_, fun i hi => ?_, ?_, ?_, ww, a1, a2, (oI 0 12 (by decide) (by decide)).trans a3, (oI 119 37 (by decide) (by decide)).trans a4⟩
    · rw [m3]
      refine (cntD_iff nT fun t ht => ?_).symm
      obtain ⟨-, -, q3⟩ := eqv t ht
      rw [(d4 t (by omega) ht).1]
      have m138 : gI Mr 138 t = gI M 138 t := by rw [rI 138 t (by decide), c1 138 t (by decide), tI 138 t (by decide)]
      cases hb : wk9 Mr c t with
      | true =>
        rw [if_pos rfl, q3 hb]
        decide
      | false => rw [if_neg (by decide), m138]
    · rw [oI 118 _ (by decide) (by decide), oI 155 _ (by decide) (by decide)]
      exact m4 i hi
    · rw [oI 0 10 (by decide) (by decide), oI 119 40 (by decide) (by decide)]; exact m5
    · rw [oI 0 11 (by decide) (by decide), oI 119 41 (by decide) (by decide)]; exact m6
theorem s_number : S_number Rel := by
  intro nT M a v hR
  rcases ix3 a (n := 40) (by decide) with ⟨h, -⟩ | ⟨c, hc, rfl, h⟩
  · refine ⟨-2, M, M, ?_, ?_, hR⟩
    · unfold f_X8_number
      simp only [cell8, h, sb_v, bI_f, if_true]
    · unfold f_X9_number
      simp only [cell9, h, sb_v, bI_f, if_true]
  · obtain ⟨r, M1, M2, h1, h2, h3⟩ := tell_rel hR hc (w := 1) (kc := -1) (gc := -1) (kr := 0) (gr := 0) (v := v) (Or.inr (Or.inl rfl)) (fun z => absurd z (by decide)) (fun z => absurd z (by decide)) (fun _ => ⟨rfl, rfl⟩)
    refine ⟨r, M1, M2, ?_, ?_, h3⟩
    · unfold f_X8_number
      simp only [cell8, h, sb_v, bI_t, i10, if_false]
      exact h1
    · unfold f_X9_number
      simp only [cell9, h, sb_v, bI_t, i10, if_false]
      exact h2
theorem s_empty : S_empty Rel := by
  intro nT M a hR
  rcases ix3 a (n := 40) (by decide) with ⟨h, -⟩ | ⟨c, hc, rfl, h⟩
  · refine ⟨-2, M, M, ?_, ?_, hR⟩
    · unfold f_X8_empty
      simp only [cell8, h, sb_v, bI_f, if_true]
    · unfold f_X9_empty
      simp only [cell9, h, sb_v, bI_f, if_true]
  · obtain ⟨r, M1, M2, h1, h2, h3⟩ := tell_rel hR hc (w := 0) (kc := -1) (gc := -1) (kr := 0) (gr := 0) (v := 0) (Or.inl rfl) (fun _ => rfl) (fun z => absurd z (by decide)) (fun _ => ⟨rfl, rfl⟩)
    refine ⟨r, M1, M2, ?_, ?_, h3⟩
    · unfold f_X8_empty
      simp only [cell8, h, sb_v, bI_t, i10, if_false]
      exact h1
    · unfold f_X9_empty
      simp only [cell9, h, sb_v, bI_t, i10, if_false]
      exact h2
theorem s_lot : S_lot Rel := by
  intro nT M a k g w hR
  have bad : (inR a 40 = false ∨ inR k 8 = false ∨ inR g 8 = false ∨ inR w 1000000001 = false) → ∃ r M1 M2, f_X8_lot nT M a k g w = some (r, M1) ∧ f_X9_lot M1 a k g w = some (r, M2) ∧ Rel nT M2 := by
    intro hb
    refine ⟨-2, M, M, ?_, ?_, hR⟩
    · unfold f_X8_lot
      rw [tle w (hi := 1000000000) (n := 1000000001) (by decide) (by decide)]
      simp only [cell8, kind8, grow8, sb_v]
      cases h1 : inR a 40 <;> cases h2 : inR k 8 <;> cases h3 : inR g 8 <;> cases h4 : inR w 1000000001 <;> simp_all [bI]
    · unfold f_X9_lot f_X9_lot_49 f_X9_lot_50
      simp only [cell9, in9_7, in9_g, sb_v]
      cases h1 : inR a 40 <;> cases h2 : inR k 8 <;> cases h3 : inR g 8 <;> cases h4 : inR w 1000000001 <;> simp_all [bI]
  rcases ix3 a (n := 40) (by decide) with ⟨h, -⟩ | ⟨c, hc, rfl, h⟩
  · exact bad (Or.inl h)
  cases hk : inR k 8 with
  | false => exact bad (Or.inr (Or.inl hk))
  | true =>
    cases hg : inR g 8 with
    | false => exact bad (Or.inr (Or.inr (Or.inl hg)))
    | true =>
      cases hw : inR w 1000000001 with
      | false => exact bad (Or.inr (Or.inr (Or.inr hw)))
      | true =>
        obtain ⟨r, M1, M2, h1, h2, h3⟩ := tell_rel hR hc (w := 2) (kc := k) (gc := g) (kr := k) (gr := g) (v := Int32.toInt64 w) (Or.inr (Or.inr rfl)) (fun z => absurd z (by decide)) (fun _ => ⟨rfl, rfl⟩) (fun z => absurd rfl z)
        refine ⟨r, M1, M2, ?_, ?_, h3⟩
        · unfold f_X8_lot
          rw [tle w (hi := 1000000000) (n := 1000000001) (by decide) (by decide)]
          simp only [cell8, kind8, grow8, h, hk, hg, hw, sb_v, bI_t, i10, if_false]
          exact h1
        · unfold f_X9_lot f_X9_lot_49 f_X9_lot_50
          simp only [cell9, in9_7, in9_g, h, hk, hg, hw, sb_v, bI_t, i10, if_false]
          exact h2

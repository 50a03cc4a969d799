theorem cell_of {a1 : Int32} (h : (Option.bind (f_X9_isCell (Int32.toInt64 a1)) fun r => some r) = some true) : ∃ c, c < 40 ∧ a1 = nI c := by
  rw [cell9, sb_w] at h
  rcases ix3 a1 (n := 40) (by decide) with ⟨z, -⟩ | ⟨c, hc, e, -⟩
  · rw [z] at h; cases h
  · exact ⟨c, hc, e⟩
theorem cell_of2 {a1 a2 : Int32} (h : (Option.bind (f_X9_isCell (Int32.toInt64 a1)) fun r_10 => if (bI r_10) = 0 then (some false) else (Option.bind (f_X9_isCell (Int32.toInt64 a2)) fun r_11 => if (bI r_11) = 0 then (some false) else (some true))) = some true) : ∃ c d, c < 40 ∧ d < 40 ∧ a1 = nI c ∧ a2 = nI d := by
  rw [cell9, sb_w, cell9, sb_w] at h
  rcases ix3 a1 (n := 40) (by decide) with ⟨z, -⟩ | ⟨c, hc, e, -⟩
  · rw [z, if_pos bI_f] at h; cases h
  · rcases ix3 a2 (n := 40) (by decide) with ⟨z, -⟩ | ⟨d, hd, e2, -⟩
    · rw [z, if_pos bI_f] at h
      split at h <;> cases h
    · exact ⟨c, d, hc, hd, e, e2⟩
theorem okS_k {op a1 a2 : Int32} (h : okS op a1 a2) : ∃ k, k < 20 ∧ op = nI k := by
  rcases ix3 op (n := 20) (by decide) with ⟨z, z2⟩ | ⟨c, hc, e, -⟩
  · have ne := ne_out (n := 20) (by decide) z
    have e15 : inR op 16 = false := by
      rcases ix3 op (n := 16) (by decide) with ⟨y, -⟩ | ⟨c, hc, e, -⟩
      · exact y
      · exact absurd e (ne c (by omega))
    unfold okS f_X9_isStep at h
    have n1 : ¬ op = 1 := ne 1 (by decide); have n2 : ¬ op = 2 := ne 2 (by decide); have n3 : ¬ op = 3 := ne 3 (by decide); have n4 : ¬ op = 4 := ne 4 (by decide); have n5 : ¬ op = 5 := ne 5 (by decide); have n6 : ¬ op = 6 := ne 6 (by decide); have n7 : ¬ op = 7 := ne 7 (by decide); have n8 : ¬ op = 8 := ne 8 (by decide); have n9 : ¬ op = 9 := ne 9 (by decide); have n10 : ¬ op = 10 := ne 10 (by decide); have n11 : ¬ op = 11 := ne 11 (by decide); have n12 : ¬ op = 12 := ne 12 (by decide); have n13 : ¬ op = 13 := ne 13 (by decide); have n14 : ¬ op = 14 := ne 14 (by decide); have n15 : ¬ op = 15 := ne 15 (by decide); have n16 : ¬ op = 16 := ne 16 (by decide); have n17 : ¬ op = 17 := ne 17 (by decide); have n18 : ¬ op = 18 := ne 18 (by decide); have n19 : ¬ op = 19 := ne 19 (by decide)
    rw [if_neg n1, if_neg n2, if_neg n3, if_neg n4, if_neg n5, if_neg n6, if_neg n7, if_neg n8, if_neg n9, if_neg n10, if_neg n11, if_neg n12, if_neg n13, if_neg n14, if_neg n15, if_neg n16, if_neg n17, if_neg n18, if_neg n19, in9_15, e15] at h
    cases h
  · exact ⟨c, hc, e⟩
theorem op_all {q j n m a : Nat} {M0 N0 M N : Mem} (T : TF q j n m a M0 N0 M N) (hj : j < 4) (hf : gI N 119 78 = 0) (mn : m < n) (an : a < n) (n40 : n ≤ 40) {op a1 a2 : Int32} (ok : okS op a1 a2) (h13 : ¬ op = 13) (h16 : ¬ op = 16) (h17 : ¬ op = 17) (h18 : ¬ op = 18) : OpOut q j n m a M0 N0 (f_X0_doStep q M op a1 a2) (f_X9_act N op a1 a2) := by
  obtain ⟨k, hk, rfl⟩ := okS_k ok
  have mn' := Nat.le_of_lt mn
  have an' := Nat.le_of_lt an
  unfold okS f_X9_isStep at ok
  rcases (show k = 0 ∨ k = 1 ∨ k = 2 ∨ k = 3 ∨ k = 4 ∨ k = 5 ∨ k = 6 ∨ k = 7 ∨ k = 8 ∨ k = 9 ∨ k = 10 ∨ k = 11 ∨ k = 12 ∨ k = 13 ∨ k = 14 ∨ k = 15 ∨ k = 16 ∨ k = 17 ∨ k = 18 ∨ k = 19 by omega) with rfl | rfl | rfl | rfl | rfl | rfl | rfl | rfl | rfl | rfl | rfl | rfl | rfl | rfl | rfl | rfl | rfl | rfl | rfl | rfl
  · exact op0 T hf mn' an' _ _
  · repeat (first | rw [if_pos (by decide)] at ok | rw [if_neg (by decide)] at ok)
    obtain ⟨c, hc, rfl⟩ := cell_of ok
    show OpOut q j n m a M0 N0 (f_X0_doStep q M 1 (nI c) a2) (f_X9_act N 1 (nI c) a2)
    unfold f_X0_doStep f_X9_act
    repeat (first | rw [if_pos (by decide)] | rw [if_neg (by decide)])
    simp only [act111]
    rw [show (Option.bind (f_X0_reckon q M 1 (nI c)) fun r => some (r.1, r.2)) = f_X0_reckon q M 1 (nI c) by cases f_X0_reckon q M 1 (nI c) <;> rfl]
    exact op1 T hj hc mn' an' (fun _ => nI c) (fun _ _ => rfl)
  · repeat (first | rw [if_pos (by decide)] at ok | rw [if_neg (by decide)] at ok)
    obtain ⟨c, hc, rfl⟩ := cell_of ok
    exact op2 T hj hc hf mn' an' _
  · repeat (first | rw [if_pos (by decide)] at ok | rw [if_neg (by decide)] at ok)
    obtain ⟨c, hc, rfl⟩ := cell_of ok
    exact op3 T hj hc mn' an' _
  · exact op4 T hf mn' an' _ _
  · exact op5 T hf mn' an' _ _
  · repeat (first | rw [if_pos (by decide)] at ok | rw [if_neg (by decide)] at ok)
    obtain ⟨c, hc, rfl⟩ := cell_of ok
    exact op6 T hj hc mn' an' _
  · exact op7 T hj hf mn' an' _ _
  · repeat (first | rw [if_pos (by decide)] at ok | rw [if_neg (by decide)] at ok)
    obtain ⟨c, hc, rfl⟩ := cell_of ok
    exact op8 T hj hc mn' an' _
  · repeat (first | rw [if_pos (by decide)] at ok | rw [if_neg (by decide)] at ok)
    obtain ⟨c, hc, rfl⟩ := cell_of ok
    exact op9 T hj hc mn' an' _
  · repeat (first | rw [if_pos (by decide)] at ok | rw [if_neg (by decide)] at ok)
    obtain ⟨c, d, hc, hd, rfl, rfl⟩ := cell_of2 ok
    exact op10 T hj hc hd mn' an'
  · repeat (first | rw [if_pos (by decide)] at ok | rw [if_neg (by decide)] at ok)
    obtain ⟨c, d, hc, hd, rfl, rfl⟩ := cell_of2 ok
    exact op11 T hj hc hd hf mn' an'
  · exact op12 T hj hf mn an' n40 _ _
  · exact absurd rfl h13
  · exact op14 T mn' an' _ _
  · exact op15 T mn' an' _ _
  · exact absurd rfl h16
  · exact absurd rfl h17
  · exact absurd rfl h18
  · repeat (first | rw [if_pos (by decide)] at ok | rw [if_neg (by decide)] at ok)
    refine op19 T hj hf mn' an n40 _ _ ?_
    by_cases z : a1 = 0
    · exact Or.inl z
    · rw [if_neg z] at ok
      by_cases y : a1 = 1
      · rw [if_pos y, cell9, sb_w] at ok
        refine Or.inr ⟨y, ?_⟩
        cases h : inR a2 40
        · rw [h, if_pos bI_f] at ok; cases ok
        · rfl
      · rw [if_neg y] at ok; cases ok
theorem TA.pn {q j n m a : Nat} {M N : Mem} (T : TA q j n m a M N) : TA q j (n + 1) m a (sI M q 5 (nI (n + 1))) (sI N 119 48 (nI (n + 1))) := by
  have A : Ag (fun q' i => ¬ (q' = q ∧ i = 5)) M (sI M q 5 (nI (n + 1))) := Ag.rf.tI (by omega)
  have B : Ag (fun q' i => ¬ (q' = 119 ∧ i = 48)) N (sI N 119 48 (nI (n + 1))) := Ag.rf.tI (by omega)
  refine ⟨?_, ?_, ?_, T.rd, T.rv, ?_, ?_, ?_, ?_, ?_, ?_, ?_, ?_, ?_⟩
  · rw [B.i (by omega)]; exact T.sl
  · exact T.x
  · exact T.ce.ag A B (fun q i k => by unfold pcC at k; omega) (fun q i k => by unfold pcD at k; omega)
  · simp (disch := omega) only [gI_s, gL_s, gB_s, gI_ne, gL_ne, gB_ne, gI_tL, gI_tB, gL_tI, gL_tB, gB_tI, gB_tL]
  · simp (disch := omega) only [gI_s, gL_s, gB_s, gI_ne, gL_ne, gB_ne, gI_tL, gI_tB, gL_tI, gL_tB, gB_tI, gB_tL]
  · rw [A.i (by omega)]; exact T.sa
  · rw [B.i (by omega)]; exact T.sa'
  · exact T.sv
  · rw [A.i (by omega)]; exact T.ac
  · rw [B.i (by omega)]; exact T.ac'
  · intro i h1 h2
    rw [A.i (by omega), A.i (by omega), A.l (by omega), B.i (by omega), B.i (by omega), B.l (by omega)]
    exact T.ab i h1 h2
  · rw [A.i (by omega), B.i (by omega)]; exact T.to
def cp5 (N N' : Mem) (b o b' o' c : Nat) : Prop := gB N' b' (o' + c) = gB N b (o + c) ∧ gI N' (b' + 1) (o' + c) = gI N (b + 1) (o + c) ∧ gL N' (b' + 2) (o' + c) = gL N (b + 2) (o + c) ∧ gI N' (b' + 3) (o' + c) = gI N (b + 3) (o + c) ∧ gI N' (b' + 4) (o' + c) = gI N (b + 4) (o + c)
theorem pict_lp {j d : Nat} (hj : j < 4) (hd : d < 6) : ∀ r k F (N : Mem), k + r = 40 → r < F → gI N 119 46 = nI j → ∃ N', f_X9_picture_2 F N (nI d) (nI k) = some N' ∧ Ag (fun q' i => ¬ (183 ≤ q' ∧ q' ≤ 187 ∧ 40 * d + k ≤ i ∧ i < 40 * d + 40)) N N' ∧ ∀ c, k ≤ c → c < 40 → cp5 N N' 163 (40 * j) 183 (40 * d) c
  | 0, k, F, N, hk, hF, hs => by
    obtain ⟨F, rfl⟩ : ∃ f, F = f + 1 := ⟨F - 1, by omega⟩
    have : k = 40 := by omega
    subst this
    refine ⟨N, ?_, Ag.rf, fun c h1 h2 => absurd h1 (by omega)⟩
    rw [f_X9_picture_2, if_pos (by decide)]
  | r + 1, k, F, N, hk, hF, hs => by
    obtain ⟨F, rfl⟩ : ∃ f, F = f + 1 := ⟨F - 1, by omega⟩
    rw [f_X9_picture_2, if_neg (show ¬ (40 : Int32) ≤ nI k from nI_ge (b := 40) (by omega) (by decide))]
    have z1 : ∀ u v, gI (sB N 183 u v) 119 46 = nI j := fun u v => by simp (disch := omega) only [gI_s, gL_s, gB_s, gI_ne, gL_ne, gB_ne, gI_tL, gI_tB, gL_tI, gL_tB, gB_tI, gB_tL]; exact hs
    have z2 : ∀ u v u' v', gI (sI (sB N 183 u v) 184 u' v') 119 46 = nI j := fun u v u' v' => by simp (disch := omega) only [gI_s, gL_s, gB_s, gI_ne, gL_ne, gB_ne, gI_tL, gI_tB, gL_tI, gL_tB, gB_tI, gB_tL]; exact hs
    have z3 : ∀ u v u' v' u'' v'', gI (sL (sI (sB N 183 u v) 184 u' v') 185 u'' v'') 119 46 = nI j := fun u v u' v' u'' v'' => by simp (disch := omega) only [gI_s, gL_s, gB_s, gI_ne, gL_ne, gB_ne, gI_tL, gI_tB, gL_tI, gL_tB, gB_tI, gB_tL]; exact hs
    have z4 : ∀ u v u' v' u'' v'' u3 v3, gI (sI (sL (sI (sB N 183 u v) 184 u' v') 185 u'' v'') 186 u3 v3) 119 46 = nI j := fun u v u' v' u'' v'' u3 v3 => by simp (disch := omega) only [gI_s, gL_s, gB_s, gI_ne, gL_ne, gB_ne, gI_tL, gI_tB, gL_tI, gL_tB, gB_tI, gB_tL]; exact hs
    simp only [lt_w, z1, z2, z3, z4, hs, mx (K := 40) 40 j k rfl, mx (K := 40) 40 d k rfl, inR_nI (show 40 * j + k < 160 by omega) (by decide), inR_nI (show 40 * d + k < 240 by omega) (by decide), gd_w, nI_clamp (show 40 * j + k < 2 ^ 31 by omega), nI_clamp (show 40 * d + k < 2 ^ 31 by omega), nI_1, iB_b]
    obtain ⟨N', h1, h2, h3⟩ := pict_lp hj hd r (k + 1) F (sI (sI (sL (sI (sB N 183 (40 * d + k) (gB N 163 (40 * j + k))) 184 (40 * d + k) (gI N 164 (40 * j + k))) 185 (40 * d + k) (gL N 165 (40 * j + k))) 186 (40 * d + k) (gI N 166 (40 * j + k))) 187 (40 * d + k) (gI N 167 (40 * j + k))) (by omega) (by omega) (by simp (disch := omega) only [gI_s, gL_s, gB_s, gI_ne, gL_ne, gB_ne, gI_tL, gI_tB, gL_tI, gL_tB, gB_tI, gB_tL]; exact hs)
    refine ⟨N', ?_, ?_, ?_⟩
    · rw [← h1]
      congr 1
    · refine Ag.tr ?_ (h2.mo (fun q' i z => by omega))
      exact ((((Ag.rf.tB (by omega)).tI (by omega)).tL (by omega)).tI (by omega)).tI (by omega)
    · intro c c1 c2
      by_cases z : c = k
      · subst z
        unfold cp5
        rw [h2.b (by omega), h2.i (by omega), h2.l (by omega), h2.i (by omega), h2.i (by omega)]
        simp (disch := omega) only [gI_s, gL_s, gB_s, gI_ne, gL_ne, gB_ne, gI_tL, gI_tB, gL_tI, gL_tB, gB_tI, gB_tL]
        exact ⟨trivial, trivial, trivial, trivial, trivial⟩
      · have := h3 c (by omega) c2
        unfold cp5 at this ⊢
        rw [this.1, this.2.1, this.2.2.1, this.2.2.2.1, this.2.2.2.2]
        simp (disch := omega) only [gI_s, gL_s, gB_s, gI_ne, gL_ne, gB_ne, gI_tL, gI_tB, gL_tI, gL_tB, gB_tI, gB_tL]
        exact ⟨trivial, trivial, trivial, trivial, trivial⟩
theorem enter_eq {j d mo : Nat} {N : Mem} (hj : j < 4) (hd : d < 6) (hm : mo ≤ 2) (hs : gI N 119 46 = nI j) (hp : gI N 176 j = nI d) (tr : Int32) : ∃ N', f_X9_enter N tr (nI mo) = some N' ∧ gI N' 176 j = nI (d + 1) ∧ gI N' 177 (6 * j + d) = tr ∧ gI N' 178 (6 * j + d) = nI 0 ∧ gI N' 179 (6 * j + d) = nI mo ∧ gL N' 180 (6 * j + d) = gL N 119 47 ∧ gI N' 181 (6 * j + d) = gI N 170 j ∧ gI N' 182 (6 * j + d) = gI N 172 j ∧ (0 < mo → ∀ c, c < 40 → cp5 N N' 163 (40 * j) 183 (40 * d) c) ∧
    Ag (fun q' i => ¬ ((q' = 176 ∧ i = j) ∨ (177 ≤ q' ∧ q' ≤ 182 ∧ i = 6 * j + d) ∨ (183 ≤ q' ∧ q' ≤ 187 ∧ 40 * d ≤ i ∧ i < 40 * d + 40))) N N' := by
  unfold f_X9_enter
  have z1 : ∀ v, gI (sI N 177 (6 * j + d) v) 119 46 = nI j := fun v => by simp (disch := omega) only [gI_s, gL_s, gB_s, gI_ne, gL_ne, gB_ne, gI_tL, gI_tB, gL_tI, gL_tB, gB_tI, gB_tL]; exact hs
  have z2 : ∀ v v', gI (sI (sI N 177 (6 * j + d) v) 178 (6 * j + d) v') 119 46 = nI j := fun v v' => by simp (disch := omega) only [gI_s, gL_s, gB_s, gI_ne, gL_ne, gB_ne, gI_tL, gI_tB, gL_tI, gL_tB, gB_tI, gB_tL]; exact hs
  have z3 : ∀ v v' v'', gI (sI (sI (sI N 177 (6 * j + d) v) 178 (6 * j + d) v') 179 (6 * j + d) v'') 119 46 = nI j := fun v v' v'' => by simp (disch := omega) only [gI_s, gL_s, gB_s, gI_ne, gL_ne, gB_ne, gI_tL, gI_tB, gL_tI, gL_tB, gB_tI, gB_tL]; exact hs
  have z4 : ∀ v v' v'' w, gI (sL (sI (sI (sI N 177 (6 * j + d) v) 178 (6 * j + d) v') 179 (6 * j + d) v'') 180 (6 * j + d) w) 119 46 = nI j := fun v v' v'' w => by simp (disch := omega) only [gI_s, gL_s, gB_s, gI_ne, gL_ne, gB_ne, gI_tL, gI_tB, gL_tI, gL_tB, gB_tI, gB_tL]; exact hs
  have z5 : ∀ v v' v'' w w', gI (sI (sL (sI (sI (sI N 177 (6 * j + d) v) 178 (6 * j + d) v') 179 (6 * j + d) v'') 180 (6 * j + d) w) 181 (6 * j + d) w') 119 46 = nI j := fun v v' v'' w w' => by simp (disch := omega) only [gI_s, gL_s, gB_s, gI_ne, gL_ne, gB_ne, gI_tL, gI_tB, gL_tI, gL_tB, gB_tI, gB_tL]; exact hs
  simp only [hs, nI_clamp (show j < 2 ^ 31 by omega), inR_nI hj (by decide), gd_w, lt_w, hp, mx (K := 6) 6 j d rfl, inR_nI (show 6 * j + d < 24 by omega) (by decide), nI_clamp (show 6 * j + d < 2 ^ 31 by omega), z1, z2, z3, z4, z5]
  have w1 : gL (sI (sI (sI N 177 (6 * j + d) tr) 178 (6 * j + d) 0) 179 (6 * j + d) (nI mo)) 119 47 = gL N 119 47 := by simp (disch := omega) only [gI_s, gL_s, gB_s, gI_ne, gL_ne, gB_ne, gI_tL, gI_tB, gL_tI, gL_tB, gB_tI, gB_tL]
  have w2 : ∀ w, gI (sL (sI (sI (sI N 177 (6 * j + d) tr) 178 (6 * j + d) 0) 179 (6 * j + d) (nI mo)) 180 (6 * j + d) w) 170 j = gI N 170 j := fun w => by simp (disch := omega) only [gI_s, gL_s, gB_s, gI_ne, gL_ne, gB_ne, gI_tL, gI_tB, gL_tI, gL_tB, gB_tI, gB_tL]
  have w3 : ∀ w w', gI (sI (sL (sI (sI (sI N 177 (6 * j + d) tr) 178 (6 * j + d) 0) 179 (6 * j + d) (nI mo)) 180 (6 * j + d) w) 181 (6 * j + d) w') 172 j = gI N 172 j := fun w w' => by simp (disch := omega) only [gI_s, gL_s, gB_s, gI_ne, gL_ne, gB_ne, gI_tL, gI_tB, gL_tI, gL_tB, gB_tI, gB_tL]
  rw [w1, w2, w3]
  generalize hN6 : sI (sI (sL (sI (sI (sI N 177 (6 * j + d) tr) 178 (6 * j + d) 0) 179 (6 * j + d) (nI mo)) 180 (6 * j + d) (gL N 119 47)) 181 (6 * j + d) (gI N 170 j)) 182 (6 * j + d) (gI N 172 j) = N6
  have A6 : Ag (fun q' i => ¬ (177 ≤ q' ∧ q' ≤ 182 ∧ i = 6 * j + d)) N N6 := by
    rw [← hN6]
    exact (((((Ag.rf.tI (by omega)).tI (by omega)).tI (by omega)).tL (by omega)).tI (by omega)).tI (by omega)
  have f1 : gI N6 177 (6 * j + d) = tr := by rw [← hN6]; simp (disch := omega) only [gI_s, gL_s, gB_s, gI_ne, gL_ne, gB_ne, gI_tL, gI_tB, gL_tI, gL_tB, gB_tI, gB_tL]
  have f2 : gI N6 178 (6 * j + d) = nI 0 := by rw [← hN6]; simp (disch := omega) only [gI_s, gL_s, gB_s, gI_ne, gL_ne, gB_ne, gI_tL, gI_tB, gL_tI, gL_tB, gB_tI, gB_tL]; rfl
  have f3 : gI N6 179 (6 * j + d) = nI mo := by rw [← hN6]; simp (disch := omega) only [gI_s, gL_s, gB_s, gI_ne, gL_ne, gB_ne, gI_tL, gI_tB, gL_tI, gL_tB, gB_tI, gB_tL]
  have f4 : gL N6 180 (6 * j + d) = gL N 119 47 := by rw [← hN6]; simp (disch := omega) only [gI_s, gL_s, gB_s, gI_ne, gL_ne, gB_ne, gI_tL, gI_tB, gL_tI, gL_tB, gB_tI, gB_tL]
  have f5 : gI N6 181 (6 * j + d) = gI N 170 j := by rw [← hN6]; simp (disch := omega) only [gI_s, gL_s, gB_s, gI_ne, gL_ne, gB_ne, gI_tL, gI_tB, gL_tI, gL_tB, gB_tI, gB_tL]
  have f6 : gI N6 182 (6 * j + d) = gI N 172 j := by rw [← hN6]; simp (disch := omega) only [gI_s, gL_s, gB_s, gI_ne, gL_ne, gB_ne, gI_tL, gI_tB, gL_tI, gL_tB, gB_tI, gB_tL]
  clear hN6 z1 z2 z3 z4 z5 w1 w2 w3
  have hs6 : gI N6 119 46 = nI j := by rw [A6.i (by omega)]; exact hs
  have hp6 : gI N6 176 j = nI d := by rw [A6.i (by omega)]; exact hp
  have fin : ∀ N7, gI N7 119 46 = nI j → gI N7 176 j = nI d → f_X9_enter_128 N7 = some (sI N7 176 j (nI (d + 1))) := by
    intro N7 h1 h2
    unfold f_X9_enter_128
    simp only [h1, inR_nI hj (by decide), gd_w, lt_w, nI_clamp (show j < 2 ^ 31 by omega), h2, nI_1]
  by_cases h0 : mo = 0
  · subst h0
    rw [if_pos (by decide), fin N6 hs6 hp6]
    refine ⟨_, rfl, gI_s, ?_, ?_, ?_, ?_, ?_, ?_, fun z => absurd z (by omega), ?_⟩
    · simp (disch := omega) only [gI_s, gL_s, gB_s, gI_ne, gL_ne, gB_ne, gI_tL, gI_tB, gL_tI, gL_tB, gB_tI, gB_tL]; exact f1
    · simp (disch := omega) only [gI_s, gL_s, gB_s, gI_ne, gL_ne, gB_ne, gI_tL, gI_tB, gL_tI, gL_tB, gB_tI, gB_tL]; exact f2
    · simp (disch := omega) only [gI_s, gL_s, gB_s, gI_ne, gL_ne, gB_ne, gI_tL, gI_tB, gL_tI, gL_tB, gB_tI, gB_tL]; exact f3
    · simp (disch := omega) only [gI_s, gL_s, gB_s, gI_ne, gL_ne, gB_ne, gI_tL, gI_tB, gL_tI, gL_tB, gB_tI, gB_tL]; exact f4
    · simp (disch := omega) only [gI_s, gL_s, gB_s, gI_ne, gL_ne, gB_ne, gI_tL, gI_tB, gL_tI, gL_tB, gB_tI, gB_tL]; exact f5
    · simp (disch := omega) only [gI_s, gL_s, gB_s, gI_ne, gL_ne, gB_ne, gI_tL, gI_tB, gL_tI, gL_tB, gB_tI, gB_tL]; exact f6
    · exact (A6.mo (fun q' i z => by omega)).tI (by omega)
  · rw [if_neg (show ¬ nI mo ≤ 0 from nI_ge (a := 0) (b := mo) (by omega) (by omega))]
    unfold f_X9_picture
    obtain ⟨N7, e7, A7, c7⟩ := pict_lp hj hd 40 0 FU N6 (by omega) (by unfold FU; omega) hs6
    rw [show (0 : Int32) = nI 0 from rfl, e7, sb_w, fin N7 (by rw [A7.i (by omega)]; exact hs6) (by rw [A7.i (by omega)]; exact hp6)]
    refine ⟨_, rfl, gI_s, ?_, ?_, ?_, ?_, ?_, ?_, ?_, ?_⟩
    · simp (disch := omega) only [gI_s, gL_s, gB_s, gI_ne, gL_ne, gB_ne, gI_tL, gI_tB, gL_tI, gL_tB, gB_tI, gB_tL]; rw [A7.i (by omega)]; exact f1
    · simp (disch := omega) only [gI_s, gL_s, gB_s, gI_ne, gL_ne, gB_ne, gI_tL, gI_tB, gL_tI, gL_tB, gB_tI, gB_tL]; rw [A7.i (by omega)]; exact f2
    · simp (disch := omega) only [gI_s, gL_s, gB_s, gI_ne, gL_ne, gB_ne, gI_tL, gI_tB, gL_tI, gL_tB, gB_tI, gB_tL]; rw [A7.i (by omega)]; exact f3
    · simp (disch := omega) only [gI_s, gL_s, gB_s, gI_ne, gL_ne, gB_ne, gI_tL, gI_tB, gL_tI, gL_tB, gB_tI, gB_tL]; rw [A7.l (by omega)]; exact f4
    · simp (disch := omega) only [gI_s, gL_s, gB_s, gI_ne, gL_ne, gB_ne, gI_tL, gI_tB, gL_tI, gL_tB, gB_tI, gB_tL]; rw [A7.i (by omega)]; exact f5
    · simp (disch := omega) only [gI_s, gL_s, gB_s, gI_ne, gL_ne, gB_ne, gI_tL, gI_tB, gL_tI, gL_tB, gB_tI, gB_tL]; rw [A7.i (by omega)]; exact f6
    · intro _ c hc
      have := c7 c (by omega) hc
      unfold cp5 at this ⊢
      simp (disch := omega) only [gI_s, gL_s, gB_s, gI_ne, gL_ne, gB_ne, gI_tL, gI_tB, gL_tI, gL_tB, gB_tI, gB_tL]
      rw [A6.b (by omega), A6.i (by omega), A6.l (by omega), A6.i (by omega), A6.i (by omega)] at this
      exact this
    · exact ((A6.mo (fun q' i z => by omega)).tr (A7.mo (fun q' i z => by omega))).tI (by omega)
theorem undo_lp {j d : Nat} (hj : j < 4) (hd : d < 6) : ∀ r k F (N : Mem), k + r = 40 → r < F → gI N 119 46 = nI j → ∃ N', f_X9_undo_25 F N (nI d) (nI k) = some N' ∧ gI N' 170 j = gI N 181 (6 * j + d) ∧ gI N' 172 j = gI N 182 (6 * j + d) ∧ Ag (fun q' i => ¬ ((163 ≤ q' ∧ q' ≤ 167 ∧ 40 * j + k ≤ i ∧ i < 40 * j + 40) ∨ (q' = 170 ∧ i = j) ∨ (q' = 172 ∧ i = j))) N N' ∧ ∀ c, k ≤ c → c < 40 → cp5 N N' 183 (40 * d) 163 (40 * j) c
  | 0, k, F, N, hk, hF, hs => by
    obtain ⟨F, rfl⟩ : ∃ f, F = f + 1 := ⟨F - 1, by omega⟩
    have : k = 40 := by omega
    subst this
    refine ⟨sI (sI N 170 j (gI N 181 (6 * j + d))) 172 j (gI N 182 (6 * j + d)), ?_, by simp (disch := omega) only [gI_s, gL_s, gB_s, gI_ne, gL_ne, gB_ne, gI_tL, gI_tB, gL_tI, gL_tB, gB_tI, gB_tL], by simp (disch := omega) only [gI_s, gL_s, gB_s, gI_ne, gL_ne, gB_ne, gI_tL, gI_tB, gL_tI, gL_tB, gB_tI, gB_tL], (Ag.rf.tI (by omega)).tI (by omega), fun c h1 h2 => absurd h1 (by omega)⟩
    rw [f_X9_undo_25, if_pos (by decide)]
    have z1 : ∀ v, gI (sI N 170 j v) 119 46 = nI j := fun v => by simp (disch := omega) only [gI_s, gL_s, gB_s, gI_ne, gL_ne, gB_ne, gI_tL, gI_tB, gL_tI, gL_tB, gB_tI, gB_tL]; exact hs
    have z2 : ∀ v, gI (sI N 170 j v) 182 (6 * j + d) = gI N 182 (6 * j + d) := fun v => by simp (disch := omega) only [gI_s, gL_s, gB_s, gI_ne, gL_ne, gB_ne, gI_tL, gI_tB, gL_tI, gL_tB, gB_tI, gB_tL]
    simp only [hs, nI_clamp (show j < 2 ^ 31 by omega), inR_nI hj (by decide), gd_w, lt_w, mx (K := 6) 6 j d rfl, inR_nI (show 6 * j + d < 24 by omega) (by decide), nI_clamp (show 6 * j + d < 2 ^ 31 by omega), z1, z2]
  | r + 1, k, F, N, hk, hF, hs => by
    obtain ⟨F, rfl⟩ : ∃ f, F = f + 1 := ⟨F - 1, by omega⟩
    rw [f_X9_undo_25, if_neg (show ¬ (40 : Int32) ≤ nI k from nI_ge (b := 40) (by omega) (by decide))]
    have z1 : ∀ u v, gI (sB N 163 u v) 119 46 = nI j := fun u v => by simp (disch := omega) only [gI_s, gL_s, gB_s, gI_ne, gL_ne, gB_ne, gI_tL, gI_tB, gL_tI, gL_tB, gB_tI, gB_tL]; exact hs
    have z2 : ∀ u v u' v', gI (sI (sB N 163 u v) 164 u' v') 119 46 = nI j := fun u v u' v' => by simp (disch := omega) only [gI_s, gL_s, gB_s, gI_ne, gL_ne, gB_ne, gI_tL, gI_tB, gL_tI, gL_tB, gB_tI, gB_tL]; exact hs
    have z3 : ∀ u v u' v' u'' v'', gI (sL (sI (sB N 163 u v) 164 u' v') 165 u'' v'') 119 46 = nI j := fun u v u' v' u'' v'' => by simp (disch := omega) only [gI_s, gL_s, gB_s, gI_ne, gL_ne, gB_ne, gI_tL, gI_tB, gL_tI, gL_tB, gB_tI, gB_tL]; exact hs
    have z4 : ∀ u v u' v' u'' v'' u3 v3, gI (sI (sL (sI (sB N 163 u v) 164 u' v') 165 u'' v'') 166 u3 v3) 119 46 = nI j := fun u v u' v' u'' v'' u3 v3 => by simp (disch := omega) only [gI_s, gL_s, gB_s, gI_ne, gL_ne, gB_ne, gI_tL, gI_tB, gL_tI, gL_tB, gB_tI, gB_tL]; exact hs
    simp only [lt_w, z1, z2, z3, z4, hs, mx (K := 40) 40 j k rfl, mx (K := 40) 40 d k rfl, inR_nI (show 40 * j + k < 160 by omega) (by decide), inR_nI (show 40 * d + k < 240 by omega) (by decide), gd_w, nI_clamp (show 40 * j + k < 2 ^ 31 by omega), nI_clamp (show 40 * d + k < 2 ^ 31 by omega), nI_1, iB_b]
    obtain ⟨N', h1, h4, h5, h2, h3⟩ := undo_lp hj hd r (k + 1) F (sI (sI (sL (sI (sB N 163 (40 * j + k) (gB N 183 (40 * d + k))) 164 (40 * j + k) (gI N 184 (40 * d + k))) 165 (40 * j + k) (gL N 185 (40 * d + k))) 166 (40 * j + k) (gI N 186 (40 * d + k))) 167 (40 * j + k) (gI N 187 (40 * d + k))) (by omega) (by omega) (by simp (disch := omega) only [gI_s, gL_s, gB_s, gI_ne, gL_ne, gB_ne, gI_tL, gI_tB, gL_tI, gL_tB, gB_tI, gB_tL]; exact hs)
    refine ⟨N', ?_, ?_, ?_, ?_, ?_⟩
    · rw [← h1]
      congr 1
    · rw [h4]; simp (disch := omega) only [gI_s, gL_s, gB_s, gI_ne, gL_ne, gB_ne, gI_tL, gI_tB, gL_tI, gL_tB, gB_tI, gB_tL]
    · rw [h5]; simp (disch := omega) only [gI_s, gL_s, gB_s, gI_ne, gL_ne, gB_ne, gI_tL, gI_tB, gL_tI, gL_tB, gB_tI, gB_tL]
    · refine Ag.tr ?_ (h2.mo (fun q' i z => by omega))
      exact ((((Ag.rf.tB (by omega)).tI (by omega)).tL (by omega)).tI (by omega)).tI (by omega)
    · intro c c1 c2
      by_cases z : c = k
      · subst z
        unfold cp5
        rw [h2.b (by omega), h2.i (by omega), h2.l (by omega), h2.i (by omega), h2.i (by omega)]
        simp (disch := omega) only [gI_s, gL_s, gB_s, gI_ne, gL_ne, gB_ne, gI_tL, gI_tB, gL_tI, gL_tB, gB_tI, gB_tL]
        exact ⟨trivial, trivial, trivial, trivial, trivial⟩
      · have := h3 c (by omega) c2
        unfold cp5 at this ⊢
        rw [this.1, this.2.1, this.2.2.1, this.2.2.2.1, this.2.2.2.2]
        simp (disch := omega) only [gI_s, gL_s, gB_s, gI_ne, gL_ne, gB_ne, gI_tL, gI_tB, gL_tI, gL_tB, gB_tI, gB_tL]
        exact ⟨trivial, trivial, trivial, trivial, trivial⟩
theorem undo_eq {j d : Nat} {N : Mem} (hj : j < 4) (hd : d < 6) (hs : gI N 119 46 = nI j) (hp : gI N 176 j = nI (d + 1)) : ∃ N', f_X9_undo N = some N' ∧ gI N' 176 j = nI d ∧ gI N' 170 j = gI N 181 (6 * j + d) ∧ gI N' 172 j = gI N 182 (6 * j + d) ∧ Ag (fun q' i => ¬ ((q' = 176 ∧ i = j) ∨ (163 ≤ q' ∧ q' ≤ 167 ∧ 40 * j ≤ i ∧ i < 40 * j + 40) ∨ (q' = 170 ∧ i = j) ∨ (q' = 172 ∧ i = j))) N N' ∧ ∀ c, c < 40 → cp5 N N' 183 (40 * d) 163 (40 * j) c := by
  have e1 : nI (d + 1) - 1 = nI d := pk_sub (a := d + 1) (b := 1) (by omega)
  obtain ⟨N', h1, h2, h3, h4, h5⟩ := undo_lp hj hd 40 0 FU (sI N 176 j (nI d)) (by omega) (by unfold FU; omega) (by simp (disch := omega) only [gI_s, gL_s, gB_s, gI_ne, gL_ne, gB_ne, gI_tL, gI_tB, gL_tI, gL_tB, gB_tI, gB_tL]; exact hs)
  refine ⟨N', ?_, ?_, ?_, ?_, ?_, ?_⟩
  · unfold f_X9_undo
    have z1 : ∀ v, gI (sI N 176 j v) 119 46 = nI j := fun v => by simp (disch := omega) only [gI_s, gL_s, gB_s, gI_ne, gL_ne, gB_ne, gI_tL, gI_tB, gL_tI, gL_tB, gB_tI, gB_tL]; exact hs
    simp only [hs, nI_clamp (show j < 2 ^ 31 by omega), inR_nI hj (by decide), gd_w, lt_w, hp, e1, z1, gI_s]
    exact h1
  · rw [h4.i (by omega)]; simp (disch := omega) only [gI_s, gL_s, gB_s, gI_ne, gL_ne, gB_ne, gI_tL, gI_tB, gL_tI, gL_tB, gB_tI, gB_tL]
  · rw [h2]; simp (disch := omega) only [gI_s, gL_s, gB_s, gI_ne, gL_ne, gB_ne, gI_tL, gI_tB, gL_tI, gL_tB, gB_tI, gB_tL]
  · rw [h3]; simp (disch := omega) only [gI_s, gL_s, gB_s, gI_ne, gL_ne, gB_ne, gI_tL, gI_tB, gL_tI, gL_tB, gB_tI, gB_tL]
  · exact (Ag.rf.tI (by omega)).tr (h4.mo (fun q' i z => by omega))
  · intro c hc
    have := h5 c (by omega) hc
    unfold cp5 at this ⊢
    rw [this.1, this.2.1, this.2.2.1, this.2.2.2.1, this.2.2.2.2]
    simp (disch := omega) only [gI_s, gL_s, gB_s, gI_ne, gL_ne, gB_ne, gI_tL, gI_tB, gL_tI, gL_tB, gB_tI, gB_tL]
    exact ⟨trivial, trivial, trivial, trivial, trivial⟩

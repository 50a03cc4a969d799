theorem KR.kn {j d : Nat} {N N' : Mem} (h : Ag (KN j) N N') : Ag (KR j d) N N' := by
  refine h.mo (fun q' i z w => z ?_)
  rcases w with w | w | w | w | w | w
  · exact Or.inl ⟨w.1, by omega⟩
  · exact Or.inr (Or.inl w)
  · exact Or.inr (Or.inr (Or.inl w))
  · exact Or.inr (Or.inr (Or.inr (Or.inl w)))
  · exact Or.inr (Or.inr (Or.inr (Or.inr (Or.inl w))))
  · exact Or.inr (Or.inr (Or.inr (Or.inr (Or.inr (Or.inl w)))))
theorem KC.ks {q d : Nat} {M M' : Mem} (h : Ag (KS q) M M') : Ag (KC q d) M M' := by
  refine h.mo (fun q' i z w => z ?_)
  rcases w with w | w | w
  · exact Or.inl ⟨w.1, w.2.1, w.2.2.1⟩
  · exact Or.inr (Or.inl w)
  · exact Or.inr (Or.inr (Or.inr (Or.inl w)))
theorem bd_id {α : Type} (o : Option α) : (Option.bind o fun r => some r) = o := by cases o <;> rfl
section
variable {q j d n m a tr p F o : Nat} {M N : Mem}
theorem gs_hd (hj : j < 4) (hd : d < 6) (htr : tr < 16) (hp24 : p < 24) (h7 : gI N 177 (6 * j + d) = nI tr) (h8 : gI N 178 (6 * j + d) = nI p) (hn : gI N 119 48 = nI n) (hs : gI N 119 46 = nI j) (hp : gI N 176 j = nI (d + 1)) (ho : o < 20) (hop : gI N 129 (24 * tr + p) = nI o) :
    f_X9_goStep N (nI (6 * j + d)) = if o < 16 ∨ o = 19 then Option.bind (f_X9_act (sI N 119 48 (nI (n + 1))) (nI o) (gI N 130 (24 * tr + p)) (gI N 131 (24 * tr + p))) (fun r => if gI r 119 78 = 0 then some (sI r 178 (6 * j + d) (gI r 178 (6 * j + d) + 1)) else some r) else GP j d o p (gI N 130 (24 * tr + p)) (sI N 119 48 (nI (n + 1))) := by
  unfold f_X9_goStep
  rw [inR_nI (show 6 * j + d < 24 by omega) (by decide), gd_w, gd_w, nI_clamp (show 6 * j + d < 2 ^ 31 by omega), h7, h8, mx (K := 24) 24 tr p rfl, lt_w, inR_nI (show 24 * tr + p < 384 by omega) (by decide), gd_w, nI_clamp (show 24 * tr + p < 2 ^ 31 by omega), hop, lt_w, hn, nI_1, lt_w]
  have r130 : ∀ i, gI (sI N 119 48 (nI (n + 1))) 130 i = gI N 130 i := fun i => gI_ne (Or.inl (by decide))
  have r131 : ∀ i, gI (sI N 119 48 (nI (n + 1))) 131 i = gI N 131 i := fun i => gI_ne (Or.inl (by decide))
  have t46 : ∀ v3, f_X9_goStep_46 (sI N 119 48 (nI (n + 1))) (nI (6 * j + d)) (nI (24 * tr + p)) v3 = Option.bind (f_X9_act (sI N 119 48 (nI (n + 1))) v3 (gI N 130 (24 * tr + p)) (gI N 131 (24 * tr + p))) (fun r => if gI r 119 78 = 0 then some (sI r 178 (6 * j + d) (gI r 178 (6 * j + d) + 1)) else some r) := by
    intro v3
    unfold f_X9_goStep_46
    simp only [inR_nI (show 24 * tr + p < 384 by omega) (by decide), gd_w, nI_clamp (show 24 * tr + p < 2 ^ 31 by omega), r130, r131, inR_nI (show 6 * j + d < 24 by omega) (by decide), nI_clamp (show 6 * j + d < 2 ^ 31 by omega), lt_w]
  by_cases h16 : o < 16
  · rw [if_pos (show nI o < 16 from nI_lt (b := 16) h16 (by decide)), if_pos (Or.inl h16), t46]
  · rw [if_neg (show ¬ nI o < 16 from nI_nlt (b := 16) (by omega) (by omega))]
    by_cases h19 : o = 19
    · subst h19
      rw [if_pos (show nI 19 = 19 from rfl), if_pos (Or.inr rfl), t46]
    · rw [if_neg (show ¬ nI o = 19 from fun w => h19 ((nI_eq (a := o) (b := 19) (by omega) (by omega)).mp w)), if_neg (show ¬ (o < 16 ∨ o = 19) by omega)]
      have hs1 : gI (sI N 119 48 (nI (n + 1))) 119 46 = nI j := by simp (disch := omega) only [gI_s, gI_ne]; exact hs
      have hp1 : gI (sI N 119 48 (nI (n + 1))) 176 j = nI (d + 1) := by simp (disch := omega) only [gI_s, gI_ne]; exact hp
      have h81 : ∀ u v w, gI (sL (sI (sI (sI N 119 48 (nI (n + 1))) 119 78 u) 119 78 v) 119 47 w) 178 (6 * j + d) = nI p := by
        intro u v w
        simp (disch := omega) only [gI_s, gI_ne, gI_tL]; exact h8
      rw [hs1, inR_nI hj (by decide), gd_w, nI_clamp (show j < 2 ^ 31 by omega), hp1]
      unfold GP
      by_cases z : d = 5
      · subst z
        rw [if_pos (show nI (5 + 1) = 6 from rfl), if_pos rfl, lt_w]
        by_cases y : o = 17
        · subst y
          rw [if_pos (show nI 17 = 17 from rfl), if_pos rfl, lt_w, lt_w, gd_w, gd_w, lt_w, h81, nI_1]
        · rw [if_neg y, if_neg (show ¬ nI o = 17 from fun w => y ((nI_eq (a := o) (b := 17) (by omega) (by omega)).mp w))]
      · rw [if_neg (show ¬ nI (d + 1) = 6 from fun w => z (by have := (nI_eq (a := d + 1) (b := 6) (by omega) (by omega)).mp w; omega)), if_neg z, gd_w, r130, show nI o - 16 = nI (o - 16) from pk_sub (a := o) (b := 16) (by omega), bd_id]
theorem act13 {s1 : Nat} {a2 : Int32} (hj : j < 4) (hd : d < 6) (h8 : gI N 178 (6 * j + d) = nI p) (hs : gI N 119 46 = nI j) (hp : gI N 176 j = nI (d + 1)) : f_X9_act N (nI 13) (nI s1) a2 = some (sI N 178 (6 * j + d) (nI (p + if gL N 119 47 = 0 then s1 else 0))) := by
  show f_X9_act N 13 (nI s1) a2 = _
  unfold f_X9_act
  repeat (first | rw [if_pos (by decide)] | rw [if_neg (by decide)])
  rw [hs, inR_nI hj (by decide), gd_w, nI_clamp (show j < 2 ^ 31 by omega), hp, mx (K := 6) 6 j (d + 1) rfl, show nI (6 * j + (d + 1)) - 1 = nI (6 * j + d) from pk_sub (a := 6 * j + (d + 1)) (b := 1) (by omega), inR_nI (show 6 * j + d < 24 by omega) (by decide), gd_w, nI_clamp (show 6 * j + d < 2 ^ 31 by omega), h8]
  unfold f_X9_act_426
  rw [inR_nI (show 6 * j + d < 24 by omega) (by decide), nI_clamp (show 6 * j + d < 2 ^ 31 by omega)]
  by_cases z : gL N 119 47 = 0
  · rw [if_pos z, if_pos z, gd_w, lt_w, nI_add]
  · rw [if_neg z, if_neg z, gd_w, lt_w, show (0 : Int32) = nI 0 from rfl, nI_add]
theorem lp_end {D : Mem → Int32 → Int32 → Option (Int32 × Mem)} {G : Nat} (htr : tr < 16) (v2 v4 e : Int32) (he : ¬ e = 0) : f_X0_doTrade_14 D q (G + 1) M (nI tr) v2 e v4 = some (e, M) := by
  rw [f_X0_doTrade_14, inR_nI htr (by decide), gd_w, if_neg he, ite_self]
theorem okS_13 {a1 a2 : Int32} (h : okS (nI 13) a1 a2) : ∃ s, s ≤ 24 ∧ a1 = nI s := by
  unfold okS f_X9_isStep at h
  repeat (first | rw [if_pos (by decide)] at h | rw [if_neg (by decide)] at h)
  rw [in9_24, sb_w] at h
  rcases ix3 a1 (n := 25) (by decide) with ⟨z, -⟩ | ⟨c, hc, e, -⟩
  · rw [z] at h; cases h
  · exact ⟨c, by omega, e⟩
theorem okS_pt {a1 a2 : Int32} (ho : o = 16 ∨ o = 17 ∨ o = 18) (h : okS (nI o) a1 a2) : (∃ s, s < 16 ∧ a1 = nI s) ∧ (o = 18 → ∃ s, s < 16 ∧ a2 = nI s) := by
  unfold okS f_X9_isStep at h
  rcases ho with rfl | rfl | rfl
  · repeat (first | rw [if_pos (by decide)] at h | rw [if_neg (by decide)] at h)
    rw [trade9, sb_w] at h
    rcases ix3 a1 (n := 16) (by decide) with ⟨z, -⟩ | ⟨c, hc, e, -⟩
    · rw [z] at h; cases h
    · exact ⟨⟨c, hc, e⟩, fun w => absurd w (by decide)⟩
  · repeat (first | rw [if_pos (by decide)] at h | rw [if_neg (by decide)] at h)
    rw [trade9, sb_w] at h
    rcases ix3 a1 (n := 16) (by decide) with ⟨z, -⟩ | ⟨c, hc, e, -⟩
    · rw [z] at h; cases h
    · exact ⟨⟨c, hc, e⟩, fun w => absurd w (by decide)⟩
  · repeat (first | rw [if_pos (by decide)] at h | rw [if_neg (by decide)] at h)
    rw [trade9, sb_w, trade9, sb_w] at h
    rcases ix3 a1 (n := 16) (by decide) with ⟨z, -⟩ | ⟨c, hc, e, -⟩
    · rw [z, if_pos bI_f] at h; cases h
    · rcases ix3 a2 (n := 16) (by decide) with ⟨z, -⟩ | ⟨c2, hc2, e2, -⟩
      · rw [z, if_pos bI_f] at h
        split at h <;> cases h
      · exact ⟨⟨c, hc, e⟩, fun _ => ⟨c2, hc2, e2⟩⟩
theorem cd_0 : cd 0 = 0 := by decide
set_option maxHeartbeats 4000000 in
theorem sim_lp (hq : 65 ≤ q) (hj : j < 4) (hd : d < 6) (IH : d < 5 → SIM q j (d + 1)) : ∀ r n m a p F G (M N : Mem), r = 40 - n → HD q j d n m a tr p M N → 3 * (40 - n) + (d + 1) + 1 < F → 40 - n + 1 < G →
    ∃ e M', f_X0_doTrade_14 (f_T q (6 - d)) q G M (nI tr) (nI d) 0 (nI p) = some (e, M') ∧ Out q j d n m a tr M N (f_X9_attempt_117 F N (nI j) 1) e M' := by
  intro r
  induction r using Nat.strongRecOn with
  | _ r ih =>
  intro n m a p F G M N hr H hF hG
  have ⟨T, RT, hp, h7, h8, hf, mn, an, n40, htr, hp48⟩ := H
  obtain ⟨G, rfl⟩ : ∃ g, G = g + 1 := ⟨G - 1, by omega⟩
  obtain ⟨F, rfl⟩ : ∃ g, F = g + 1 := ⟨F - 1, by omega⟩
  obtain ⟨s, s24, e12, e128, okAll⟩ := RT.1 tr htr
  rw [f_X0_doTrade_14, inR_nI htr (by decide), gd_w, nI_clamp (show tr < 2 ^ 31 by omega), e12]
  by_cases hps : s ≤ p
  · rw [if_pos (nI_le hps (by omega))]
    exact ⟨0, M, rfl, Or.inl ⟨rfl, F + 1, N, n, m, a, p, s, rfl, H, e128, hps, Nat.le_refl _, Nat.le_refl _, Nat.le_refl _, hF, Ag.rf, Ag.rf⟩⟩
  · rw [if_neg (nI_ge (by omega) (by omega)), if_pos rfl, inR_nI hd (by decide), gd_w, lt_w, gd_w, lt_w, lt_w, nI_clamp (show d < 2 ^ 31 by omega), nI_1]
    have hp24 : p < 24 := by omega
    generalize hM3 : sI (sI (sI M (q + 6) d (nI tr)) (q + 7) d (nI p)) q 10 (nI (d + 1)) = M3
    have A3 : Ag (fun q' i => ¬ ((q' = q + 6 ∧ i = d) ∨ (q' = q + 7 ∧ i = d) ∨ (q' = q ∧ i = 10))) M M3 := by rw [← hM3]; exact ((Ag.rf.tI (by omega)).tI (by omega)).tI (by omega)
    have w7 : gI M3 (q + 6) d = nI tr := by rw [← hM3]; simp (disch := omega) only [gI_s, gI_ne]
    have w8 : gI M3 (q + 7) d = nI p := by rw [← hM3]; simp (disch := omega) only [gI_s, gI_ne]
    have w10 : gI M3 q 10 = nI (d + 1) := by rw [← hM3]; simp (disch := omega) only [gI_s, gI_ne]
    clear hM3
    have T3 : TA q j n m a M3 N := T.ag (A3.mo (fun q' i z => by unfold PM at z; omega)) Ag.rf
    have AK3 : Ag (KC q d) M M3 := A3.mo (fun q' i z => by unfold KC at z; omega)
    have RT3 : RTr M3 N := RT.ag A3 (Ag.rf (P := fun _ _ => True)) (fun q' i z => by omega) (fun _ _ _ => trivial)
    rw [T3.st]
    by_cases h40 : n = 40
    · subst h40
      rw [if_neg (show ¬ nI 40 < 40 by decide), head_lt hj hd htr hp h7 h8 e128 s24 (by omega) T.st' (Nat.le_refl _), if_pos rfl]
      refine ⟨10, M3, rfl, Or.inr ⟨10, rfl, F, sI N 119 78 10, 40, m, a, d + 1, ?_, ?_, ?_, by omega, by omega, Nat.le_refl _, by omega, ?_, fun f g1 g2 => absurd g1 (by omega), w10, ?_, mn, an, n40, Nat.le_refl _, Nat.le_refl _, Nat.le_refl _, by omega, fun w => absurd rfl w, AK3, ?_⟩⟩
      · unfold CT
        rw [if_pos rfl]
      · exact T3.ag Ag.rf (Ag.rf.tI (by unfold PN; omega))
      · rw [gI_s]; decide
      · simp (disch := omega) only [gI_s, gI_ne]; exact hp
      · intro i g1 g2
        have : i = d := by omega
        subst this
        simp (disch := omega) only [gI_s, gI_ne]
        exact ⟨w7.trans h7.symm, w8.trans h8.symm⟩
      · exact Ag.rf.tI (by unfold KR; omega)
    · rw [if_pos (show nI n < 40 from nI_lt (b := 40) (by omega) (by decide)), lt_w, nI_1, mx2 (K := 24) 24 tr p rfl, lt_w, inR_nI (show 24 * tr + p < 384 by omega) (by decide), gd_w, nI_clamp (show 24 * tr + p < 2 ^ 31 by omega), lt_w]
      have hR : f_X9_attempt_117 (F + 1) N (nI j) 1 = Option.bind (f_X9_goStep N (nI (6 * j + d))) (TL F j) := by
        rw [head_lt hj hd htr hp h7 h8 e128 s24 (by omega) T.st' n40, if_neg h40]
        rfl
      rw [hR]
      have T4 := T3.pn
      have A4 : Ag (fun q' i => ¬ (q' = q ∧ i = 5)) M3 (sI M3 q 5 (nI (n + 1))) := Ag.rf.tI (by omega)
      have B4 : Ag (fun q' i => ¬ (q' = 119 ∧ i = 48)) N (sI N 119 48 (nI (n + 1))) := Ag.rf.tI (by omega)
      have RT4 : RTr (sI M3 q 5 (nI (n + 1))) (sI N 119 48 (nI (n + 1))) := RT3.ag A4 B4 (fun q' i z => by omega) (fun q' i z => by omega)
      have AK4 : Ag (KC q d) M (sI M3 q 5 (nI (n + 1))) := AK3.tr (A4.mo (fun q' i z => by unfold KC at z; omega))
      have BK4 : Ag (KR j d) N (sI N 119 48 (nI (n + 1))) := Ag.rf.tI (by unfold KR; omega)
      obtain ⟨e14, e15, e16⟩ := RT4.2 (24 * tr + p) (by omega)
      have ok := okAll p (by omega)
      have x129 : gI (sI N 119 48 (nI (n + 1))) 129 (24 * tr + p) = gI N 129 (24 * tr + p) := B4.i (by omega)
      have x130 : gI (sI N 119 48 (nI (n + 1))) 130 (24 * tr + p) = gI N 130 (24 * tr + p) := B4.i (by omega)
      have x131 : gI (sI N 119 48 (nI (n + 1))) 131 (24 * tr + p) = gI N 131 (24 * tr + p) := B4.i (by omega)
      obtain ⟨o, ho, hop⟩ := okS_k ok
      rw [hop] at ok x129
      rw [x129] at e14
      rw [x130] at e15
      rw [x131] at e16
      rw [gs_hd hj hd htr hp24 h7 h8 T.st' T.sl hp ho hop, e14]
      have hp4 : gI (sI N 119 48 (nI (n + 1))) 176 j = nI (d + 1) := by rw [B4.i (by omega)]; exact hp
      have h74 : gI (sI N 119 48 (nI (n + 1))) 177 (6 * j + d) = nI tr := by rw [B4.i (by omega)]; exact h7
      have h84 : gI (sI N 119 48 (nI (n + 1))) 178 (6 * j + d) = nI p := by rw [B4.i (by omega)]; exact h8
      have hf4 : gI (sI N 119 48 (nI (n + 1))) 119 78 = 0 := by rw [B4.i (by omega)]; exact hf
      have w74 : gI (sI M3 q 5 (nI (n + 1))) (q + 6) d = nI tr := by rw [A4.i (by omega)]; exact w7
      have w84 : gI (sI M3 q 5 (nI (n + 1))) (q + 7) d = nI p := by rw [A4.i (by omega)]; exact w8
      have w104 : gI (sI M3 q 5 (nI (n + 1))) q 10 = nI (d + 1) := by rw [A4.i (by omega)]; exact w10
      generalize hM4 : sI M3 q 5 (nI (n + 1)) = M4 at *
      generalize hN4 : sI N 119 48 (nI (n + 1)) = N4 at *
      clear hM4 hN4 A4
      by_cases o13 : o = 13
      · subst o13
        rw [if_pos (show nI 13 = 13 from rfl), if_pos (show 13 < 16 ∨ 13 = 19 from Or.inl (by omega))]
        obtain ⟨s1, hs1, es1⟩ := okS_13 ok
        rw [es1, act13 hj hd h84 T4.sl hp4, sb_w]
        have hx := T4.x
        have key : (if gL M4 q 6 = 0 then gd true (f_X0_doTrade_129 (f_T q (6 - d)) q (f_X0_doTrade_14 (f_T q (6 - d)) q G) M4 (nI tr) (nI d) 0 (gI M4 15 (24 * tr + p)) (nI p)) else f_X0_doTrade_129 (f_T q (6 - d)) q (f_X0_doTrade_14 (f_T q (6 - d)) q G) M4 (nI tr) (nI d) 0 0 (nI p)) = f_X0_doTrade_14 (f_T q (6 - d)) q G M4 (nI tr) (nI d) 0 (nI ((p + if gL N4 119 47 = 0 then s1 else 0) + 1)) := by
          rw [gd_w, e15, es1, ← hx]
          unfold f_X0_doTrade_129 f_X0_doTrade_214
          by_cases z : gL M4 q 6 = 0
          · rw [if_pos z, if_pos z, lt_w, lt_w, nI_add, nI_1]
          · rw [if_neg z, if_neg z, lt_w, lt_w, show (0 : Int32) = nI 0 from rfl, nI_add, nI_1]
        rw [key]
        generalize hpp : (p + if gL N4 119 47 = 0 then s1 else 0) = p2
        have hp2 : p2 ≤ p + 24 := by rw [← hpp]; split <;> omega
        rw [show gI (sI N4 178 (6 * j + d) (nI p2)) 119 78 = 0 by simp (disch := omega) only [gI_s, gI_ne]; exact hf4, if_pos rfl, gI_s, nI_1, sb_w, TL_0 (by simp (disch := omega) only [gI_s, gI_ne]; exact hf4)]
        have B5 : Ag (fun q' i => ¬ (q' = 178 ∧ i = 6 * j + d)) N4 (sI (sI N4 178 (6 * j + d) (nI p2)) 178 (6 * j + d) (nI (p2 + 1))) := (Ag.rf.tI (by omega)).tI (by omega)
        obtain ⟨e, M', d1, d2⟩ := ih (40 - (n + 1)) (by omega) (n + 1) m a (p2 + 1) F G M4 (sI (sI N4 178 (6 * j + d) (nI p2)) 178 (6 * j + d) (nI (p2 + 1))) rfl
          ⟨T4.ag Ag.rf (B5.mo (fun q' i z => by unfold PN at z; omega)), RT4.ag (Ag.rf (P := fun _ _ => True)) B5 (fun _ _ _ => trivial) (fun q' i z => by omega), by rw [B5.i (by omega)]; exact hp4, by rw [B5.i (by omega)]; exact h74, gI_s, by rw [B5.i (by omega)]; exact hf4, by omega, by omega, by omega, htr, by omega⟩ (by omega) (by omega)
        exact ⟨e, M', d1, d2.pre (by omega) (Nat.le_refl _) (Nat.le_refl _) AK4 (BK4.tr (B5.mo (fun q' i z => by intro w; exact z (Or.inr (Or.inr (Or.inr (Or.inr (Or.inr (Or.inr (Or.inr (Or.inl ⟨w.1, by omega, by omega⟩))))))))))) ⟩
      · rw [if_neg (show ¬ nI o = 13 from fun w => o13 ((nI_eq (a := o) (b := 13) (by omega) (by omega)).mp w))]
        by_cases opt : o = 16 ∨ o = 17 ∨ o = 18
        · have key : (if nI o = 16 then f_X0_doTrade_156 (f_T q (6 - d)) q (f_X0_doTrade_14 (f_T q (6 - d)) q G) M4 (nI tr) (nI d) (nI p) (nI (24 * tr + p)) (nI o) else if nI o = 17 then f_X0_doTrade_156 (f_T q (6 - d)) q (f_X0_doTrade_14 (f_T q (6 - d)) q G) M4 (nI tr) (nI d) (nI p) (nI (24 * tr + p)) (nI o) else if nI o = 18 then f_X0_doTrade_156 (f_T q (6 - d)) q (f_X0_doTrade_14 (f_T q (6 - d)) q G) M4 (nI tr) (nI d) (nI p) (nI (24 * tr + p)) (nI o) else (gd true <| gd true <| Option.bind (f_X0_doStep q M4 (nI o) (gI M4 15 (24 * tr + p)) (gI M4 16 (24 * tr + p))) fun r_1 => f_X0_doTrade_214 (f_T q (6 - d)) q (f_X0_doTrade_14 (f_T q (6 - d)) q G) r_1.2 (nI tr) (nI d) r_1.1 (nI p))) = f_X0_doTrade_156 (f_T q (6 - d)) q (f_X0_doTrade_14 (f_T q (6 - d)) q G) M4 (nI tr) (nI d) (nI p) (nI (24 * tr + p)) (nI o) := by
            rcases opt with rfl | rfl | rfl
            · rw [if_pos (show nI 16 = 16 from rfl)]
            · rw [if_neg (show ¬ nI 17 = 16 by decide), if_pos (show nI 17 = 17 from rfl)]
            · rw [if_neg (show ¬ nI 18 = 16 by decide), if_neg (show ¬ nI 18 = 17 by decide), if_pos (show nI 18 = 18 from rfl)]
          rw [key, if_neg (show ¬ (o < 16 ∨ o = 19) by omega)]
          have pot : 3 * (40 - (n + 1)) + (d + 2) + 1 < F := by omega
          have mn1 : m ≤ n + 1 := by omega
          have an1 : a ≤ n + 1 := by omega
          have n41 : n + 1 ≤ 40 := by omega
          have d5 : ¬ d = 5 → d < 5 := by omega
          have i384 : 24 * tr + p < 384 := by omega
          have i231 : 24 * tr + p < 2 ^ 31 := by omega
          obtain ⟨⟨t1, ht1, et1⟩, h18⟩ := okS_pt opt ok
          unfold f_X0_doTrade_156
          rw [inR_nI i384 (by decide), gd_w, gd_w, nI_clamp i231, e15, e16, et1]
          have hpart : ∃ e M', f_X0_doPart (f_T q (6 - d)) q M4 (nI o) (nI t1) (gI N 131 (24 * tr + p)) (nI d) = some (e, M') ∧ POut q j d (n + 1) m a tr p M4 N4 (Option.bind (GP j d o p (nI t1) N4) (TL F j)) e M' := by
            by_cases z : d = 5
            · exact part5 hq hj z T4 RT4 hp4 h74 h84 mn1 an1 n41 htr hp24 w74 w84 w104 opt _ pot
            · refine part4 hq hj (d5 z) (IH (d5 z)) T4 RT4 hp4 h74 h84 hf4 mn1 an1 n41 htr hp24 w74 w84 opt ht1 _ (fun z => ⟨x131.symm, ?_⟩) pot
              obtain ⟨t2, x1, x2⟩ := h18 z
              exact ⟨t2, x1, x2⟩
          clear h18
          obtain ⟨e, M', c1, c2⟩ := hpart
          rw [c1, sb_w]
          unfold f_X0_doTrade_214
          rw [lt_w, nI_1]
          rcases c2 with ⟨e0, F2, N2, n2, m2, a2, hR2, H2, hn2, hm2, ha2, hF2, A, B⟩ | ⟨k, ek, O⟩
          · have H2n : n2 ≤ 40 := H2.2.2.2.2.2.2.2.2.1
            obtain ⟨e', M'', d1, d2⟩ := ih (40 - n2) (by omega) n2 m2 a2 (p + 1) F2 G M' N2 rfl H2 hF2 (by omega)
            subst e0
            refine ⟨e', M'', d1, ?_⟩
            rw [hR2]
            exact d2.pre (by omega) hm2 ha2 (AK4.tr A) (BK4.tr B)
          · have O1 := O
            obtain ⟨-, -, -, -, -, -, -, -, -, k1, k11, -⟩ := O1
            obtain ⟨G, rfl⟩ : ∃ g, G = g + 1 := ⟨G - 1, by omega⟩
            have e0 : ¬ e = 0 := by rw [ek]; exact nI_ne0 (by omega) (by omega)
            refine ⟨e, M', lp_end htr _ _ _ e0, Or.inr ⟨k, ek, O.pre (by omega) (Nat.le_refl _) (Nat.le_refl _) AK4 BK4⟩⟩
        · rw [if_neg (show ¬ nI o = 16 from fun w => opt (Or.inl ((nI_eq (a := o) (b := 16) (by omega) (by omega)).mp w))), if_neg (show ¬ nI o = 17 from fun w => opt (Or.inr (Or.inl ((nI_eq (a := o) (b := 17) (by omega) (by omega)).mp w)))), if_neg (show ¬ nI o = 18 from fun w => opt (Or.inr (Or.inr ((nI_eq (a := o) (b := 18) (by omega) (by omega)).mp w)))), if_pos (show o < 16 ∨ o = 19 by omega), gd_w, gd_w, e15, e16]
          obtain ⟨k, M', N', m', a', c1, c2, c3, c4, T5, c6, c7, c8, c9⟩ := op_all (M0 := M4) (N0 := N4) ⟨T4, Ag.rf, Ag.rf⟩ hj hf4 (by omega) (by omega) (by omega) ok (fun w => o13 ((nI_eq (a := o) (b := 13) (by omega) (by omega)).mp w)) (fun w => opt (Or.inl ((nI_eq (a := o) (b := 16) (by omega) (by omega)).mp w))) (fun w => opt (Or.inr (Or.inl ((nI_eq (a := o) (b := 17) (by omega) (by omega)).mp w)))) (fun w => opt (Or.inr (Or.inr ((nI_eq (a := o) (b := 18) (by omega) (by omega)).mp w))))
          rw [c1, sb_w, c2, sb_w, c3]
          unfold f_X0_doTrade_214
          rw [lt_w, nI_1]
          have AK5 : Ag (KC q d) M M' := AK4.tr (KC.ks T5.k)
          have BK5 : Ag (KR j d) N N' := BK4.tr (KR.kn T5.k')
          have RT5 : RTr M' N' := RT4.ag T5.k T5.k' (fun q' i z => by unfold KS; omega) (fun q' i z => by unfold KN; omega)
          have hp5 : gI N' 176 j = nI (d + 1) := by rw [T5.k'.i (by unfold KN; omega)]; exact hp4
          have h75 : gI N' 177 (6 * j + d) = nI tr := by rw [T5.k'.i (by unfold KN; omega)]; exact h74
          have h85 : gI N' 178 (6 * j + d) = nI p := by rw [T5.k'.i (by unfold KN; omega)]; exact h84
          by_cases k0 : k = 0
          · subst k0
            rw [if_pos cd_0, h85, nI_1, sb_w]
            have f5 : gI (sI N' 178 (6 * j + d) (nI (p + 1))) 119 78 = 0 := by simp (disch := omega) only [gI_s, gI_ne]; rw [c3]; exact cd_0
            rw [TL_0 f5]
            have B5 : Ag (fun q' i => ¬ (q' = 178 ∧ i = 6 * j + d)) N' (sI N' 178 (6 * j + d) (nI (p + 1))) := Ag.rf.tI (by omega)
            obtain ⟨e, M'', d1, d2⟩ := ih (40 - (n + 1)) (by omega) (n + 1) m' a' (p + 1) F G M' (sI N' 178 (6 * j + d) (nI (p + 1))) rfl
              ⟨T5.t.ag Ag.rf (B5.mo (fun q' i z => by unfold PN at z; omega)), RT5.ag (Ag.rf (P := fun _ _ => True)) B5 (fun _ _ _ => trivial) (fun q' i z => by omega), by rw [B5.i (by omega)]; exact hp5, by rw [B5.i (by omega)]; exact h75, gI_s, f5, by omega, by omega, by omega, htr, by omega⟩ (by omega) (by omega)
            exact ⟨e, M'', d1, d2.pre (by omega) c6 c8 AK5 (BK5.tr (B5.mo (fun q' i z => by intro w; exact z (Or.inr (Or.inr (Or.inr (Or.inr (Or.inr (Or.inr (Or.inr (Or.inl ⟨w.1, by omega, by omega⟩)))))))))))⟩
          · have k11 : k ≤ 11 := by omega
            obtain ⟨G, rfl⟩ : ∃ g, G = g + 1 := ⟨G - 1, by omega⟩
            have e0 : ¬ nI k = 0 := nI_ne0 (by omega) (by omega)
            rw [if_neg (cd_le (by omega) k11).2.2.2.2, sb_w, TL_k c3 (by omega) k11 (by omega)]
            refine ⟨nI k, M', lp_end htr _ _ _ e0, Or.inr ⟨k, rfl, F, N', n + 1, m', a', d + 1, rfl, T5.t, c3, by omega, k11, Nat.le_refl _, by omega, hp5, fun f g1 g2 => absurd g1 (by omega), ?_, ?_, c7, c9, by omega, by omega, c6, c8, by omega, fun _ => by omega, AK5, BK5⟩⟩
            · rw [T5.k.i (by unfold KS; omega)]; exact w104
            · intro i g1 g2
              have : i = d := by omega
              subst this
              rw [T5.k.i (by unfold KS; omega), T5.k.i (by unfold KS; omega)]
              exact ⟨w74.trans h75.symm, w84.trans h85.symm⟩
end
theorem sim_all {q j : Nat} (hq : 65 ≤ q) (hj : j < 4) : ∀ r d, d + r = 5 → SIM q j d := by
  intro r
  induction r with
  | zero =>
    intro d hd tr n m a F M N H hF
    have : d = 5 := by omega
    subst this
    obtain ⟨e, M', h1, h2⟩ := sim_lp (d := 5) hq hj (by omega) (fun w => absurd w (by omega)) _ n m a 0 F FU M N rfl H hF (by unfold FU; omega)
    refine ⟨e, M', ?_, h2⟩
    rw [← h1, show 7 - 5 = 1 + 1 from rfl, f_T]
    unfold f_X0_doTrade
    rw [if_pos (show nI 5 < 6 by decide)]
    rfl
  | succ r ih =>
    intro d hd tr n m a F M N H hF
    obtain ⟨e, M', h1, h2⟩ := sim_lp (d := d) hq hj (by omega) (fun _ => ih (d + 1) (by omega)) _ n m a 0 F FU M N rfl H hF (by unfold FU; omega)
    refine ⟨e, M', ?_, h2⟩
    rw [← h1, show 7 - d = (6 - d) + 1 by omega, f_T]
    unfold f_X0_doTrade
    rw [if_pos (show nI d < 6 from nI_lt (b := 6) (by omega) (by decide))]
    rfl

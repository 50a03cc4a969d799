/-- how many cells the reference holds that ticket t's try has read -/
def cr (M : Mem) (t : Nat) : Nat → Nat
  | 0 => 0
  | k + 1 => cr M t k + (gB M 151 (40 * t + k)).toNat
theorem tried_lp {M : Mem} {t : Nat} (ht : t < 20) (v2 : Int32) : ∀ d k n, k + d = 40 → d < n → f_X9_tried_39 M n (nI t) v2 (nI (cr M t k)) (nI k) = if v2 = 0 then some (gI M 149 t) else if v2 = 1 then some (nI (cr M t 40)) else if v2 = 2 then some (gI M 150 t) else some (gI M 152 t)
  | 0, k, n, hk, hd => by
    obtain ⟨n, rfl⟩ : ∃ m, n = m + 1 := ⟨n - 1, by omega⟩
    have : k = 40 := by omega
    subst this
    rw [f_X9_tried_39, if_pos (by decide)]
    simp only [inR_nI ht (show 20 < 2 ^ 31 by decide), gd_t, nI_clamp (show t < 2 ^ 31 by omega)]
  | d + 1, k, n, hk, hd => by
    obtain ⟨n, rfl⟩ : ∃ m, n = m + 1 := ⟨n - 1, by omega⟩
    rw [f_X9_tried_39, show (40 : Int32) = nI 40 from rfl, if_neg (nI_ge (show k < 40 by omega) (by omega))]
    unfold f_X9_tried_67
    simp only [lt_v, mx (K := nI 40) 40 t k rfl, inR_nI (show 40 * t + k < 800 by omega) (by decide), gd_t, nI_clamp (show 40 * t + k < 2 ^ 31 by omega), nI_1]
    have ih := tried_lp (M := M) ht v2 d (k + 1) n (by omega) (by omega)
    cases hb : gB M 151 (40 * t + k) with
    | false =>
      simp only [bI_f, if_true]
      rw [show nI (cr M t k) + 0 = nI (cr M t (k + 1)) by show nI _ + nI 0 = nI (cr M t k + (gB M 151 (40 * t + k)).toNat); rw [hb, nI_add]; rfl]
      exact ih
    | true =>
      simp only [bI_t, i10, if_false]
      rw [show nI (cr M t k + 1) = nI (cr M t (k + 1)) by show _ = nI (cr M t k + (gB M 151 (40 * t + k)).toNat); rw [hb]; rfl]
      exact ih
theorem cb_hi {w : Int64} (h : ∀ c, 40 ≤ c → bt w c = false) : ∀ d, cb w (40 + d) = cb w 40
  | 0 => rfl
  | d + 1 => by
    show cb w (40 + d) + (bt w (40 + d)).toNat = _
    rw [cb_hi h d, h (40 + d) (by omega)]
    rfl
theorem cb_cr {M : Mem} {t : Nat} {w : Int64} (h : ∀ c, w.toBitVec.getLsbD c = (decide (c < 40) && gB M 151 (40 * t + c))) : ∀ k, k ≤ 40 → cb w k = cr M t k
  | 0, _ => rfl
  | k + 1, hk => by
    show cb w k + (bt w k).toNat = cr M t k + _
    rw [cb_cr h k (by omega), show bt w k = (decide (k < 40) && gB M 151 (40 * t + k)) from h k, decide_eq_true (show k < 40 by omega), Bool.true_and]
theorem s_tried : S_tried Rel := by
  intro nT M a b hR
  obtain ⟨e, -, -, -, -, -, -, ⟨hn, t1, t2, t3, -⟩, -⟩ := hR
  unfold f_X8_tried f_X9_tried
  rw [tick8 t1 hn, tick9 t2 hn, in9_3, tle b (hi := 3) (n := 4) (by decide) (by decide)]
  generalize hF : FU = F
  have hF : 40 < F := by rw [← hF]; decide
  rcases ix3 a (n := nT) (by omega) with ⟨h, -⟩ | ⟨t, ht, rfl, h⟩
  · simp only [h, sb_v, bI_f, if_true]
    exact ⟨_, rfl, rfl⟩
  · have hT := t3 t ht
    obtain ⟨-, -, -, -, -, -, -, -, -, ⟨r1, r2, r3⟩, -⟩ := t3 t ht
    simp only [h, sb_v, bI_t, i10, if_false, inR_nI (show t < 20 by omega) (by decide), gd_t, nI_clamp (show t < 2 ^ 31 by omega), ht, decide_true, r1, popC]
    cases h1 : inR b 4 with
    | false =>
      simp only [bI_f, if_true]
      exact ⟨_, rfl, rfl⟩
    | true =>
      simp only [bI_t, i10, if_false]
      cases hh : gB M 148 t with
      | false =>
        simp only [bI_f, if_true]
        exact ⟨_, rfl, rfl⟩
      | true =>
        simp only [bI_t, i10, if_false]
        obtain ⟨q1, q2, ⟨w, hw, w1, w2, -⟩, q4⟩ := r2 hh
        have hl := tried_lp (M := M) (t := t) (by omega) b 40 0 F (by omega) hF
        rw [show nI (cr M t 0) = 0 from rfl, show nI 0 = 0 from rfl] at hl
        rw [hl, q1, q2, w1, w2, show cb (gL M (189 + 4 * t) 11) 64 = cr M t 40 from (cb_hi hT.big 24).trans (cb_cr q4 40 (by omega))]
        split
        · exact ⟨_, rfl, rfl⟩
        · split
          · exact ⟨_, rfl, rfl⟩
          · split
            · exact ⟨_, rfl, rfl⟩
            · exact ⟨_, rfl, rfl⟩

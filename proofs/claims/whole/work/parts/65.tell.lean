/-! waking -/
def lo (w : Int64) : Int32 := (f_X8_leastOf w).getD 0
def wkC (M : Mem) (ch : Int64) (t : Nat) : Bool := decide (gI M (189 + 4 * t) 1 = 3) && !decide (gL M (189 + 4 * t) 11 &&& ch = 0)
def wkv (M : Mem) (ch : Int64) (by_ : Int32) (t i : Nat) : Int32 := if wkC M ch t = true then (if i = 1 then 0 else if i = 7 then lo (gL M (189 + 4 * t) 11 &&& ch) else if i = 8 then by_ else gI M (189 + 4 * t) i) else gI M (189 + 4 * t) i
theorem leastOf_some {w : Int64} (h : ¬ w = 0) (h40 : ∀ c, 40 ≤ c → bt w c = false) : f_X8_leastOf w = some (lo w) := by
  obtain ⟨c, hc, hb⟩ := bt_ne h
  obtain ⟨k, hk, hl⟩ := pk_least (fun c => bt w c = true) ⟨c, hb⟩
  have hk40 : k < 40 := by
    rcases Nat.lt_or_ge k 40 with z | z
    · exact z
    · rw [h40 k z] at hk; cases hk
  have := leastOf_eq hk40 hk (fun j hj => by
    cases hb : bt w j with
    | false => rfl
    | true => exact absurd hb (hl j hj))
  unfold lo
  rw [this]
  rfl
theorem lo_eq {w : Int64} {c : Nat} (hc : c < 40) (h1 : bt w c = true) (h2 : ∀ j, j < c → bt w j = false) : lo w = nI c := by
  unfold lo
  rw [leastOf_eq hc h1 h2]
  rfl
theorem wake_lp {nT : Nat} (hn : nT ≤ 20) {ch : Int64} {by_ : Int32} : ∀ d k n (M : Mem), k + d = nT → d < n → gI M 0 8 = nI nT → (∀ t, k ≤ t → t < nT → ∀ c, 40 ≤ c → bt (gL M (189 + 4 * t) 11) c = false) → ∃ M', f_X8_wake_3 nT n M ch by_ (nI k) = some M' ∧ M'.2 = M.2 ∧ (∀ q i, (∀ t, k ≤ t → t < nT → q ≠ 189 + 4 * t) → gI M' q i = gI M q i) ∧ ∀ t, k ≤ t → t < nT → ∀ i, gI M' (189 + 4 * t) i = wkv M ch by_ t i
  | 0, k, n, M, hk, hd, h0, hb => by
    obtain ⟨n, rfl⟩ : ∃ m, n = m + 1 := ⟨n - 1, by omega⟩
    have : k = nT := by omega
    subst this
    rw [f_X8_wake_3, h0, if_pos (nI_le (Nat.le_refl _) (by omega))]
    exact ⟨M, rfl, rfl, fun _ _ _ => rfl, fun t h1 h2 => by omega⟩
  | d + 1, k, n, M, hk, hd, h0, hb => by
    obtain ⟨n, rfl⟩ : ∃ m, n = m + 1 := ⟨n - 1, by omega⟩
    have hlt : k < nT := by omega
    rw [f_X8_wake_3, h0, if_neg (nI_ge hlt (by omega))]
    unfold f_X8_wake_68
    simp only [inR_nI (show k < 20 by omega) (by decide), gd_t, nI_clamp (show k < 2 ^ 31 by omega), hlt, decide_true, lt_v, nI_1]
    have skip : wkC M ch k = false → ∃ M', f_X8_wake_3 nT n M ch by_ (nI (k + 1)) = some M' ∧ M'.2 = M.2 ∧ (∀ q i, (∀ t, k ≤ t → t < nT → q ≠ 189 + 4 * t) → gI M' q i = gI M q i) ∧ ∀ t, k ≤ t → t < nT → ∀ i, gI M' (189 + 4 * t) i = wkv M ch by_ t i := by
      intro hw
      obtain ⟨M', e1, e2, e3, e4⟩ := wake_lp hn d (k + 1) n M (by omega) (by omega) h0 (fun t h1 h2 => hb t (by omega) h2)
      refine ⟨M', e1, e2, fun q i hq => e3 q i (fun t h1 h2 => hq t (by omega) h2), fun t h1 h2 i => ?_⟩
      by_cases z : t = k
      · subst z
        rw [e3 _ i (fun t' h1' h2' => by omega)]
        unfold wkv
        rw [hw, if_neg (by decide)]
      · exact e4 t (by omega) h2 i
    by_cases s3 : gI M (189 + 4 * k) 1 = 3
    · rw [if_pos s3]
      by_cases sn : gL M (189 + 4 * k) 11 &&& ch = 0
      · rw [if_pos sn]
        exact skip (by unfold wkC; simp [sn])
      · rw [if_neg sn]
        have hlo : f_X8_leastOf (gL M (189 + 4 * k) 11 &&& ch) = some (lo (gL M (189 + 4 * k) 11 &&& ch)) := leastOf_some sn (fun c hc => by rw [bt_and, hb k (Nat.le_refl k) hlt c hc]; rfl)
        rw [hlo]
        simp only [sb_v]
        obtain ⟨N, hN⟩ : ∃ N, N = sI (sI (sI M (189 + 4 * k) 1 0) (189 + 4 * k) 7 (lo (gL M (189 + 4 * k) 11 &&& ch))) (189 + 4 * k) 8 by_ := ⟨_, rfl⟩
        have hNq : ∀ q i, q ≠ 189 + 4 * k → gI N q i = gI M q i := fun q i hq => by rw [hN, gI_q hq, gI_q hq, gI_q hq]
        have hNk : ∀ i, gI N (189 + 4 * k) i = wkv M ch by_ k i := fun i => by
          have hw : wkC M ch k = true := by unfold wkC; simp [s3, sn]
          unfold wkv
          rw [if_pos hw, hN, gI_x, gI_x, gI_x]
          by_cases z8 : i = 8
          · subst z8; simp
          · by_cases z7 : i = 7
            · subst z7; simp
            · simp [z8, z7]
        have hNL : N.2 = M.2 := by rw [hN]; rfl
        have hNL' : ∀ q i, gL N q i = gL M q i := fun q i => by unfold gL; rw [hNL]
        rw [← hN]
        obtain ⟨M', e1, e2, e3, e4⟩ := wake_lp hn d (k + 1) n N (by omega) (by omega) (by rw [hNq 0 8 (by omega)]; exact h0) (fun t h1 h2 c hc => by rw [hNL']; exact hb t (by omega) h2 c hc)
        refine ⟨M', e1, e2.trans hNL, fun q i hq => (e3 q i (fun t h1 h2 => hq t (by omega) h2)).trans (hNq q i (hq k (Nat.le_refl k) hlt)), fun t h1 h2 i => ?_⟩
        by_cases z : t = k
        · subst z
          rw [e3 _ i (fun t' h1' h2' => by omega)]
          exact hNk i
        · rw [e4 t (by omega) h2 i]
          unfold wkv wkC
          simp only [hNq (189 + 4 * t) _ (by omega), hNL']
    · rw [if_neg s3]
      exact skip (by unfold wkC; simp [s3])
theorem wake_eq {nT : Nat} (hn : nT ≤ 20) {ch : Int64} {by_ : Int32} {M : Mem} (h0 : gI M 0 8 = nI nT) (hb : ∀ t, t < nT → ∀ c, 40 ≤ c → bt (gL M (189 + 4 * t) 11) c = false) : ∃ M', f_X8_wake nT M ch by_ = some M' ∧ M'.2 = M.2 ∧ (∀ q i, (∀ t, t < nT → q ≠ 189 + 4 * t) → gI M' q i = gI M q i) ∧ ∀ t, t < nT → ∀ i, gI M' (189 + 4 * t) i = wkv M ch by_ t i := by
  obtain ⟨M', e1, e2, e3, e4⟩ := wake_lp hn (ch := ch) (by_ := by_) nT 0 FU M (by omega) (by unfold FU; omega) h0 (fun t _ h2 => hb t h2)
  exact ⟨M', e1, e2, fun q i hq => e3 q i (fun t _ h2 => hq t h2), fun t ht i => e4 t (by omega) ht i⟩
/-- what the reference's ticket t is behind its waking by cell c -/
def wk9 (M : Mem) (c t : Nat) : Bool := decide (gI M 138 t = 3) && gB M 151 (40 * t + c)
theorem tells_lp {nT : Nat} (hn : nT ≤ 20) {c : Nat} (hc : c < 40) : ∀ d k n (M : Mem), k + d = nT → d < n → gI M 119 18 = nI nT → ∃ M', f_X9_tells_50 n M (nI c) (nI k) = some (gI M' 124 c, M') ∧ M'.2 = M.2 ∧ (∀ q i, ¬ (q ∈ [138, 144, 145] ∧ k ≤ i ∧ i < nT) → gI M' q i = gI M q i) ∧ ∀ t, k ≤ t → t < nT → (gI M' 138 t = if wk9 M c t = true then 0 else gI M 138 t) ∧ (gI M' 144 t = if wk9 M c t = true then nI c else gI M 144 t) ∧ (gI M' 145 t = if wk9 M c t = true then -1 else gI M 145 t)
  | 0, k, n, M, hk, hd, h0 => by
    obtain ⟨n, rfl⟩ : ∃ m, n = m + 1 := ⟨n - 1, by omega⟩
    have : k = nT := by omega
    subst this
    rw [f_X9_tells_50, h0, if_pos (nI_le (Nat.le_refl _) (by omega))]
    simp only [inR_nI hc (by decide), gd_t, nI_clamp (show c < 2 ^ 31 by omega)]
    exact ⟨M, rfl, rfl, fun _ _ _ => rfl, fun t h1 h2 => by omega⟩
  | d + 1, k, n, M, hk, hd, h0 => by
    obtain ⟨n, rfl⟩ : ∃ m, n = m + 1 := ⟨n - 1, by omega⟩
    have hlt : k < nT := by omega
    rw [f_X9_tells_50, h0, if_neg (nI_ge hlt (by omega))]
    unfold f_X9_tells_109
    simp only [inR_nI (show k < 20 by omega) (by decide), gd_t, nI_clamp (show k < 2 ^ 31 by omega), lt_v, nI_1, mx (K := 40) 40 k c rfl, inR_nI (show 40 * k + c < 800 by omega) (by decide), nI_clamp (show 40 * k + c < 2 ^ 31 by omega)]
    have skip : wk9 M c k = false → ∃ M', f_X9_tells_50 n M (nI c) (nI (k + 1)) = some (gI M' 124 c, M') ∧ M'.2 = M.2 ∧ (∀ q i, ¬ (q ∈ [138, 144, 145] ∧ k ≤ i ∧ i < nT) → gI M' q i = gI M q i) ∧ ∀ t, k ≤ t → t < nT → (gI M' 138 t = if wk9 M c t = true then 0 else gI M 138 t) ∧ (gI M' 144 t = if wk9 M c t = true then nI c else gI M 144 t) ∧ (gI M' 145 t = if wk9 M c t = true then -1 else gI M 145 t) := by
      intro hw
      obtain ⟨M', e1, e2, e3, e4⟩ := tells_lp hn hc d (k + 1) n M (by omega) (by omega) h0
      refine ⟨M', e1, e2, fun q i hq => e3 q i (fun z => hq ⟨z.1, by omega, z.2.2⟩), fun t h1 h2 => ?_⟩
      by_cases z : t = k
      · subst z
        rw [e3 138 t (by omega), e3 144 t (by omega), e3 145 t (by omega), hw]
        simp
      · exact e4 t (by omega) h2
    by_cases s3 : gI M 138 k = 3
    · rw [if_pos s3]
      cases sn : gB M 151 (40 * k + c) with
      | false =>
        simp only [bI_f, if_true]
        exact skip (by unfold wk9; simp [sn])
      | true =>
        simp only [bI_t, i10, if_false]
        obtain ⟨N, hN⟩ : ∃ N, N = sI (sI (sI M 138 k 0) 144 k (nI c)) 145 k (-1) := ⟨_, rfl⟩
        rw [← hN]
        have hw : wk9 M c k = true := by unfold wk9; simp [s3, sn]
        have hNq : ∀ q i, ¬ (q ∈ [138, 144, 145] ∧ i = k) → gI N q i = gI M q i := fun q i hq => by
          have st : ∀ (R : Mem) (r : Nat) (v : Int32), r ∈ [138, 144, 145] → gI (sI R r k v) q i = gI R q i := fun R r v hr => by
            by_cases z : q = r
            · subst z; exact gI_i (fun y => hq ⟨hr, y⟩)
            · exact gI_q z
          rw [hN, st _ _ _ (by decide), st _ _ _ (by decide), st _ _ _ (by decide)]
        have n8 : gI N 138 k = 0 := by rw [hN, gI_q (by decide), gI_q (by decide), gI_s]
        have n4 : gI N 144 k = nI c := by rw [hN, gI_q (by decide), gI_s]
        have n5 : gI N 145 k = -1 := by rw [hN, gI_s]
        have hNL : N.2 = M.2 := by rw [hN]; rfl
        have hNB : ∀ q i, gB N q i = gB M q i := fun q i => by unfold gB; rw [hNL]
        obtain ⟨M', e1, e2, e3, e4⟩ := tells_lp hn hc d (k + 1) n N (by omega) (by omega) (by rw [hNq 119 18 (fun z => absurd z.1 (by decide))]; exact h0)
        refine ⟨M', e1, e2.trans hNL, fun q i hq => (e3 q i (fun z => hq ⟨z.1, by omega, z.2.2⟩)).trans (hNq q i (fun z => hq ⟨z.1, by omega, by omega⟩)), fun t h1 h2 => ?_⟩
        by_cases z : t = k
        · subst z
          rw [e3 138 t (by omega), e3 144 t (by omega), e3 145 t (by omega), hw, n8, n4, n5]
          simp
        · have e5 := e4 t (by omega) h2
          unfold wk9 at e5 ⊢
          rw [hNq 138 t (by omega), hNq 144 t (by omega), hNq 145 t (by omega), hNB] at e5
          exact e5
    · rw [if_neg s3]
      exact skip (by unfold wk9; simp [s3])

section METHS
variable {p : Program} {l : Launch} {e : Env} {s : State} {m : MethodId} {args : Array Value} {below : List Frame} {meth : Method} {c : Code} {H : Heap} {locs : List Loc} {G : va_G} {cy : Nat → ClassId} {B nT : Nat} {ls : Array Slot}
abbrev rmX4_leastBroken : Room := { frames := 2, cells := 0, slots := 0, locals := 46 }
def f_X4_leastBroken_2 (q1 : Nat) (M : Mem) : Nat → Int32 → Option (Int32)
  | 0, _ => none
  | n + 1, v2 => if (gI M 17 4) ≤ v2 then (some (-1)) else (Option.bind (f_X4_isKept q1 M v2) fun r_1 => if (bI r_1) = 0 then (some v2) else (lt (v2 + 1) fun v_1 => (f_X4_leastBroken_2 q1 M n) v_1))
set_option maxRecDepth 100000 in
set_option maxHeartbeats 4000000 in
theorem w_X4_leastBroken_2 (X : Cx p s m args meth c cX4_leastBroken RX4 3 (some .int) G cy) {q1 : Nat} (hq1 : isC q1) {M : Mem} {out : Int32} : ∀ n : Nat, ∀ (H : Heap) (locs : List Loc) (ls : Array Slot) (v2 : Int32), Pic G B cy nT M H → va_S (FB B) s.heap H locs → lv_has ls 3 [(0, .ref (B + 17)), (1, .ref (B + q1)), (2, .int v2)] → f_X4_leastBroken_2 q1 M n v2 = some out → W p l e rmX4_leastBroken s m args below meth c H locs 0 0 (MQ below (Qi G B cy nT out M) args s 0 0 (FB B)) (F0 m 2 ls []) := by
  obtain ⟨hx, hb, hr, hml, hown, hts, hKn, hlk⟩ := id X
  intro n
  induction n with
  | zero =>
    intro H locs ls v2 hP hS hl h
    cases h
  | succ n ih =>
    intro H locs ls v2 hP hS hl h
    rw [f_X4_leastBroken_2] at h
    refine lv_iload_n hx hb dX4_leastBroken_2 rfl (lv_at hl 2 rfl) ?_
    refine lv_aload_n hx hb dX4_leastBroken_3 rfl (lv_at hl 0 rfl) ?_
    refine gf_X4_36 X hP dX4_leastBroken_4 ?_
    refine lv_icmp_ge (tgt := 27) hx hb dX4_leastBroken_7 (by decide) (fun hc => ?_) (fun hc => ?_)
    · replace h := if_elp h hc
      refine lv_iconst (v := (-1)) hx hb dX4_leastBroken_27 (by decide) ?_
      exact r_iret X hP hS (pr0 h) rfl dX4_leastBroken_28
    · replace h := if_eln h hc
      refine lv_aload_n hx hb dX4_leastBroken_10 rfl (lv_at hl 0 rfl) ?_
      refine lv_iload_n hx hb dX4_leastBroken_11 rfl (lv_at hl 2 rfl) ?_
      refine lv_aload_n hx hb dX4_leastBroken_12 rfl (lv_at hl 1 rfl) ?_
      obtain ⟨r_1, h_1, h⟩ := bd_el h
      refine cl_i (rn_V (C := RX4) (ci := 4) X hP (c_X4_isKept hq1 h_1) kq_17 rfl k_457 k_458 k_900 k_5 k_459 rfl hd_X4_isKept (n := 2) ⟨⟨rfl, rfl⟩, Nat.le_of_ble_eq_true rfl, Nat.le_of_ble_eq_true rfl⟩ (As := [.int v2, .ref (B + q1)]) (rest := []) rfl hl.1 rfl (Nat.le_of_ble_eq_true rfl) dX4_leastBroken_13 ⟨Nat.zero_le _, Nat.zero_le _⟩) hS (fun H locs hP hS => ?_)
      refine lv_if_ne (tgt := 21) hx hb dX4_leastBroken_16 (by decide) (fun hc => ?_) (fun hc => ?_)
      · replace h := if_eln h hc
        obtain ⟨v_1, e_1, h⟩ := lt_el h
        refine lv_iinc (v := v_1) (lv' := [(2, .int v_1), (0, .ref (B + 17)), (1, .ref (B + q1))]) hx hb dX4_leastBroken_21 hl (k := 2) rfl (by rw [e_1]; rfl) (by decide) rfl (fun ls hl => ?_)
        refine lv_goto (tgt := 2) hx hb dX4_leastBroken_24 (by decide) ?_
        exact ih _ _ _ _ hP hS (lv_sub hl [1, 2, 0] rfl) h
      · replace h := if_elp h hc
        refine lv_iload_n hx hb dX4_leastBroken_19 rfl (lv_at hl 2 rfl) ?_
        exact r_iret X hP hS (pr0 h) rfl dX4_leastBroken_20
def f_X4_leastBroken (q1 : Nat) (M : Mem) : Option (Int32) :=
  f_X4_leastBroken_2 q1 M FU 0
set_option maxRecDepth 100000 in
set_option maxHeartbeats 4000000 in
theorem c_X4_leastBroken {l : Launch} {G : va_G} {cy : Nat → ClassId} {B nT : Nat} {q1 : Nat} (hq1 : isC q1) {M : Mem} {out : Int32} (h : f_X4_leastBroken q1 M = some out) : Met l yX4_leastBroken (wsU yX4_leastBroken cX4_leastBroken 3 (some .int)) rmX4_leastBroken (va_Pc [.ref (B + 17), .ref (B + q1)] (PU G B cy nT M)) (Qi G B cy nT out M) 0 0 (FB B) := by
  refine r_met (by decide +kernel) RX4 rfl (Nat.le_of_ble_eq_true rfl) ?_
  intro p e s m args below meth c ls X hP hl
  have hl : lv_has ls 3 [(0, .ref (B + 17)), (1, .ref (B + q1))] := hl
  have hS : va_S (FB B) s.heap s.heap [] := va_S.rf
  obtain ⟨hx, hb, hr, hml, hown, hts, hKn, hlk⟩ := id X
  unfold f_X4_leastBroken at h
  refine lv_iconst (v := 0) hx hb dX4_leastBroken_0 (by decide) ?_
  refine lv_istore_n (lv' := [(2, .int 0), (0, .ref (B + 17)), (1, .ref (B + q1))]) hx hb dX4_leastBroken_1 rfl hl (by decide) rfl (fun ls hl => ?_)
  exact w_X4_leastBroken_2 X hq1 FU _ _ _ _ hP hS (lv_sub hl [1, 2, 0] rfl) h
abbrev rmX5_remember : Room := { frames := 0, cells := 0, slots := 0, locals := 0 }
def f_X5_remember (M : Mem) (a1 : Int32) (a2 : Int32) : Option (Mem) :=
  gd (inR a1 40) <| if 12 ≤ (gI M 10 a1.toNatClampNeg) then (some M) else (gd (inR a1 40) <| gd (inR ((a1 * 12) + (gI M 10 a1.toNatClampNeg)) 480) <| lt (sI M 9 ((a1 * 12) + (gI M 10 a1.toNatClampNeg)).toNatClampNeg a2) fun M_1 => gd (inR a1 40) <| gd (inR a1 40) <| lt (sI M_1 10 a1.toNatClampNeg ((gI M_1 10 a1.toNatClampNeg) + 1)) fun M_2 => some M_2)
set_option maxRecDepth 100000 in
set_option maxHeartbeats 4000000 in
theorem c_X5_remember {l : Launch} {G : va_G} {cy : Nat → ClassId} {B nT : Nat} {M : Mem} {a1 : Int32} {a2 : Int32} {out : Mem} (h : f_X5_remember M a1 a2 = some out) : Met l yX5_remember (wsU yX5_remember cX5_remember 3 none) rmX5_remember (va_Pc [.ref (B + 1), .int a1, .int a2] (PU G B cy nT M)) (Qv G B cy nT out) 0 0 (FB B) := by
  refine r_met (by decide +kernel) RX5 rfl (Nat.le_of_ble_eq_true rfl) ?_
  intro p e s m args below meth c ls X hP hl
  have hl : lv_has ls 3 [(0, .ref (B + 1)), (1, .int a1), (2, .int a2)] := hl
  have hS : va_S (FB B) s.heap s.heap [] := va_S.rf
  obtain ⟨hx, hb, hr, hml, hown, hts, hKn, hlk⟩ := id X
  unfold f_X5_remember at h
  refine lv_aload_n hx hb dX5_remember_0 rfl (lv_at hl 0 rfl) ?_
  refine gf_X5_28 X hP dX5_remember_1 ?_
  refine lv_iload_n hx hb dX5_remember_4 rfl (lv_at hl 1 rfl) ?_
  obtain ⟨g_1, h⟩ := gd_el h
  refine r_iald X hP kq_10 g_1 dX5_remember_5 ?_
  refine lv_bipush (v := 12) hx hb dX5_remember_6 (by decide) ?_
  refine lv_icmp_ge (tgt := 38) hx hb dX5_remember_8 (by decide) (fun hc => ?_) (fun hc => ?_)
  · replace h := if_elp h hc
    exact r_vret X hP hS (pr0 h) dX5_remember_38
  · replace h := if_eln h hc
    refine lv_aload_n hx hb dX5_remember_11 rfl (lv_at hl 0 rfl) ?_
    refine gf_X5_25 X hP dX5_remember_12 ?_
    refine lv_iload_n hx hb dX5_remember_15 rfl (lv_at hl 1 rfl) ?_
    refine lv_bipush (v := 12) hx hb dX5_remember_16 (by decide) ?_
    refine lv_imul hx hb dX5_remember_18 ?_
    refine lv_aload_n hx hb dX5_remember_19 rfl (lv_at hl 0 rfl) ?_
    refine gf_X5_28 X hP dX5_remember_20 ?_
    refine lv_iload_n hx hb dX5_remember_23 rfl (lv_at hl 1 rfl) ?_
    obtain ⟨g_2, h⟩ := gd_el h
    refine r_iald X hP kq_10 g_2 dX5_remember_24 ?_
    refine lv_iadd hx hb dX5_remember_25 ?_
    refine lv_iload_n hx hb dX5_remember_26 rfl (lv_at hl 2 rfl) ?_
    obtain ⟨g_3, h⟩ := gd_el h
    obtain ⟨M_1, e_1, h⟩ := lt_el h
    refine r_iast X hP hS kq_9 g_3 e_1 dX5_remember_27 (fun H locs hP hS => ?_)
    refine lv_aload_n hx hb dX5_remember_28 rfl (lv_at hl 0 rfl) ?_
    refine gf_X5_28 X hP dX5_remember_29 ?_
    refine lv_iload_n hx hb dX5_remember_32 rfl (lv_at hl 1 rfl) ?_
    refine lv_dup2_11 hx hb dX5_remember_33 rfl rfl ?_
    obtain ⟨g_4, h⟩ := gd_el h
    refine r_iald X hP kq_10 g_4 dX5_remember_34 ?_
    refine lv_iconst (v := 1) hx hb dX5_remember_35 (by decide) ?_
    refine lv_iadd hx hb dX5_remember_36 ?_
    obtain ⟨g_5, h⟩ := gd_el h
    obtain ⟨M_2, e_2, h⟩ := lt_el h
    refine r_iast X hP hS kq_10 g_5 e_2 dX5_remember_37 (fun H locs hP hS => ?_)
    exact r_vret X hP hS (pr0 h) dX5_remember_38
abbrev rmX5_takeWritten : Room := { frames := 2, cells := 0, slots := 0, locals := 50 }
def f_X5_takeWritten_63 (q1 : Nat) (K17 : Mem → Int32 → Option (Mem)) (M : Mem) (v2 : Int32) : Option (Mem) :=
  lt (v2 + 1) fun v_1 => K17 M v_1
set_option maxRecDepth 100000 in
set_option maxHeartbeats 4000000 in
theorem w_X5_takeWritten_63 (X : Cx p s m args meth c cX5_takeWritten RX5 3 none G cy) {q1 : Nat} (hq1 : isA q1) {out : Mem} {K17 : Mem → Int32 → Option (Mem)} (hK17 : ∀ (H : Heap) (locs : List Loc) (ls : Array Slot) (M : Mem) (v2 : Int32), Pic G B cy nT M H → va_S (FB B) s.heap H locs → lv_has ls 3 [(0, .ref (B + 1)), (1, .ref (B + q1)), (2, .int v2)] → K17 M v2 = some out → W p l e rmX5_takeWritten s m args below meth c H locs 0 0 (MQ below (Qv G B cy nT out) args s 0 0 (FB B)) (F0 m 17 ls [])) {M : Mem} {v2 : Int32} (hP : Pic G B cy nT M H) (hS : va_S (FB B) s.heap H locs) (hl : lv_has ls 3 [(0, .ref (B + 1)), (1, .ref (B + q1)), (2, .int v2)]) (h : f_X5_takeWritten_63 q1 K17 M v2 = some out) : W p l e rmX5_takeWritten s m args below meth c H locs 0 0 (MQ below (Qv G B cy nT out) args s 0 0 (FB B)) (F0 m 63 ls []) := by
  obtain ⟨hx, hb, hr, hml, hown, hts, hKn, hlk⟩ := id X
  unfold f_X5_takeWritten_63 at h
  obtain ⟨v_1, e_1, h⟩ := lt_el h
  refine lv_iinc (v := v_1) (lv' := [(2, .int v_1), (0, .ref (B + 1)), (1, .ref (B + q1))]) hx hb dX5_takeWritten_63 hl (k := 2) rfl (by rw [e_1]; rfl) (by decide) rfl (fun ls hl => ?_)
  refine lv_goto (tgt := 17) hx hb dX5_takeWritten_66 (by decide) ?_
  exact hK17 _ _ _ _ _ hP hS (lv_sub hl [1, 2, 0] rfl) h
def f_X5_takeWritten_17 (q1 : Nat) : Nat → Mem → Int32 → Option (Mem)
  | 0, _, _ => none
  | n + 1, M, v2 => if 40 ≤ v2 then (some M) else (Option.bind (f_X8_isAmong (gL M q1 8) v2) fun r_1 => if (bI r_1) = 0 then (f_X5_takeWritten_63 q1 (f_X5_takeWritten_17 q1 n) M v2) else (gd (inR v2 40) <| gd (inR v2 40) <| lt (sI M 7 v2.toNatClampNeg ((gI M 7 v2.toNatClampNeg) + 1)) fun M_1 => gd (inR v2 40) <| lt (sI M_1 8 v2.toNatClampNeg (gI M_1 q1 3)) fun M_2 => Option.bind (f_X5_remember M_2 v2 (gI M_2 q1 3)) fun r_2 => f_X5_takeWritten_63 q1 (f_X5_takeWritten_17 q1 n) r_2 v2))
set_option maxRecDepth 100000 in
set_option maxHeartbeats 4000000 in
theorem w_X5_takeWritten_17 (X : Cx p s m args meth c cX5_takeWritten RX5 3 none G cy) {q1 : Nat} (hq1 : isA q1) {out : Mem} : ∀ n : Nat, ∀ (H : Heap) (locs : List Loc) (ls : Array Slot) (M : Mem) (v2 : Int32), Pic G B cy nT M H → va_S (FB B) s.heap H locs → lv_has ls 3 [(0, .ref (B + 1)), (1, .ref (B + q1)), (2, .int v2)] → f_X5_takeWritten_17 q1 n M v2 = some out → W p l e rmX5_takeWritten s m args below meth c H locs 0 0 (MQ below (Qv G B cy nT out) args s 0 0 (FB B)) (F0 m 17 ls []) := by
  obtain ⟨hx, hb, hr, hml, hown, hts, hKn, hlk⟩ := id X
  intro n
  induction n with
  | zero =>
    intro H locs ls M v2 hP hS hl h
    cases h
  | succ n ih =>
    intro H locs ls M v2 hP hS hl h
    rw [f_X5_takeWritten_17] at h
    refine lv_iload_n hx hb dX5_takeWritten_17 rfl (lv_at hl 2 rfl) ?_
    refine lv_bipush (v := 40) hx hb dX5_takeWritten_18 (by decide) ?_
    refine lv_icmp_ge (tgt := 69) hx hb dX5_takeWritten_20 (by decide) (fun hc => ?_) (fun hc => ?_)
    · replace h := if_elp h hc
      exact r_vret X hP hS (pr0 h) dX5_takeWritten_69
    · replace h := if_eln h hc
      refine lv_aload_n hx hb dX5_takeWritten_23 rfl (lv_at hl 1 rfl) ?_
      refine gf_X5_31 X hP (kA_0 hq1) dX5_takeWritten_24 ?_
      refine lv_iload_n hx hb dX5_takeWritten_27 rfl (lv_at hl 2 rfl) ?_
      obtain ⟨r_1, h_1, h⟩ := bd_el h
      refine cl_i (rn_SN X hP (c_X8_isAmong h_1) nst_X5_44 k_204 k_1 k_205 hd_X8_isAmong (n := 2) ⟨⟨rfl, rfl⟩, Nat.le_of_ble_eq_true rfl, Nat.le_of_ble_eq_true rfl⟩ (As := [.long (gL M q1 8), .int v2]) (rest := []) rfl hl.1 rfl (Nat.le_of_ble_eq_true rfl) dX5_takeWritten_28 ⟨Nat.zero_le _, Nat.zero_le _⟩) hS (fun H locs hP hS => ?_)
      refine lv_if_eq (tgt := 63) hx hb dX5_takeWritten_31 (by decide) (fun hc => ?_) (fun hc => ?_)
      · replace h := if_elp h hc
        exact w_X5_takeWritten_63 X hq1 ih hP hS (lv_sub hl [0, 1, 2] rfl) h
      · replace h := if_eln h hc
        refine lv_aload_n hx hb dX5_takeWritten_34 rfl (lv_at hl 0 rfl) ?_
        refine gf_X5_18 X hP dX5_takeWritten_35 ?_
        refine lv_iload_n hx hb dX5_takeWritten_38 rfl (lv_at hl 2 rfl) ?_
        refine lv_dup2_11 hx hb dX5_takeWritten_39 rfl rfl ?_
        obtain ⟨g_1, h⟩ := gd_el h
        refine r_iald X hP kq_7 g_1 dX5_takeWritten_40 ?_
        refine lv_iconst (v := 1) hx hb dX5_takeWritten_41 (by decide) ?_
        refine lv_iadd hx hb dX5_takeWritten_42 ?_
        obtain ⟨g_2, h⟩ := gd_el h
        obtain ⟨M_1, e_1, h⟩ := lt_el h
        refine r_iast X hP hS kq_7 g_2 e_1 dX5_takeWritten_43 (fun H locs hP hS => ?_)
        refine lv_aload_n hx hb dX5_takeWritten_44 rfl (lv_at hl 0 rfl) ?_
        refine gf_X5_22 X hP dX5_takeWritten_45 ?_
        refine lv_iload_n hx hb dX5_takeWritten_48 rfl (lv_at hl 2 rfl) ?_
        refine lv_aload_n hx hb dX5_takeWritten_49 rfl (lv_at hl 1 rfl) ?_
        refine gf_X5_48 X hP (kA_0 hq1) dX5_takeWritten_50 ?_
        obtain ⟨g_3, h⟩ := gd_el h
        obtain ⟨M_2, e_2, h⟩ := lt_el h
        refine r_iast X hP hS kq_8 g_3 e_2 dX5_takeWritten_53 (fun H locs hP hS => ?_)
        refine lv_aload_n hx hb dX5_takeWritten_54 rfl (lv_at hl 0 rfl) ?_
        refine lv_iload_n hx hb dX5_takeWritten_55 rfl (lv_at hl 2 rfl) ?_
        refine lv_aload_n hx hb dX5_takeWritten_56 rfl (lv_at hl 1 rfl) ?_
        refine gf_X5_48 X hP (kA_0 hq1) dX5_takeWritten_57 ?_
        obtain ⟨r_2, h_2, h⟩ := bd_el h
        refine cl_v (rn_V (C := RX5) (ci := 5) X hP (c_X5_remember h_2) kq_1 rfl k_475 k_476 k_902 k_2 k_477 rfl hd_X5_remember (n := 2) ⟨⟨rfl, rfl⟩, Nat.le_of_ble_eq_true rfl, Nat.le_of_ble_eq_true rfl⟩ (As := [.int v2, .int (gI M_2 q1 3)]) (rest := []) rfl hl.1 rfl (Nat.le_of_ble_eq_true rfl) dX5_takeWritten_60 ⟨Nat.zero_le _, Nat.zero_le _⟩) hS (fun H locs hP hS => ?_)
        exact w_X5_takeWritten_63 X hq1 ih hP hS (lv_sub hl [0, 1, 2] rfl) h
def f_X5_takeWritten (q1 : Nat) (M : Mem) : Option (Mem) :=
  Option.bind (f_X1_takeThose 2 (q1 + 1) M (gL M q1 8)) fun r_1 => f_X5_takeWritten_17 q1 FU r_1 0
set_option maxRecDepth 100000 in
set_option maxHeartbeats 4000000 in
theorem c_X5_takeWritten {l : Launch} {G : va_G} {cy : Nat → ClassId} {B nT : Nat} {q1 : Nat} (hq1 : isA q1) {M : Mem} {out : Mem} (h : f_X5_takeWritten q1 M = some out) : Met l yX5_takeWritten (wsU yX5_takeWritten cX5_takeWritten 3 none) rmX5_takeWritten (va_Pc [.ref (B + 1), .ref (B + q1)] (PU G B cy nT M)) (Qv G B cy nT out) 0 0 (FB B) := by
  refine r_met (by decide +kernel) RX5 rfl (Nat.le_of_ble_eq_true rfl) ?_
  intro p e s m args below meth c ls X hP hl
  have hl : lv_has ls 3 [(0, .ref (B + 1)), (1, .ref (B + q1))] := hl
  have hS : va_S (FB B) s.heap s.heap [] := va_S.rf
  obtain ⟨hx, hb, hr, hml, hown, hts, hKn, hlk⟩ := id X
  unfold f_X5_takeWritten at h
  refine lv_aload_n hx hb dX5_takeWritten_0 rfl (lv_at hl 0 rfl) ?_
  refine gf_X5_12 X hP dX5_takeWritten_1 ?_
  refine lv_aload_n hx hb dX5_takeWritten_4 rfl (lv_at hl 1 rfl) ?_
  refine gf_X5_31 X hP (kA_0 hq1) dX5_takeWritten_5 ?_
  refine lv_aload_n hx hb dX5_takeWritten_8 rfl (lv_at hl 1 rfl) ?_
  refine gf_X5_37 X hP (kA_0 hq1) dX5_takeWritten_9 ?_
  obtain ⟨r_1, h_1, h⟩ := bd_el h
  refine cl_v (rn_V (C := RX1) (ci := 1) X hP (c_X1_takeThose isC_2 (kA_own hq1) h_1) (kC_0 isC_2) rfl k_473 k_448 k_449 k_3 k_450 rfl hd_X1_takeThose (n := 2) ⟨⟨rfl, rfl⟩, Nat.le_of_ble_eq_true rfl, Nat.le_of_ble_eq_true rfl⟩ (As := [.long (gL M q1 8), .ref (B + (q1 + 1))]) (rest := []) rfl hl.1 rfl (Nat.le_of_ble_eq_true rfl) dX5_takeWritten_12 ⟨Nat.zero_le _, Nat.zero_le _⟩) hS (fun H locs hP hS => ?_)
  refine lv_iconst (v := 0) hx hb dX5_takeWritten_15 (by decide) ?_
  refine lv_istore_n (lv' := [(2, .int 0), (0, .ref (B + 1)), (1, .ref (B + q1))]) hx hb dX5_takeWritten_16 rfl hl (by decide) rfl (fun ls hl => ?_)
  exact w_X5_takeWritten_17 X hq1 FU _ _ _ _ _ hP hS (lv_sub hl [1, 2, 0] rfl) h
abbrev rmJ13_bitCount_95d88 : Room := { frames := 0, cells := 0, slots := 0, locals := 0 }
def f_J13_bitCount_95d88 (a0 : Int64) : Option (Int32) :=
  lt (a0 - ((ushrL a0 1) &&& 6148914691236517205)) fun v_1 => lt ((v_1 &&& 3689348814741910323) + ((ushrL v_1 2) &&& 3689348814741910323)) fun v_2 => lt ((v_2 + (ushrL v_2 4)) &&& 1085102592571150095) fun v_3 => lt (v_3 + (ushrL v_3 8)) fun v_4 => lt (v_4 + (ushrL v_4 16)) fun v_5 => lt (v_5 + (ushrL v_5 32)) fun v_6 => some ((Int64.toInt32 v_6) &&& 127)
set_option maxRecDepth 100000 in
set_option maxHeartbeats 4000000 in
theorem c_J13_bitCount_95d88 {l : Launch} {G : va_G} {cy : Nat → ClassId} {B nT : Nat} {M : Mem} {a0 : Int64} {out : Int32} (h : f_J13_bitCount_95d88 a0 = some out) : Met l yJ13_bitCount_95d88 (wsU yJ13_bitCount_95d88 cJ13_bitCount_95d88 2 (some .int)) rmJ13_bitCount_95d88 (va_Pc [.long a0] (PU G B cy nT M)) (Qi G B cy nT out M) 0 0 (FB B) := by
  refine r_met (by decide +kernel) RJ13 rfl (Nat.le_of_ble_eq_true rfl) ?_
  intro p e s m args below meth c ls X hP hl
  have hl : lv_has ls 2 [(0, .long a0)] := hl
  have hS : va_S (FB B) s.heap s.heap [] := va_S.rf
  obtain ⟨hx, hb, hr, hml, hown, hts, hKn, hlk⟩ := id X
  unfold f_J13_bitCount_95d88 at h
  refine lv_lload_n hx hb dJ13_bitCount_95d88_0 rfl (lv_at hl 0 rfl) ?_
  refine lv_lload_n hx hb dJ13_bitCount_95d88_1 rfl (lv_at hl 0 rfl) ?_
  refine lv_iconst (v := 1) hx hb dJ13_bitCount_95d88_2 (by decide) ?_
  refine lv_lushr (v := (ushrL a0 1)) hx hb dJ13_bitCount_95d88_3 rfl ?_
  refine lv_ldc2 (v := 6148914691236517205) hx hb hown (hts _ k_439) dJ13_bitCount_95d88_4 ?_
  refine lv_land hx hb dJ13_bitCount_95d88_7 ?_
  refine lv_lsub hx hb dJ13_bitCount_95d88_8 ?_
  obtain ⟨v_1, e_1, h⟩ := lt_el h
  refine r_topl e_1 ?_
  refine lv_lstore_n (lv' := [(0, .long v_1)]) hx hb dJ13_bitCount_95d88_9 rfl hl (by decide) rfl (fun ls hl => ?_)
  refine lv_lload_n hx hb dJ13_bitCount_95d88_10 rfl (lv_at hl 0 rfl) ?_
  refine lv_ldc2 (v := 3689348814741910323) hx hb hown (hts _ k_440) dJ13_bitCount_95d88_11 ?_
  refine lv_land hx hb dJ13_bitCount_95d88_14 ?_
  refine lv_lload_n hx hb dJ13_bitCount_95d88_15 rfl (lv_at hl 0 rfl) ?_
  refine lv_iconst (v := 2) hx hb dJ13_bitCount_95d88_16 (by decide) ?_
  refine lv_lushr (v := (ushrL v_1 2)) hx hb dJ13_bitCount_95d88_17 rfl ?_
  refine lv_ldc2 (v := 3689348814741910323) hx hb hown (hts _ k_440) dJ13_bitCount_95d88_18 ?_
  refine lv_land hx hb dJ13_bitCount_95d88_21 ?_
  refine lv_ladd hx hb dJ13_bitCount_95d88_22 ?_
  obtain ⟨v_2, e_2, h⟩ := lt_el h
  refine r_topl e_2 ?_
  refine lv_lstore_n (lv' := [(0, .long v_2)]) hx hb dJ13_bitCount_95d88_23 rfl hl (by decide) rfl (fun ls hl => ?_)
  refine lv_lload_n hx hb dJ13_bitCount_95d88_24 rfl (lv_at hl 0 rfl) ?_
  refine lv_lload_n hx hb dJ13_bitCount_95d88_25 rfl (lv_at hl 0 rfl) ?_
  refine lv_iconst (v := 4) hx hb dJ13_bitCount_95d88_26 (by decide) ?_
  refine lv_lushr (v := (ushrL v_2 4)) hx hb dJ13_bitCount_95d88_27 rfl ?_
  refine lv_ladd hx hb dJ13_bitCount_95d88_28 ?_
  refine lv_ldc2 (v := 1085102592571150095) hx hb hown (hts _ k_441) dJ13_bitCount_95d88_29 ?_
  refine lv_land hx hb dJ13_bitCount_95d88_32 ?_
  obtain ⟨v_3, e_3, h⟩ := lt_el h
  refine r_topl e_3 ?_
  refine lv_lstore_n (lv' := [(0, .long v_3)]) hx hb dJ13_bitCount_95d88_33 rfl hl (by decide) rfl (fun ls hl => ?_)
  refine lv_lload_n hx hb dJ13_bitCount_95d88_34 rfl (lv_at hl 0 rfl) ?_
  refine lv_lload_n hx hb dJ13_bitCount_95d88_35 rfl (lv_at hl 0 rfl) ?_
  refine lv_bipush (v := 8) hx hb dJ13_bitCount_95d88_36 (by decide) ?_
  refine lv_lushr (v := (ushrL v_3 8)) hx hb dJ13_bitCount_95d88_38 rfl ?_
  refine lv_ladd hx hb dJ13_bitCount_95d88_39 ?_
  obtain ⟨v_4, e_4, h⟩ := lt_el h
  refine r_topl e_4 ?_
  refine lv_lstore_n (lv' := [(0, .long v_4)]) hx hb dJ13_bitCount_95d88_40 rfl hl (by decide) rfl (fun ls hl => ?_)
  refine lv_lload_n hx hb dJ13_bitCount_95d88_41 rfl (lv_at hl 0 rfl) ?_
  refine lv_lload_n hx hb dJ13_bitCount_95d88_42 rfl (lv_at hl 0 rfl) ?_
  refine lv_bipush (v := 16) hx hb dJ13_bitCount_95d88_43 (by decide) ?_
  refine lv_lushr (v := (ushrL v_4 16)) hx hb dJ13_bitCount_95d88_45 rfl ?_
  refine lv_ladd hx hb dJ13_bitCount_95d88_46 ?_
  obtain ⟨v_5, e_5, h⟩ := lt_el h
  refine r_topl e_5 ?_
  refine lv_lstore_n (lv' := [(0, .long v_5)]) hx hb dJ13_bitCount_95d88_47 rfl hl (by decide) rfl (fun ls hl => ?_)
  refine lv_lload_n hx hb dJ13_bitCount_95d88_48 rfl (lv_at hl 0 rfl) ?_
  refine lv_lload_n hx hb dJ13_bitCount_95d88_49 rfl (lv_at hl 0 rfl) ?_
  refine lv_bipush (v := 32) hx hb dJ13_bitCount_95d88_50 (by decide) ?_
  refine lv_lushr (v := (ushrL v_5 32)) hx hb dJ13_bitCount_95d88_52 rfl ?_
  refine lv_ladd hx hb dJ13_bitCount_95d88_53 ?_
  obtain ⟨v_6, e_6, h⟩ := lt_el h
  refine r_topl e_6 ?_
  refine lv_lstore_n (lv' := [(0, .long v_6)]) hx hb dJ13_bitCount_95d88_54 rfl hl (by decide) rfl (fun ls hl => ?_)
  refine lv_lload_n hx hb dJ13_bitCount_95d88_55 rfl (lv_at hl 0 rfl) ?_
  refine lv_l2i (v := (Int64.toInt32 v_6)) hx hb dJ13_bitCount_95d88_56 rfl ?_
  refine lv_bipush (v := 127) hx hb dJ13_bitCount_95d88_57 (by decide) ?_
  refine lv_iand hx hb dJ13_bitCount_95d88_59 ?_
  exact r_iret X hP hS (pr0 h) rfl dJ13_bitCount_95d88_60
abbrev rmX6_keepTry : Room := { frames := 1, cells := 0, slots := 0, locals := 60 }
def f_X6_keepTry_66 (q : Nat) (q1 : Nat) (M : Mem) (s0 : Int32) : Option (Mem) :=
  lt (sI M q 13 s0) fun M_1 => gd (okC 0 0 6 6 6) <| lt (cpI M_1 (q1 + 6) (0 : Int32).toNatClampNeg (q + 1) (0 : Int32).toNatClampNeg (6 : Int32).toNatClampNeg) fun M_2 => gd (okC 0 0 6 6 6) <| lt (cpI M_2 (q1 + 7) (0 : Int32).toNatClampNeg (q + 2) (0 : Int32).toNatClampNeg (6 : Int32).toNatClampNeg) fun M_3 => some M_3
set_option maxRecDepth 100000 in
set_option maxHeartbeats 4000000 in
theorem w_X6_keepTry_66 (X : Cx p s m args meth c cX6_keepTry RX6 3 none G cy) {q : Nat} (hq : okT nT q) {q1 : Nat} (hq1 : isA q1) {out : Mem} {M : Mem} {s0 : Int32} (hP : Pic G B cy nT M H) (hS : va_S (FB B) s.heap H locs) (hl : lv_has ls 3 [(0, .ref (B + q)), (1, .ref (B + q1))]) (h : f_X6_keepTry_66 q q1 M s0 = some out) : W p l e rmX6_keepTry s m args below meth c H locs 0 0 (MQ below (Qv G B cy nT out) args s 0 0 (FB B)) (F0 m 66 ls [.int s0, .ref (B + q)]) := by
  obtain ⟨hx, hb, hr, hml, hown, hts, hKn, hlk⟩ := id X
  unfold f_X6_keepTry_66 at h
  obtain ⟨M_1, e_1, h⟩ := lt_el h
  refine pf_X6_71 X hP hS (kT_0 hq) e_1 dX6_keepTry_66 (fun H locs hP hS => ?_)
  refine lv_aload_n hx hb dX6_keepTry_69 rfl (lv_at hl 1 rfl) ?_
  refine gf_X6_72 X hP (kA_0 hq1) dX6_keepTry_70 ?_
  refine lv_iconst (v := 0) hx hb dX6_keepTry_73 (by decide) ?_
  refine lv_aload_n hx hb dX6_keepTry_74 rfl (lv_at hl 0 rfl) ?_
  refine gf_X6_24 X hP (kT_0 hq) dX6_keepTry_75 ?_
  refine lv_iconst (v := 0) hx hb dX6_keepTry_78 (by decide) ?_
  refine lv_bipush (v := 6) hx hb dX6_keepTry_79 (by decide) ?_
  obtain ⟨g_1, h⟩ := gd_el h
  obtain ⟨M_2, e_2, h⟩ := lt_el h
  refine r_cpI X hl.1 hP hS k_442 k_359 k_358 k_11 (kA_6 hq1) (kT_1 hq) g_1 e_2 (Nat.le_of_ble_eq_true rfl) (by decide +kernel) dX6_keepTry_81 (fun H locs hP hS => ?_)
  refine lv_aload_n hx hb dX6_keepTry_84 rfl (lv_at hl 1 rfl) ?_
  refine gf_X6_79 X hP (kA_0 hq1) dX6_keepTry_85 ?_
  refine lv_iconst (v := 0) hx hb dX6_keepTry_88 (by decide) ?_
  refine lv_aload_n hx hb dX6_keepTry_89 rfl (lv_at hl 0 rfl) ?_
  refine gf_X6_28 X hP (kT_0 hq) dX6_keepTry_90 ?_
  refine lv_iconst (v := 0) hx hb dX6_keepTry_93 (by decide) ?_
  refine lv_bipush (v := 6) hx hb dX6_keepTry_94 (by decide) ?_
  obtain ⟨g_2, h⟩ := gd_el h
  obtain ⟨M_3, e_3, h⟩ := lt_el h
  refine r_cpI X hl.1 hP hS k_442 k_359 k_358 k_11 (kA_7 hq1) (kT_2 hq) g_2 e_3 (Nat.le_of_ble_eq_true rfl) (by decide +kernel) dX6_keepTry_96 (fun H locs hP hS => ?_)
  exact r_vret X hP hS (pr0 h) dX6_keepTry_99
def f_X6_keepTry_50 (q : Nat) (q1 : Nat) (M : Mem) (v2 : Int32) (s0 : Int32) : Option (Mem) :=
  lt (sI M q 12 s0) fun M_1 => if v2 = 0 then (f_X6_keepTry_66 q q1 M_1 (gI M_1 q1 10)) else (f_X6_keepTry_66 q q1 M_1 0)
set_option maxRecDepth 100000 in
set_option maxHeartbeats 4000000 in
theorem w_X6_keepTry_50 (X : Cx p s m args meth c cX6_keepTry RX6 3 none G cy) {q : Nat} (hq : okT nT q) {q1 : Nat} (hq1 : isA q1) {out : Mem} {M : Mem} {v2 : Int32} {s0 : Int32} (hP : Pic G B cy nT M H) (hS : va_S (FB B) s.heap H locs) (hl : lv_has ls 3 [(0, .ref (B + q)), (1, .ref (B + q1)), (2, .int v2)]) (h : f_X6_keepTry_50 q q1 M v2 s0 = some out) : W p l e rmX6_keepTry s m args below meth c H locs 0 0 (MQ below (Qv G B cy nT out) args s 0 0 (FB B)) (F0 m 50 ls [.int s0, .ref (B + q)]) := by
  obtain ⟨hx, hb, hr, hml, hown, hts, hKn, hlk⟩ := id X
  unfold f_X6_keepTry_50 at h
  obtain ⟨M_1, e_1, h⟩ := lt_el h
  refine pf_X6_65 X hP hS (kT_0 hq) e_1 dX6_keepTry_50 (fun H locs hP hS => ?_)
  refine lv_aload_n hx hb dX6_keepTry_53 rfl (lv_at hl 0 rfl) ?_
  refine lv_iload_n hx hb dX6_keepTry_54 rfl (lv_at hl 2 rfl) ?_
  refine lv_if_eq (tgt := 62) hx hb dX6_keepTry_55 (by decide) (fun hc => ?_) (fun hc => ?_)
  · replace h := if_elp h hc
    refine lv_aload_n hx hb dX6_keepTry_62 rfl (lv_at hl 1 rfl) ?_
    refine gf_X6_68 X hP (kA_0 hq1) dX6_keepTry_63 ?_
    exact w_X6_keepTry_66 X hq hq1 hP hS (lv_sub hl [0, 1] rfl) h
  · replace h := if_eln h hc
    refine lv_iconst (v := 0) hx hb dX6_keepTry_58 (by decide) ?_
    refine lv_goto (tgt := 66) hx hb dX6_keepTry_59 (by decide) ?_
    exact w_X6_keepTry_66 X hq hq1 hP hS (lv_sub hl [0, 1] rfl) h
def f_X6_keepTry_12 (q : Nat) (q1 : Nat) (M : Mem) (s0 : Int32) : Option (Mem) :=
  lt (sI M q 9 1) fun M_1 => lt (sI M_1 q 10 (gI M_1 q1 5)) fun M_2 => lt (sL M_2 q 11 (gL M_2 q1 7)) fun M_3 => if s0 = 0 then (f_X6_keepTry_50 q q1 M_3 s0 0) else (Option.bind (f_J13_bitCount_95d88 (gL M_3 q1 8)) fun r_1 => f_X6_keepTry_50 q q1 M_3 s0 r_1)
set_option maxRecDepth 100000 in
set_option maxHeartbeats 4000000 in
theorem w_X6_keepTry_12 (X : Cx p s m args meth c cX6_keepTry RX6 3 none G cy) {q : Nat} (hq : okT nT q) {q1 : Nat} (hq1 : isA q1) {out : Mem} {M : Mem} {s0 : Int32} (hP : Pic G B cy nT M H) (hS : va_S (FB B) s.heap H locs) (hl : lv_has ls 3 [(0, .ref (B + q)), (1, .ref (B + q1))]) (h : f_X6_keepTry_12 q q1 M s0 = some out) : W p l e rmX6_keepTry s m args below meth c H locs 0 0 (MQ below (Qv G B cy nT out) args s 0 0 (FB B)) (F0 m 12 ls [.int s0]) := by
  obtain ⟨hx, hb, hr, hml, hown, hts, hKn, hlk⟩ := id X
  unfold f_X6_keepTry_12 at h
  refine lv_istore_n (lv' := [(2, .int s0), (0, .ref (B + q)), (1, .ref (B + q1))]) hx hb dX6_keepTry_12 rfl hl (by decide) rfl (fun ls hl => ?_)
  refine lv_aload_n hx hb dX6_keepTry_13 rfl (lv_at hl 1 rfl) ?_
  refine lv_iconst (v := 1) hx hb dX6_keepTry_14 (by decide) ?_
  obtain ⟨M_1, e_1, h⟩ := lt_el h
  refine pf_X6_43 X hP hS (kT_0 hq) rfl e_1 dX6_keepTry_15 (fun H locs hP hS => ?_)
  refine lv_aload_n hx hb dX6_keepTry_18 rfl (lv_at hl 1 rfl) ?_
  refine lv_aload_n hx hb dX6_keepTry_19 rfl (lv_at hl 2 rfl) ?_
  refine gf_X6_47 X hP (kA_0 hq1) dX6_keepTry_20 ?_
  obtain ⟨M_2, e_2, h⟩ := lt_el h
  refine pf_X6_50 X hP hS (kT_0 hq) e_2 dX6_keepTry_23 (fun H locs hP hS => ?_)
  refine lv_aload_n hx hb dX6_keepTry_26 rfl (lv_at hl 1 rfl) ?_
  refine lv_aload_n hx hb dX6_keepTry_27 rfl (lv_at hl 2 rfl) ?_
  refine gf_X6_51 X hP (kA_0 hq1) dX6_keepTry_28 ?_
  obtain ⟨M_3, e_3, h⟩ := lt_el h
  refine pf_X6_55 X hP hS (kT_0 hq) e_3 dX6_keepTry_31 (fun H locs hP hS => ?_)
  refine lv_aload_n hx hb dX6_keepTry_34 rfl (lv_at hl 1 rfl) ?_
  refine lv_iload_n hx hb dX6_keepTry_35 rfl (lv_at hl 0 rfl) ?_
  refine lv_if_eq (tgt := 49) hx hb dX6_keepTry_36 (by decide) (fun hc => ?_) (fun hc => ?_)
  · replace h := if_elp h hc
    refine lv_iconst (v := 0) hx hb dX6_keepTry_49 (by decide) ?_
    exact w_X6_keepTry_50 X hq hq1 hP hS (lv_sub hl [1, 2, 0] rfl) h
  · replace h := if_eln h hc
    refine lv_aload_n hx hb dX6_keepTry_39 rfl (lv_at hl 2 rfl) ?_
    refine gf_X6_56 X hP (kA_0 hq1) dX6_keepTry_40 ?_
    obtain ⟨r_1, h_1, h⟩ := bd_el h
    refine cl_i (rn_S X hP (c_J13_bitCount_95d88 h_1) k_436 k_437 k_12 k_438 hd_J13_bitCount_95d88 (n := 1) ⟨⟨rfl, rfl⟩, Nat.le_of_ble_eq_true rfl, Nat.le_of_ble_eq_true rfl⟩ (As := [.long (gL M_3 q1 8)]) (rest := [.ref (B + q)]) rfl hl.1 rfl (Nat.le_of_ble_eq_true rfl) dX6_keepTry_43 ⟨Nat.zero_le _, Nat.zero_le _⟩) hS (fun H locs hP hS => ?_)
    refine lv_goto (tgt := 50) hx hb dX6_keepTry_46 (by decide) ?_
    exact w_X6_keepTry_50 X hq hq1 hP hS (lv_sub hl [1, 2, 0] rfl) h
def f_X6_keepTry (q : Nat) (q1 : Nat) (M : Mem) : Option (Mem) :=
  if (gI M q1 4) = 0 then (f_X6_keepTry_12 q q1 M 1) else (f_X6_keepTry_12 q q1 M 0)
set_option maxRecDepth 100000 in
set_option maxHeartbeats 4000000 in
theorem c_X6_keepTry {l : Launch} {G : va_G} {cy : Nat → ClassId} {B nT : Nat} {q : Nat} (hq : okT nT q) {q1 : Nat} (hq1 : isA q1) {M : Mem} {out : Mem} (h : f_X6_keepTry q q1 M = some out) : Met l yX6_keepTry (wsU yX6_keepTry cX6_keepTry 3 none) rmX6_keepTry (va_Pc [.ref (B + q), .ref (B + q1)] (PU G B cy nT M)) (Qv G B cy nT out) 0 0 (FB B) := by
  refine r_met (by decide +kernel) RX6 rfl (Nat.le_of_ble_eq_true rfl) ?_
  intro p e s m args below meth c ls X hP hl
  have hl : lv_has ls 3 [(0, .ref (B + q)), (1, .ref (B + q1))] := hl
  have hS : va_S (FB B) s.heap s.heap [] := va_S.rf
  obtain ⟨hx, hb, hr, hml, hown, hts, hKn, hlk⟩ := id X
  unfold f_X6_keepTry at h
  refine lv_aload_n hx hb dX6_keepTry_0 rfl (lv_at hl 1 rfl) ?_
  refine gf_X6_38 X hP (kA_0 hq1) dX6_keepTry_1 ?_
  refine lv_if_ne (tgt := 11) hx hb dX6_keepTry_4 (by decide) (fun hc => ?_) (fun hc => ?_)
  · replace h := if_eln h hc
    refine lv_iconst (v := 0) hx hb dX6_keepTry_11 (by decide) ?_
    exact w_X6_keepTry_12 X hq hq1 hP hS (lv_sub hl [0, 1] rfl) h
  · replace h := if_elp h hc
    refine lv_iconst (v := 1) hx hb dX6_keepTry_7 (by decide) ?_
    refine lv_goto (tgt := 12) hx hb dX6_keepTry_8 (by decide) ?_
    exact w_X6_keepTry_12 X hq hq1 hP hS (lv_sub hl [0, 1] rfl) h
abbrev rmX6_forgetTry : Room := { frames := 0, cells := 0, slots := 0, locals := 0 }
def f_X6_forgetTry (q : Nat) (M : Mem) : Option (Mem) :=
  lt (sI M q 9 0) fun M_1 => lt (sL M_1 q 11 0) fun M_2 => lt (sI M_2 q 13 0) fun M_3 => some M_3
set_option maxRecDepth 100000 in
set_option maxHeartbeats 4000000 in
theorem c_X6_forgetTry {l : Launch} {G : va_G} {cy : Nat → ClassId} {B nT : Nat} {q : Nat} (hq : okT nT q) {M : Mem} {out : Mem} (h : f_X6_forgetTry q M = some out) : Met l yX6_forgetTry (wsU yX6_forgetTry cX6_forgetTry 1 none) rmX6_forgetTry (va_Pc [.ref (B + q)] (PU G B cy nT M)) (Qv G B cy nT out) 0 0 (FB B) := by
  refine r_met (by decide +kernel) RX6 rfl (Nat.le_of_ble_eq_true rfl) ?_
  intro p e s m args below meth c ls X hP hl
  have hl : lv_has ls 1 [(0, .ref (B + q))] := hl
  have hS : va_S (FB B) s.heap s.heap [] := va_S.rf
  obtain ⟨hx, hb, hr, hml, hown, hts, hKn, hlk⟩ := id X
  unfold f_X6_forgetTry at h
  refine lv_aload_n hx hb dX6_forgetTry_0 rfl (lv_at hl 0 rfl) ?_
  refine lv_iconst (v := 0) hx hb dX6_forgetTry_1 (by decide) ?_
  obtain ⟨M_1, e_1, h⟩ := lt_el h
  refine pf_X6_43 X hP hS (kT_0 hq) rfl e_1 dX6_forgetTry_2 (fun H locs hP hS => ?_)
  refine lv_aload_n hx hb dX6_forgetTry_5 rfl (lv_at hl 0 rfl) ?_
  refine lv_lconst (v := 0) hx hb dX6_forgetTry_6 rfl ?_
  obtain ⟨M_2, e_2, h⟩ := lt_el h
  refine pf_X6_55 X hP hS (kT_0 hq) e_2 dX6_forgetTry_7 (fun H locs hP hS => ?_)
  refine lv_aload_n hx hb dX6_forgetTry_10 rfl (lv_at hl 0 rfl) ?_
  refine lv_iconst (v := 0) hx hb dX6_forgetTry_11 (by decide) ?_
  obtain ⟨M_3, e_3, h⟩ := lt_el h
  refine pf_X6_71 X hP hS (kT_0 hq) e_3 dX6_forgetTry_12 (fun H locs hP hS => ?_)
  exact r_vret X hP hS (pr0 h) dX6_forgetTry_15
abbrev rmX6_keepAnswers : Room := { frames := 1, cells := 0, slots := 0, locals := 60 }
def f_X6_keepAnswers (q : Nat) (q1 : Nat) (M : Mem) : Option (Mem) :=
  lt (sI M q 16 (gI M q1 13)) fun M_1 => gd (okC 0 0 8 8 8) <| lt (cpL M_1 (q1 + 8) (0 : Int32).toNatClampNeg (q + 3) (0 : Int32).toNatClampNeg (8 : Int32).toNatClampNeg) fun M_2 => some M_2
set_option maxRecDepth 100000 in
set_option maxHeartbeats 4000000 in
theorem c_X6_keepAnswers {l : Launch} {G : va_G} {cy : Nat → ClassId} {B nT : Nat} {q : Nat} (hq : okT nT q) {q1 : Nat} (hq1 : isA q1) {M : Mem} {out : Mem} (h : f_X6_keepAnswers q q1 M = some out) : Met l yX6_keepAnswers (wsU yX6_keepAnswers cX6_keepAnswers 2 none) rmX6_keepAnswers (va_Pc [.ref (B + q), .ref (B + q1)] (PU G B cy nT M)) (Qv G B cy nT out) 0 0 (FB B) := by
  refine r_met (by decide +kernel) RX6 rfl (Nat.le_of_ble_eq_true rfl) ?_
  intro p e s m args below meth c ls X hP hl
  have hl : lv_has ls 2 [(0, .ref (B + q)), (1, .ref (B + q1))] := hl
  have hS : va_S (FB B) s.heap s.heap [] := va_S.rf
  obtain ⟨hx, hb, hr, hml, hown, hts, hKn, hlk⟩ := id X
  unfold f_X6_keepAnswers at h
  refine lv_aload_n hx hb dX6_keepAnswers_0 rfl (lv_at hl 0 rfl) ?_
  refine lv_aload_n hx hb dX6_keepAnswers_1 rfl (lv_at hl 1 rfl) ?_
  refine gf_X6_80 X hP (kA_0 hq1) dX6_keepAnswers_2 ?_
  obtain ⟨M_1, e_1, h⟩ := lt_el h
  refine pf_X6_83 X hP hS (kT_0 hq) e_1 dX6_keepAnswers_5 (fun H locs hP hS => ?_)
  refine lv_aload_n hx hb dX6_keepAnswers_8 rfl (lv_at hl 1 rfl) ?_
  refine gf_X6_84 X hP (kA_0 hq1) dX6_keepAnswers_9 ?_
  refine lv_iconst (v := 0) hx hb dX6_keepAnswers_12 (by decide) ?_
  refine lv_aload_n hx hb dX6_keepAnswers_13 rfl (lv_at hl 0 rfl) ?_
  refine gf_X6_31 X hP (kT_0 hq) dX6_keepAnswers_14 ?_
  refine lv_iconst (v := 0) hx hb dX6_keepAnswers_17 (by decide) ?_
  refine lv_bipush (v := 8) hx hb dX6_keepAnswers_18 (by decide) ?_
  obtain ⟨g_1, h⟩ := gd_el h
  obtain ⟨M_2, e_2, h⟩ := lt_el h
  refine r_cpL X hl.1 hP hS k_442 k_359 k_358 k_11 (kA_8 hq1) (kT_3 hq) g_1 e_2 (Nat.le_of_ble_eq_true rfl) (by decide +kernel) dX6_keepAnswers_20 (fun H locs hP hS => ?_)
  exact r_vret X hP hS (pr0 h) dX6_keepAnswers_23
abbrev rmX8_isTrade : Room := { frames := 0, cells := 0, slots := 0, locals := 0 }
def f_X8_isTrade (a0 : Int32) : Option (Bool) :=
  if a0 < 0 then (some false) else (if 16 ≤ a0 then (some false) else (some true))
set_option maxRecDepth 100000 in
set_option maxHeartbeats 4000000 in
theorem c_X8_isTrade {l : Launch} {G : va_G} {cy : Nat → ClassId} {B nT : Nat} {M : Mem} {a0 : Int32} {out : Bool} (h : f_X8_isTrade a0 = some out) : Met l yX8_isTrade (wsU yX8_isTrade cX8_isTrade 1 (some .boolean)) rmX8_isTrade (va_Pc [.int a0] (PU G B cy nT M)) (Qi G B cy nT (bI out) M) 0 0 (FB B) := by
  refine r_met (by decide +kernel) RX8 rfl (Nat.le_of_ble_eq_true rfl) ?_
  intro p e s m args below meth c ls X hP hl
  have hl : lv_has ls 1 [(0, .int a0)] := hl
  have hS : va_S (FB B) s.heap s.heap [] := va_S.rf
  obtain ⟨hx, hb, hr, hml, hown, hts, hKn, hlk⟩ := id X
  unfold f_X8_isTrade at h
  refine lv_iload_n hx hb dX8_isTrade_0 rfl (lv_at hl 0 rfl) ?_
  refine lv_if_lt (tgt := 14) hx hb dX8_isTrade_1 (by decide) (fun hc => ?_) (fun hc => ?_)
  · replace h := if_elp h hc
    refine lv_iconst (v := 0) hx hb dX8_isTrade_14 (by decide) ?_
    exact r_zret X hP hS rfl (prz h) rfl dX8_isTrade_15
  · replace h := if_eln h hc
    refine lv_iload_n hx hb dX8_isTrade_4 rfl (lv_at hl 0 rfl) ?_
    refine lv_bipush (v := 16) hx hb dX8_isTrade_5 (by decide) ?_
    refine lv_icmp_ge (tgt := 14) hx hb dX8_isTrade_7 (by decide) (fun hc => ?_) (fun hc => ?_)
    · replace h := if_elp h hc
      refine lv_iconst (v := 0) hx hb dX8_isTrade_14 (by decide) ?_
      exact r_zret X hP hS rfl (prz h) rfl dX8_isTrade_15
    · replace h := if_eln h hc
      refine lv_iconst (v := 1) hx hb dX8_isTrade_10 (by decide) ?_
      refine lv_goto (tgt := 15) hx hb dX8_isTrade_11 (by decide) ?_
      exact r_zret X hP hS rfl (prz h) rfl dX8_isTrade_15
abbrev rmX7_fits : Room := { frames := 1, cells := 0, slots := 0, locals := 21 }
def f_X7_fits_178 : Option (Bool) :=
  some true
set_option maxRecDepth 100000 in
set_option maxHeartbeats 4000000 in
theorem w_X7_fits_178 (X : Cx p s m args meth c cX7_fits RX7 3 (some .boolean) G cy) {M : Mem} {out : Bool} (hP : Pic G B cy nT M H) (hS : va_S (FB B) s.heap H locs) (hl : lv_has ls 3 []) (h : f_X7_fits_178 = some out) : W p l e rmX7_fits s m args below meth c H locs 0 0 (MQ below (Qi G B cy nT (bI out) M) args s 0 0 (FB B)) (F0 m 178 ls []) := by
  obtain ⟨hx, hb, hr, hml, hown, hts, hKn, hlk⟩ := id X
  unfold f_X7_fits_178 at h
  refine lv_iconst (v := 1) hx hb dX7_fits_178 (by decide) ?_
  refine lv_goto (tgt := 183) hx hb dX7_fits_179 (by decide) ?_
  exact r_zret X hP hS rfl (prz h) rfl dX7_fits_183
def f_X7_fits (a0 : Int32) (a1 : Int32) (a2 : Int32) : Option (Bool) :=
  if a0 = 1 then (Option.bind (f_X8_isCell (Int32.toInt64 a1)) fun r_1 => some r_1) else if a0 = 2 then (Option.bind (f_X8_isCell (Int32.toInt64 a1)) fun r_2 => some r_2) else if a0 = 3 then (Option.bind (f_X8_isCell (Int32.toInt64 a1)) fun r_3 => some r_3) else if a0 = 4 then (if a0 < 0 then (some false) else (if 19 < a0 then (some false) else (some true))) else if a0 = 5 then (if a0 < 0 then (some false) else (if 19 < a0 then (some false) else (some true))) else if a0 = 6 then (Option.bind (f_X8_isCell (Int32.toInt64 a1)) fun r_4 => some r_4) else if a0 = 7 then (if a0 < 0 then (some false) else (if 19 < a0 then (some false) else (some true))) else if a0 = 8 then (Option.bind (f_X8_isCell (Int32.toInt64 a1)) fun r_5 => some r_5) else if a0 = 9 then (Option.bind (f_X8_isCell (Int32.toInt64 a1)) fun r_6 => some r_6) else if a0 = 10 then (Option.bind (f_X8_isCell (Int32.toInt64 a1)) fun r_7 => if (bI r_7) = 0 then (some false) else (Option.bind (f_X8_isCell (Int32.toInt64 a2)) fun r_8 => if (bI r_8) = 0 then (some false) else (some true))) else if a0 = 11 then (Option.bind (f_X8_isCell (Int32.toInt64 a1)) fun r_9 => if (bI r_9) = 0 then (some false) else (Option.bind (f_X8_isCell (Int32.toInt64 a2)) fun r_10 => if (bI r_10) = 0 then (some false) else (some true))) else if a0 = 12 then (if a0 < 0 then (some false) else (if 19 < a0 then (some false) else (some true))) else if a0 = 13 then (if a1 < 0 then (some false) else (if 24 < a1 then (some false) else (some true))) else if a0 = 14 then (if a0 < 0 then (some false) else (if 19 < a0 then (some false) else (some true))) else if a0 = 15 then (if a0 < 0 then (some false) else (if 19 < a0 then (some false) else (some true))) else if a0 = 16 then (Option.bind (f_X8_isTrade a1) fun r_11 => some r_11) else if a0 = 17 then (Option.bind (f_X8_isTrade a1) fun r_12 => some r_12) else if a0 = 18 then (Option.bind (f_X8_isTrade a1) fun r_13 => if (bI r_13) = 0 then (some false) else (Option.bind (f_X8_isTrade a2) fun r_14 => if (bI r_14) = 0 then (some false) else (some true))) else if a0 = 19 then (if a1 = 0 then (f_X7_fits_178) else (if a1 = 1 then (Option.bind (f_X8_isCell (Int32.toInt64 a2)) fun r_15 => if (bI r_15) = 0 then (some false) else (f_X7_fits_178)) else (some false))) else if a0 < 0 then (some false) else (if 19 < a0 then (some false) else (some true))
set_option maxRecDepth 100000 in
set_option maxHeartbeats 4000000 in
theorem c_X7_fits {l : Launch} {G : va_G} {cy : Nat → ClassId} {B nT : Nat} {M : Mem} {a0 : Int32} {a1 : Int32} {a2 : Int32} {out : Bool} (h : f_X7_fits a0 a1 a2 = some out) : Met l yX7_fits (wsU yX7_fits cX7_fits 3 (some .boolean)) rmX7_fits (va_Pc [.int a0, .int a1, .int a2] (PU G B cy nT M)) (Qi G B cy nT (bI out) M) 0 0 (FB B) := by
  refine r_met (by decide +kernel) RX7 rfl (Nat.le_of_ble_eq_true rfl) ?_
  intro p e s m args below meth c ls X hP hl
  have hl : lv_has ls 3 [(0, .int a0), (1, .int a1), (2, .int a2)] := hl
  have hS : va_S (FB B) s.heap s.heap [] := va_S.rf
  obtain ⟨hx, hb, hr, hml, hown, hts, hKn, hlk⟩ := id X
  unfold f_X7_fits at h
  refine lv_iload_n hx hb dX7_fits_0 rfl (lv_at hl 0 rfl) ?_
  by_cases h_1 : a0 = 1
  · replace h := if_elp h h_1
    refine lv_tableIn (off := 91) (tgt := 92) hx hb dX7_fits_1 (by rw [h_1]; decide) (by rw [h_1]; decide) (by rw [h_1]; rfl) (by decide) ?_
    refine lv_iload_n hx hb dX7_fits_92 rfl (lv_at hl 1 rfl) ?_
    refine lv_i2l (v := (Int32.toInt64 a1)) hx hb dX7_fits_93 rfl ?_
    obtain ⟨r_1, h_2, h⟩ := bd_el h
    refine cl_i (rn_SN X hP (c_X8_isCell h_2) nst_X7_27 k_187 k_1 k_188 hd_X8_isCell (n := 1) ⟨⟨rfl, rfl⟩, Nat.le_of_ble_eq_true rfl, Nat.le_of_ble_eq_true rfl⟩ (As := [.long (Int32.toInt64 a1)]) (rest := []) rfl hl.1 rfl (Nat.le_of_ble_eq_true rfl) dX7_fits_94 ⟨Nat.zero_le _, Nat.zero_le _⟩) hS (fun H locs hP hS => ?_)
    exact r_zret X hP hS (nar_bI _) (prz h) rfl dX7_fits_97
  · replace h := if_eln h h_1
    by_cases h_3 : a0 = 2
    · replace h := if_elp h h_3
      refine lv_tableIn (off := 91) (tgt := 92) hx hb dX7_fits_1 (by rw [h_3]; decide) (by rw [h_3]; decide) (by rw [h_3]; rfl) (by decide) ?_
      refine lv_iload_n hx hb dX7_fits_92 rfl (lv_at hl 1 rfl) ?_
      refine lv_i2l (v := (Int32.toInt64 a1)) hx hb dX7_fits_93 rfl ?_
      obtain ⟨r_2, h_4, h⟩ := bd_el h
      refine cl_i (rn_SN X hP (c_X8_isCell h_4) nst_X7_27 k_187 k_1 k_188 hd_X8_isCell (n := 1) ⟨⟨rfl, rfl⟩, Nat.le_of_ble_eq_true rfl, Nat.le_of_ble_eq_true rfl⟩ (As := [.long (Int32.toInt64 a1)]) (rest := []) rfl hl.1 rfl (Nat.le_of_ble_eq_true rfl) dX7_fits_94 ⟨Nat.zero_le _, Nat.zero_le _⟩) hS (fun H locs hP hS => ?_)
      exact r_zret X hP hS (nar_bI _) (prz h) rfl dX7_fits_97
    · replace h := if_eln h h_3
      by_cases h_5 : a0 = 3
      · replace h := if_elp h h_5
        refine lv_tableIn (off := 91) (tgt := 92) hx hb dX7_fits_1 (by rw [h_5]; decide) (by rw [h_5]; decide) (by rw [h_5]; rfl) (by decide) ?_
        refine lv_iload_n hx hb dX7_fits_92 rfl (lv_at hl 1 rfl) ?_
        refine lv_i2l (v := (Int32.toInt64 a1)) hx hb dX7_fits_93 rfl ?_
        obtain ⟨r_3, h_6, h⟩ := bd_el h
        refine cl_i (rn_SN X hP (c_X8_isCell h_6) nst_X7_27 k_187 k_1 k_188 hd_X8_isCell (n := 1) ⟨⟨rfl, rfl⟩, Nat.le_of_ble_eq_true rfl, Nat.le_of_ble_eq_true rfl⟩ (As := [.long (Int32.toInt64 a1)]) (rest := []) rfl hl.1 rfl (Nat.le_of_ble_eq_true rfl) dX7_fits_94 ⟨Nat.zero_le _, Nat.zero_le _⟩) hS (fun H locs hP hS => ?_)
        exact r_zret X hP hS (nar_bI _) (prz h) rfl dX7_fits_97
      · replace h := if_eln h h_5
        by_cases h_7 : a0 = 4
        · replace h := if_elp h h_7
          refine lv_tableIn (off := 183) (tgt := 184) hx hb dX7_fits_1 (by rw [h_7]; decide) (by rw [h_7]; decide) (by rw [h_7]; rfl) (by decide) ?_
          refine lv_iload_n hx hb dX7_fits_184 rfl (lv_at hl 0 rfl) ?_
          refine lv_if_lt (tgt := 198) hx hb dX7_fits_185 (by decide) (fun hc => ?_) (fun hc => ?_)
          · replace h := if_elp h hc
            refine lv_iconst (v := 0) hx hb dX7_fits_198 (by decide) ?_
            exact r_zret X hP hS rfl (prz h) rfl dX7_fits_199
          · replace h := if_eln h hc
            refine lv_iload_n hx hb dX7_fits_188 rfl (lv_at hl 0 rfl) ?_
            refine lv_bipush (v := 19) hx hb dX7_fits_189 (by decide) ?_
            refine lv_icmp_gt (tgt := 198) hx hb dX7_fits_191 (by decide) (fun hc => ?_) (fun hc => ?_)
            · replace h := if_elp h hc
              refine lv_iconst (v := 0) hx hb dX7_fits_198 (by decide) ?_
              exact r_zret X hP hS rfl (prz h) rfl dX7_fits_199
            · replace h := if_eln h hc
              refine lv_iconst (v := 1) hx hb dX7_fits_194 (by decide) ?_
              refine lv_goto (tgt := 199) hx hb dX7_fits_195 (by decide) ?_
              exact r_zret X hP hS rfl (prz h) rfl dX7_fits_199
        · replace h := if_eln h h_7
          by_cases h_8 : a0 = 5
          · replace h := if_elp h h_8
            refine lv_tableIn (off := 183) (tgt := 184) hx hb dX7_fits_1 (by rw [h_8]; decide) (by rw [h_8]; decide) (by rw [h_8]; rfl) (by decide) ?_
            refine lv_iload_n hx hb dX7_fits_184 rfl (lv_at hl 0 rfl) ?_
            refine lv_if_lt (tgt := 198) hx hb dX7_fits_185 (by decide) (fun hc => ?_) (fun hc => ?_)
            · replace h := if_elp h hc
              refine lv_iconst (v := 0) hx hb dX7_fits_198 (by decide) ?_
              exact r_zret X hP hS rfl (prz h) rfl dX7_fits_199
            · replace h := if_eln h hc
              refine lv_iload_n hx hb dX7_fits_188 rfl (lv_at hl 0 rfl) ?_
              refine lv_bipush (v := 19) hx hb dX7_fits_189 (by decide) ?_
              refine lv_icmp_gt (tgt := 198) hx hb dX7_fits_191 (by decide) (fun hc => ?_) (fun hc => ?_)
              · replace h := if_elp h hc
                refine lv_iconst (v := 0) hx hb dX7_fits_198 (by decide) ?_
                exact r_zret X hP hS rfl (prz h) rfl dX7_fits_199
              · replace h := if_eln h hc
                refine lv_iconst (v := 1) hx hb dX7_fits_194 (by decide) ?_
                refine lv_goto (tgt := 199) hx hb dX7_fits_195 (by decide) ?_
                exact r_zret X hP hS rfl (prz h) rfl dX7_fits_199
          · replace h := if_eln h h_8
            by_cases h_9 : a0 = 6
            · replace h := if_elp h h_9
              refine lv_tableIn (off := 91) (tgt := 92) hx hb dX7_fits_1 (by rw [h_9]; decide) (by rw [h_9]; decide) (by rw [h_9]; rfl) (by decide) ?_
              refine lv_iload_n hx hb dX7_fits_92 rfl (lv_at hl 1 rfl) ?_
              refine lv_i2l (v := (Int32.toInt64 a1)) hx hb dX7_fits_93 rfl ?_
              obtain ⟨r_4, h_10, h⟩ := bd_el h
              refine cl_i (rn_SN X hP (c_X8_isCell h_10) nst_X7_27 k_187 k_1 k_188 hd_X8_isCell (n := 1) ⟨⟨rfl, rfl⟩, Nat.le_of_ble_eq_true rfl, Nat.le_of_ble_eq_true rfl⟩ (As := [.long (Int32.toInt64 a1)]) (rest := []) rfl hl.1 rfl (Nat.le_of_ble_eq_true rfl) dX7_fits_94 ⟨Nat.zero_le _, Nat.zero_le _⟩) hS (fun H locs hP hS => ?_)
              exact r_zret X hP hS (nar_bI _) (prz h) rfl dX7_fits_97
            · replace h := if_eln h h_9
              by_cases h_11 : a0 = 7
              · replace h := if_elp h h_11
                refine lv_tableIn (off := 183) (tgt := 184) hx hb dX7_fits_1 (by rw [h_11]; decide) (by rw [h_11]; decide) (by rw [h_11]; rfl) (by decide) ?_
                refine lv_iload_n hx hb dX7_fits_184 rfl (lv_at hl 0 rfl) ?_
                refine lv_if_lt (tgt := 198) hx hb dX7_fits_185 (by decide) (fun hc => ?_) (fun hc => ?_)
                · replace h := if_elp h hc
                  refine lv_iconst (v := 0) hx hb dX7_fits_198 (by decide) ?_
                  exact r_zret X hP hS rfl (prz h) rfl dX7_fits_199
                · replace h := if_eln h hc
                  refine lv_iload_n hx hb dX7_fits_188 rfl (lv_at hl 0 rfl) ?_
                  refine lv_bipush (v := 19) hx hb dX7_fits_189 (by decide) ?_
                  refine lv_icmp_gt (tgt := 198) hx hb dX7_fits_191 (by decide) (fun hc => ?_) (fun hc => ?_)
                  · replace h := if_elp h hc
                    refine lv_iconst (v := 0) hx hb dX7_fits_198 (by decide) ?_
                    exact r_zret X hP hS rfl (prz h) rfl dX7_fits_199
                  · replace h := if_eln h hc
                    refine lv_iconst (v := 1) hx hb dX7_fits_194 (by decide) ?_
                    refine lv_goto (tgt := 199) hx hb dX7_fits_195 (by decide) ?_
                    exact r_zret X hP hS rfl (prz h) rfl dX7_fits_199
              · replace h := if_eln h h_11
                by_cases h_12 : a0 = 8
                · replace h := if_elp h h_12
                  refine lv_tableIn (off := 91) (tgt := 92) hx hb dX7_fits_1 (by rw [h_12]; decide) (by rw [h_12]; decide) (by rw [h_12]; rfl) (by decide) ?_
                  refine lv_iload_n hx hb dX7_fits_92 rfl (lv_at hl 1 rfl) ?_
                  refine lv_i2l (v := (Int32.toInt64 a1)) hx hb dX7_fits_93 rfl ?_
                  obtain ⟨r_5, h_13, h⟩ := bd_el h
                  refine cl_i (rn_SN X hP (c_X8_isCell h_13) nst_X7_27 k_187 k_1 k_188 hd_X8_isCell (n := 1) ⟨⟨rfl, rfl⟩, Nat.le_of_ble_eq_true rfl, Nat.le_of_ble_eq_true rfl⟩ (As := [.long (Int32.toInt64 a1)]) (rest := []) rfl hl.1 rfl (Nat.le_of_ble_eq_true rfl) dX7_fits_94 ⟨Nat.zero_le _, Nat.zero_le _⟩) hS (fun H locs hP hS => ?_)
                  exact r_zret X hP hS (nar_bI _) (prz h) rfl dX7_fits_97
                · replace h := if_eln h h_12
                  by_cases h_14 : a0 = 9
                  · replace h := if_elp h h_14
                    refine lv_tableIn (off := 91) (tgt := 92) hx hb dX7_fits_1 (by rw [h_14]; decide) (by rw [h_14]; decide) (by rw [h_14]; rfl) (by decide) ?_
                    refine lv_iload_n hx hb dX7_fits_92 rfl (lv_at hl 1 rfl) ?_
                    refine lv_i2l (v := (Int32.toInt64 a1)) hx hb dX7_fits_93 rfl ?_
                    obtain ⟨r_6, h_15, h⟩ := bd_el h
                    refine cl_i (rn_SN X hP (c_X8_isCell h_15) nst_X7_27 k_187 k_1 k_188 hd_X8_isCell (n := 1) ⟨⟨rfl, rfl⟩, Nat.le_of_ble_eq_true rfl, Nat.le_of_ble_eq_true rfl⟩ (As := [.long (Int32.toInt64 a1)]) (rest := []) rfl hl.1 rfl (Nat.le_of_ble_eq_true rfl) dX7_fits_94 ⟨Nat.zero_le _, Nat.zero_le _⟩) hS (fun H locs hP hS => ?_)
                    exact r_zret X hP hS (nar_bI _) (prz h) rfl dX7_fits_97
                  · replace h := if_eln h h_14
                    by_cases h_16 : a0 = 10
                    · replace h := if_elp h h_16
                      refine lv_tableIn (off := 97) (tgt := 98) hx hb dX7_fits_1 (by rw [h_16]; decide) (by rw [h_16]; decide) (by rw [h_16]; rfl) (by decide) ?_
                      refine lv_iload_n hx hb dX7_fits_98 rfl (lv_at hl 1 rfl) ?_
                      refine lv_i2l (v := (Int32.toInt64 a1)) hx hb dX7_fits_99 rfl ?_
                      obtain ⟨r_7, h_17, h⟩ := bd_el h
                      refine cl_i (rn_SN X hP (c_X8_isCell h_17) nst_X7_27 k_187 k_1 k_188 hd_X8_isCell (n := 1) ⟨⟨rfl, rfl⟩, Nat.le_of_ble_eq_true rfl, Nat.le_of_ble_eq_true rfl⟩ (As := [.long (Int32.toInt64 a1)]) (rest := []) rfl hl.1 rfl (Nat.le_of_ble_eq_true rfl) dX7_fits_100 ⟨Nat.zero_le _, Nat.zero_le _⟩) hS (fun H locs hP hS => ?_)
                      refine lv_if_eq (tgt := 118) hx hb dX7_fits_103 (by decide) (fun hc => ?_) (fun hc => ?_)
                      · replace h := if_elp h hc
                        refine lv_iconst (v := 0) hx hb dX7_fits_118 (by decide) ?_
                        exact r_zret X hP hS rfl (prz h) rfl dX7_fits_119
                      · replace h := if_eln h hc
                        refine lv_iload_n hx hb dX7_fits_106 rfl (lv_at hl 2 rfl) ?_
                        refine lv_i2l (v := (Int32.toInt64 a2)) hx hb dX7_fits_107 rfl ?_
                        obtain ⟨r_8, h_18, h⟩ := bd_el h
                        refine cl_i (rn_SN X hP (c_X8_isCell h_18) nst_X7_27 k_187 k_1 k_188 hd_X8_isCell (n := 1) ⟨⟨rfl, rfl⟩, Nat.le_of_ble_eq_true rfl, Nat.le_of_ble_eq_true rfl⟩ (As := [.long (Int32.toInt64 a2)]) (rest := []) rfl hl.1 rfl (Nat.le_of_ble_eq_true rfl) dX7_fits_108 ⟨Nat.zero_le _, Nat.zero_le _⟩) hS (fun H locs hP hS => ?_)
                        refine lv_if_eq (tgt := 118) hx hb dX7_fits_111 (by decide) (fun hc => ?_) (fun hc => ?_)
                        · replace h := if_elp h hc
                          refine lv_iconst (v := 0) hx hb dX7_fits_118 (by decide) ?_
                          exact r_zret X hP hS rfl (prz h) rfl dX7_fits_119
                        · replace h := if_eln h hc
                          refine lv_iconst (v := 1) hx hb dX7_fits_114 (by decide) ?_
                          refine lv_goto (tgt := 119) hx hb dX7_fits_115 (by decide) ?_
                          exact r_zret X hP hS rfl (prz h) rfl dX7_fits_119
                    · replace h := if_eln h h_16
                      by_cases h_19 : a0 = 11
                      · replace h := if_elp h h_19
                        refine lv_tableIn (off := 97) (tgt := 98) hx hb dX7_fits_1 (by rw [h_19]; decide) (by rw [h_19]; decide) (by rw [h_19]; rfl) (by decide) ?_
                        refine lv_iload_n hx hb dX7_fits_98 rfl (lv_at hl 1 rfl) ?_
                        refine lv_i2l (v := (Int32.toInt64 a1)) hx hb dX7_fits_99 rfl ?_
                        obtain ⟨r_9, h_20, h⟩ := bd_el h
                        refine cl_i (rn_SN X hP (c_X8_isCell h_20) nst_X7_27 k_187 k_1 k_188 hd_X8_isCell (n := 1) ⟨⟨rfl, rfl⟩, Nat.le_of_ble_eq_true rfl, Nat.le_of_ble_eq_true rfl⟩ (As := [.long (Int32.toInt64 a1)]) (rest := []) rfl hl.1 rfl (Nat.le_of_ble_eq_true rfl) dX7_fits_100 ⟨Nat.zero_le _, Nat.zero_le _⟩) hS (fun H locs hP hS => ?_)
                        refine lv_if_eq (tgt := 118) hx hb dX7_fits_103 (by decide) (fun hc => ?_) (fun hc => ?_)
                        · replace h := if_elp h hc
                          refine lv_iconst (v := 0) hx hb dX7_fits_118 (by decide) ?_
                          exact r_zret X hP hS rfl (prz h) rfl dX7_fits_119
                        · replace h := if_eln h hc
                          refine lv_iload_n hx hb dX7_fits_106 rfl (lv_at hl 2 rfl) ?_
                          refine lv_i2l (v := (Int32.toInt64 a2)) hx hb dX7_fits_107 rfl ?_
                          obtain ⟨r_10, h_21, h⟩ := bd_el h
                          refine cl_i (rn_SN X hP (c_X8_isCell h_21) nst_X7_27 k_187 k_1 k_188 hd_X8_isCell (n := 1) ⟨⟨rfl, rfl⟩, Nat.le_of_ble_eq_true rfl, Nat.le_of_ble_eq_true rfl⟩ (As := [.long (Int32.toInt64 a2)]) (rest := []) rfl hl.1 rfl (Nat.le_of_ble_eq_true rfl) dX7_fits_108 ⟨Nat.zero_le _, Nat.zero_le _⟩) hS (fun H locs hP hS => ?_)
                          refine lv_if_eq (tgt := 118) hx hb dX7_fits_111 (by decide) (fun hc => ?_) (fun hc => ?_)
                          · replace h := if_elp h hc
                            refine lv_iconst (v := 0) hx hb dX7_fits_118 (by decide) ?_
                            exact r_zret X hP hS rfl (prz h) rfl dX7_fits_119
                          · replace h := if_eln h hc
                            refine lv_iconst (v := 1) hx hb dX7_fits_114 (by decide) ?_
                            refine lv_goto (tgt := 119) hx hb dX7_fits_115 (by decide) ?_
                            exact r_zret X hP hS rfl (prz h) rfl dX7_fits_119
                      · replace h := if_eln h h_19
                        by_cases h_22 : a0 = 12
                        · replace h := if_elp h h_22
                          refine lv_tableIn (off := 183) (tgt := 184) hx hb dX7_fits_1 (by rw [h_22]; decide) (by rw [h_22]; decide) (by rw [h_22]; rfl) (by decide) ?_
                          refine lv_iload_n hx hb dX7_fits_184 rfl (lv_at hl 0 rfl) ?_
                          refine lv_if_lt (tgt := 198) hx hb dX7_fits_185 (by decide) (fun hc => ?_) (fun hc => ?_)
                          · replace h := if_elp h hc
                            refine lv_iconst (v := 0) hx hb dX7_fits_198 (by decide) ?_
                            exact r_zret X hP hS rfl (prz h) rfl dX7_fits_199
                          · replace h := if_eln h hc
                            refine lv_iload_n hx hb dX7_fits_188 rfl (lv_at hl 0 rfl) ?_
                            refine lv_bipush (v := 19) hx hb dX7_fits_189 (by decide) ?_
                            refine lv_icmp_gt (tgt := 198) hx hb dX7_fits_191 (by decide) (fun hc => ?_) (fun hc => ?_)
                            · replace h := if_elp h hc
                              refine lv_iconst (v := 0) hx hb dX7_fits_198 (by decide) ?_
                              exact r_zret X hP hS rfl (prz h) rfl dX7_fits_199
                            · replace h := if_eln h hc
                              refine lv_iconst (v := 1) hx hb dX7_fits_194 (by decide) ?_
                              refine lv_goto (tgt := 199) hx hb dX7_fits_195 (by decide) ?_
                              exact r_zret X hP hS rfl (prz h) rfl dX7_fits_199
                        · replace h := if_eln h h_22
                          by_cases h_23 : a0 = 13
                          · replace h := if_elp h h_23
                            refine lv_tableIn (off := 119) (tgt := 120) hx hb dX7_fits_1 (by rw [h_23]; decide) (by rw [h_23]; decide) (by rw [h_23]; rfl) (by decide) ?_
                            refine lv_iload_n hx hb dX7_fits_120 rfl (lv_at hl 1 rfl) ?_
                            refine lv_if_lt (tgt := 134) hx hb dX7_fits_121 (by decide) (fun hc => ?_) (fun hc => ?_)
                            · replace h := if_elp h hc
                              refine lv_iconst (v := 0) hx hb dX7_fits_134 (by decide) ?_
                              exact r_zret X hP hS rfl (prz h) rfl dX7_fits_135
                            · replace h := if_eln h hc
                              refine lv_iload_n hx hb dX7_fits_124 rfl (lv_at hl 1 rfl) ?_
                              refine lv_bipush (v := 24) hx hb dX7_fits_125 (by decide) ?_
                              refine lv_icmp_gt (tgt := 134) hx hb dX7_fits_127 (by decide) (fun hc => ?_) (fun hc => ?_)
                              · replace h := if_elp h hc
                                refine lv_iconst (v := 0) hx hb dX7_fits_134 (by decide) ?_
                                exact r_zret X hP hS rfl (prz h) rfl dX7_fits_135
                              · replace h := if_eln h hc
                                refine lv_iconst (v := 1) hx hb dX7_fits_130 (by decide) ?_
                                refine lv_goto (tgt := 135) hx hb dX7_fits_131 (by decide) ?_
                                exact r_zret X hP hS rfl (prz h) rfl dX7_fits_135
                          · replace h := if_eln h h_23
                            by_cases h_24 : a0 = 14
                            · replace h := if_elp h h_24
                              refine lv_tableIn (off := 183) (tgt := 184) hx hb dX7_fits_1 (by rw [h_24]; decide) (by rw [h_24]; decide) (by rw [h_24]; rfl) (by decide) ?_
                              refine lv_iload_n hx hb dX7_fits_184 rfl (lv_at hl 0 rfl) ?_
                              refine lv_if_lt (tgt := 198) hx hb dX7_fits_185 (by decide) (fun hc => ?_) (fun hc => ?_)
                              · replace h := if_elp h hc
                                refine lv_iconst (v := 0) hx hb dX7_fits_198 (by decide) ?_
                                exact r_zret X hP hS rfl (prz h) rfl dX7_fits_199
                              · replace h := if_eln h hc
                                refine lv_iload_n hx hb dX7_fits_188 rfl (lv_at hl 0 rfl) ?_
                                refine lv_bipush (v := 19) hx hb dX7_fits_189 (by decide) ?_
                                refine lv_icmp_gt (tgt := 198) hx hb dX7_fits_191 (by decide) (fun hc => ?_) (fun hc => ?_)
                                · replace h := if_elp h hc
                                  refine lv_iconst (v := 0) hx hb dX7_fits_198 (by decide) ?_
                                  exact r_zret X hP hS rfl (prz h) rfl dX7_fits_199
                                · replace h := if_eln h hc
                                  refine lv_iconst (v := 1) hx hb dX7_fits_194 (by decide) ?_
                                  refine lv_goto (tgt := 199) hx hb dX7_fits_195 (by decide) ?_
                                  exact r_zret X hP hS rfl (prz h) rfl dX7_fits_199
                            · replace h := if_eln h h_24
                              by_cases h_25 : a0 = 15
                              · replace h := if_elp h h_25
                                refine lv_tableIn (off := 183) (tgt := 184) hx hb dX7_fits_1 (by rw [h_25]; decide) (by rw [h_25]; decide) (by rw [h_25]; rfl) (by decide) ?_
                                refine lv_iload_n hx hb dX7_fits_184 rfl (lv_at hl 0 rfl) ?_
                                refine lv_if_lt (tgt := 198) hx hb dX7_fits_185 (by decide) (fun hc => ?_) (fun hc => ?_)
                                · replace h := if_elp h hc
                                  refine lv_iconst (v := 0) hx hb dX7_fits_198 (by decide) ?_
                                  exact r_zret X hP hS rfl (prz h) rfl dX7_fits_199
                                · replace h := if_eln h hc
                                  refine lv_iload_n hx hb dX7_fits_188 rfl (lv_at hl 0 rfl) ?_
                                  refine lv_bipush (v := 19) hx hb dX7_fits_189 (by decide) ?_
                                  refine lv_icmp_gt (tgt := 198) hx hb dX7_fits_191 (by decide) (fun hc => ?_) (fun hc => ?_)
                                  · replace h := if_elp h hc
                                    refine lv_iconst (v := 0) hx hb dX7_fits_198 (by decide) ?_
                                    exact r_zret X hP hS rfl (prz h) rfl dX7_fits_199
                                  · replace h := if_eln h hc
                                    refine lv_iconst (v := 1) hx hb dX7_fits_194 (by decide) ?_
                                    refine lv_goto (tgt := 199) hx hb dX7_fits_195 (by decide) ?_
                                    exact r_zret X hP hS rfl (prz h) rfl dX7_fits_199
                              · replace h := if_eln h h_25
                                by_cases h_26 : a0 = 16
                                · replace h := if_elp h h_26
                                  refine lv_tableIn (off := 135) (tgt := 136) hx hb dX7_fits_1 (by rw [h_26]; decide) (by rw [h_26]; decide) (by rw [h_26]; rfl) (by decide) ?_
                                  refine lv_iload_n hx hb dX7_fits_136 rfl (lv_at hl 1 rfl) ?_
                                  obtain ⟨r_11, h_27, h⟩ := bd_el h
                                  refine cl_i (rn_SN X hP (c_X8_isTrade h_27) nst_X7_31 k_255 k_1 k_256 hd_X8_isTrade (n := 1) ⟨⟨rfl, rfl⟩, Nat.le_of_ble_eq_true rfl, Nat.le_of_ble_eq_true rfl⟩ (As := [.int a1]) (rest := []) rfl hl.1 rfl (Nat.le_of_ble_eq_true rfl) dX7_fits_137 ⟨Nat.zero_le _, Nat.zero_le _⟩) hS (fun H locs hP hS => ?_)
                                  exact r_zret X hP hS (nar_bI _) (prz h) rfl dX7_fits_140
                                · replace h := if_eln h h_26
                                  by_cases h_28 : a0 = 17
                                  · replace h := if_elp h h_28
                                    refine lv_tableIn (off := 135) (tgt := 136) hx hb dX7_fits_1 (by rw [h_28]; decide) (by rw [h_28]; decide) (by rw [h_28]; rfl) (by decide) ?_
                                    refine lv_iload_n hx hb dX7_fits_136 rfl (lv_at hl 1 rfl) ?_
                                    obtain ⟨r_12, h_29, h⟩ := bd_el h
                                    refine cl_i (rn_SN X hP (c_X8_isTrade h_29) nst_X7_31 k_255 k_1 k_256 hd_X8_isTrade (n := 1) ⟨⟨rfl, rfl⟩, Nat.le_of_ble_eq_true rfl, Nat.le_of_ble_eq_true rfl⟩ (As := [.int a1]) (rest := []) rfl hl.1 rfl (Nat.le_of_ble_eq_true rfl) dX7_fits_137 ⟨Nat.zero_le _, Nat.zero_le _⟩) hS (fun H locs hP hS => ?_)
                                    exact r_zret X hP hS (nar_bI _) (prz h) rfl dX7_fits_140
                                  · replace h := if_eln h h_28
                                    by_cases h_30 : a0 = 18
                                    · replace h := if_elp h h_30
                                      refine lv_tableIn (off := 140) (tgt := 141) hx hb dX7_fits_1 (by rw [h_30]; decide) (by rw [h_30]; decide) (by rw [h_30]; rfl) (by decide) ?_
                                      refine lv_iload_n hx hb dX7_fits_141 rfl (lv_at hl 1 rfl) ?_
                                      obtain ⟨r_13, h_31, h⟩ := bd_el h
                                      refine cl_i (rn_SN X hP (c_X8_isTrade h_31) nst_X7_31 k_255 k_1 k_256 hd_X8_isTrade (n := 1) ⟨⟨rfl, rfl⟩, Nat.le_of_ble_eq_true rfl, Nat.le_of_ble_eq_true rfl⟩ (As := [.int a1]) (rest := []) rfl hl.1 rfl (Nat.le_of_ble_eq_true rfl) dX7_fits_142 ⟨Nat.zero_le _, Nat.zero_le _⟩) hS (fun H locs hP hS => ?_)
                                      refine lv_if_eq (tgt := 159) hx hb dX7_fits_145 (by decide) (fun hc => ?_) (fun hc => ?_)
                                      · replace h := if_elp h hc
                                        refine lv_iconst (v := 0) hx hb dX7_fits_159 (by decide) ?_
                                        exact r_zret X hP hS rfl (prz h) rfl dX7_fits_160
                                      · replace h := if_eln h hc
                                        refine lv_iload_n hx hb dX7_fits_148 rfl (lv_at hl 2 rfl) ?_
                                        obtain ⟨r_14, h_32, h⟩ := bd_el h
                                        refine cl_i (rn_SN X hP (c_X8_isTrade h_32) nst_X7_31 k_255 k_1 k_256 hd_X8_isTrade (n := 1) ⟨⟨rfl, rfl⟩, Nat.le_of_ble_eq_true rfl, Nat.le_of_ble_eq_true rfl⟩ (As := [.int a2]) (rest := []) rfl hl.1 rfl (Nat.le_of_ble_eq_true rfl) dX7_fits_149 ⟨Nat.zero_le _, Nat.zero_le _⟩) hS (fun H locs hP hS => ?_)
                                        refine lv_if_eq (tgt := 159) hx hb dX7_fits_152 (by decide) (fun hc => ?_) (fun hc => ?_)
                                        · replace h := if_elp h hc
                                          refine lv_iconst (v := 0) hx hb dX7_fits_159 (by decide) ?_
                                          exact r_zret X hP hS rfl (prz h) rfl dX7_fits_160
                                        · replace h := if_eln h hc
                                          refine lv_iconst (v := 1) hx hb dX7_fits_155 (by decide) ?_
                                          refine lv_goto (tgt := 160) hx hb dX7_fits_156 (by decide) ?_
                                          exact r_zret X hP hS rfl (prz h) rfl dX7_fits_160
                                    · replace h := if_eln h h_30
                                      by_cases h_33 : a0 = 19
                                      · replace h := if_elp h h_33
                                        refine lv_tableIn (off := 160) (tgt := 161) hx hb dX7_fits_1 (by rw [h_33]; decide) (by rw [h_33]; decide) (by rw [h_33]; rfl) (by decide) ?_
                                        refine lv_iload_n hx hb dX7_fits_161 rfl (lv_at hl 1 rfl) ?_
                                        refine lv_if_eq (tgt := 178) hx hb dX7_fits_162 (by decide) (fun hc => ?_) (fun hc => ?_)
                                        · replace h := if_elp h hc
                                          exact w_X7_fits_178 X hP hS (lv_sub hl [] rfl) h
                                        · replace h := if_eln h hc
                                          refine lv_iload_n hx hb dX7_fits_165 rfl (lv_at hl 1 rfl) ?_
                                          refine lv_iconst (v := 1) hx hb dX7_fits_166 (by decide) ?_
                                          refine lv_icmp_ne (tgt := 182) hx hb dX7_fits_167 (by decide) (fun hc => ?_) (fun hc => ?_)
                                          · replace h := if_eln h hc
                                            refine lv_iconst (v := 0) hx hb dX7_fits_182 (by decide) ?_
                                            exact r_zret X hP hS rfl (prz h) rfl dX7_fits_183
                                          · replace h := if_elp h hc
                                            refine lv_iload_n hx hb dX7_fits_170 rfl (lv_at hl 2 rfl) ?_
                                            refine lv_i2l (v := (Int32.toInt64 a2)) hx hb dX7_fits_171 rfl ?_
                                            obtain ⟨r_15, h_34, h⟩ := bd_el h
                                            refine cl_i (rn_SN X hP (c_X8_isCell h_34) nst_X7_27 k_187 k_1 k_188 hd_X8_isCell (n := 1) ⟨⟨rfl, rfl⟩, Nat.le_of_ble_eq_true rfl, Nat.le_of_ble_eq_true rfl⟩ (As := [.long (Int32.toInt64 a2)]) (rest := []) rfl hl.1 rfl (Nat.le_of_ble_eq_true rfl) dX7_fits_172 ⟨Nat.zero_le _, Nat.zero_le _⟩) hS (fun H locs hP hS => ?_)
                                            refine lv_if_eq (tgt := 182) hx hb dX7_fits_175 (by decide) (fun hc => ?_) (fun hc => ?_)
                                            · replace h := if_elp h hc
                                              refine lv_iconst (v := 0) hx hb dX7_fits_182 (by decide) ?_
                                              exact r_zret X hP hS rfl (prz h) rfl dX7_fits_183
                                            · replace h := if_eln h hc
                                              exact w_X7_fits_178 X hP hS (lv_sub hl [] rfl) h
                                      · replace h := if_eln h h_33
                                        refine lv_tableOut (tgt := 184) hx hb dX7_fits_1 (by have z0 := lv_neT (a := 1) h_1 rfl; have z1 := lv_neT (a := 2) h_3 rfl; have z2 := lv_neT (a := 3) h_5 rfl; have z3 := lv_neT (a := 4) h_7 rfl; have z4 := lv_neT (a := 5) h_8 rfl; have z5 := lv_neT (a := 6) h_9 rfl; have z6 := lv_neT (a := 7) h_11 rfl; have z7 := lv_neT (a := 8) h_12 rfl; have z8 := lv_neT (a := 9) h_14 rfl; have z9 := lv_neT (a := 10) h_16 rfl; have z10 := lv_neT (a := 11) h_19 rfl; have z11 := lv_neT (a := 12) h_22 rfl; have z12 := lv_neT (a := 13) h_23 rfl; have z13 := lv_neT (a := 14) h_24 rfl; have z14 := lv_neT (a := 15) h_25 rfl; have z15 := lv_neT (a := 16) h_26 rfl; have z16 := lv_neT (a := 17) h_28 rfl; have z17 := lv_neT (a := 18) h_30 rfl; have z18 := lv_neT (a := 19) h_33 rfl; omega) (by decide) ?_
                                        refine lv_iload_n hx hb dX7_fits_184 rfl (lv_at hl 0 rfl) ?_
                                        refine lv_if_lt (tgt := 198) hx hb dX7_fits_185 (by decide) (fun hc => ?_) (fun hc => ?_)
                                        · replace h := if_elp h hc
                                          refine lv_iconst (v := 0) hx hb dX7_fits_198 (by decide) ?_
                                          exact r_zret X hP hS rfl (prz h) rfl dX7_fits_199
                                        · replace h := if_eln h hc
                                          refine lv_iload_n hx hb dX7_fits_188 rfl (lv_at hl 0 rfl) ?_
                                          refine lv_bipush (v := 19) hx hb dX7_fits_189 (by decide) ?_
                                          refine lv_icmp_gt (tgt := 198) hx hb dX7_fits_191 (by decide) (fun hc => ?_) (fun hc => ?_)
                                          · replace h := if_elp h hc
                                            refine lv_iconst (v := 0) hx hb dX7_fits_198 (by decide) ?_
                                            exact r_zret X hP hS rfl (prz h) rfl dX7_fits_199
                                          · replace h := if_eln h hc
                                            refine lv_iconst (v := 1) hx hb dX7_fits_194 (by decide) ?_
                                            refine lv_goto (tgt := 199) hx hb dX7_fits_195 (by decide) ?_
                                            exact r_zret X hP hS rfl (prz h) rfl dX7_fits_199
abbrev rmX7_append : Room := { frames := 0, cells := 0, slots := 0, locals := 0 }
def f_X7_append (M : Mem) (a1 : Int32) (a2 : Int32) (a3 : Int32) (a4 : Int32) : Option (Int32 × Mem) :=
  gd (inR a1 16) <| lt ((a1 * 24) + (gI M 12 a1.toNatClampNeg)) fun v_1 => gd (inR v_1 384) <| lt (sI M 14 v_1.toNatClampNeg a2) fun M_1 => gd (inR v_1 384) <| lt (sI M_1 15 v_1.toNatClampNeg a3) fun M_2 => gd (inR v_1 384) <| lt (sI M_2 16 v_1.toNatClampNeg a4) fun M_3 => gd (inR a1 16) <| gd (inR a1 16) <| lt (sI M_3 12 a1.toNatClampNeg ((gI M_3 12 a1.toNatClampNeg) + 1)) fun M_4 => gd (inR a1 16) <| some ((gI M_4 12 a1.toNatClampNeg), M_4)
set_option maxRecDepth 100000 in
set_option maxHeartbeats 4000000 in
theorem c_X7_append {l : Launch} {G : va_G} {cy : Nat → ClassId} {B nT : Nat} {M : Mem} {a1 : Int32} {a2 : Int32} {a3 : Int32} {a4 : Int32} {out : Int32 × Mem} (h : f_X7_append M a1 a2 a3 a4 = some out) : Met l yX7_append (wsU yX7_append cX7_append 6 (some .int)) rmX7_append (va_Pc [.ref (B + 11), .int a1, .int a2, .int a3, .int a4] (PU G B cy nT M)) (Qi G B cy nT out.1 out.2) 0 0 (FB B) := by
  refine r_met (by decide +kernel) RX7 rfl (Nat.le_of_ble_eq_true rfl) ?_
  intro p e s m args below meth c ls X hP hl
  have hl : lv_has ls 6 [(0, .ref (B + 11)), (1, .int a1), (2, .int a2), (3, .int a3), (4, .int a4)] := hl
  have hS : va_S (FB B) s.heap s.heap [] := va_S.rf
  obtain ⟨hx, hb, hr, hml, hown, hts, hKn, hlk⟩ := id X
  unfold f_X7_append at h
  refine lv_iload_n hx hb dX7_append_0 rfl (lv_at hl 1 rfl) ?_
  refine lv_bipush (v := 24) hx hb dX7_append_1 (by decide) ?_
  refine lv_imul hx hb dX7_append_3 ?_
  refine lv_aload_n hx hb dX7_append_4 rfl (lv_at hl 0 rfl) ?_
  refine gf_X7_9 X hP dX7_append_5 ?_
  refine lv_iload_n hx hb dX7_append_8 rfl (lv_at hl 1 rfl) ?_
  obtain ⟨g_1, h⟩ := gd_el h
  refine r_iald X hP kq_12 g_1 dX7_append_9 ?_
  refine lv_iadd hx hb dX7_append_10 ?_
  obtain ⟨v_1, e_1, h⟩ := lt_el h
  refine r_topi e_1 ?_
  refine lv_istore (lv' := [(5, .int v_1), (0, .ref (B + 11)), (1, .int a1), (2, .int a2), (3, .int a3), (4, .int a4)]) hx hb dX7_append_11 hl (by decide) rfl (fun ls hl => ?_)
  refine lv_aload_n hx hb dX7_append_13 rfl (lv_at hl 1 rfl) ?_
  refine gf_X7_18 X hP dX7_append_14 ?_
  refine lv_iload hx hb dX7_append_17 (lv_at hl 0 rfl) ?_
  refine lv_iload_n hx hb dX7_append_19 rfl (lv_at hl 3 rfl) ?_
  obtain ⟨g_2, h⟩ := gd_el h
  obtain ⟨M_1, e_2, h⟩ := lt_el h
  refine r_iast X hP hS kq_14 g_2 e_2 dX7_append_20 (fun H locs hP hS => ?_)
  refine lv_aload_n hx hb dX7_append_21 rfl (lv_at hl 1 rfl) ?_
  refine gf_X7_21 X hP dX7_append_22 ?_
  refine lv_iload hx hb dX7_append_25 (lv_at hl 0 rfl) ?_
  refine lv_iload_n hx hb dX7_append_27 rfl (lv_at hl 4 rfl) ?_
  obtain ⟨g_3, h⟩ := gd_el h
  obtain ⟨M_2, e_3, h⟩ := lt_el h
  refine r_iast X hP hS kq_15 g_3 e_3 dX7_append_28 (fun H locs hP hS => ?_)
  refine lv_aload_n hx hb dX7_append_29 rfl (lv_at hl 1 rfl) ?_
  refine gf_X7_24 X hP dX7_append_30 ?_
  refine lv_iload hx hb dX7_append_33 (lv_at hl 0 rfl) ?_
  refine lv_iload hx hb dX7_append_35 (lv_at hl 5 rfl) ?_
  obtain ⟨g_4, h⟩ := gd_el h
  obtain ⟨M_3, e_4, h⟩ := lt_el h
  refine r_iast X hP hS kq_16 g_4 e_4 dX7_append_37 (fun H locs hP hS => ?_)
  refine lv_aload_n hx hb dX7_append_38 rfl (lv_at hl 1 rfl) ?_
  refine gf_X7_9 X hP dX7_append_39 ?_
  refine lv_iload_n hx hb dX7_append_42 rfl (lv_at hl 2 rfl) ?_
  refine lv_dup2_11 hx hb dX7_append_43 rfl rfl ?_
  obtain ⟨g_5, h⟩ := gd_el h
  refine r_iald X hP kq_12 g_5 dX7_append_44 ?_
  refine lv_iconst (v := 1) hx hb dX7_append_45 (by decide) ?_
  refine lv_iadd hx hb dX7_append_46 ?_
  obtain ⟨g_6, h⟩ := gd_el h
  obtain ⟨M_4, e_5, h⟩ := lt_el h
  refine r_iast X hP hS kq_12 g_6 e_5 dX7_append_47 (fun H locs hP hS => ?_)
  refine lv_aload_n hx hb dX7_append_48 rfl (lv_at hl 1 rfl) ?_
  refine gf_X7_9 X hP dX7_append_49 ?_
  refine lv_iload_n hx hb dX7_append_52 rfl (lv_at hl 2 rfl) ?_
  obtain ⟨g_7, h⟩ := gd_el h
  refine r_iald X hP kq_12 g_7 dX7_append_53 ?_
  exact r_iret X hP hS (pr1 h) (pr2 h) dX7_append_54
abbrev rmX8_leastOf : Room := { frames := 1, cells := 0, slots := 0, locals := 22 }
def f_X8_leastOf_2 : Nat → Int64 → Int32 → Option (Int32)
  | 0, _, _ => none
  | n + 1, v0, v2 => if 40 ≤ v2 then (some (-1)) else (Option.bind (f_X8_isAmong v0 v2) fun r_1 => if (bI r_1) = 0 then (lt (v2 + 1) fun v_1 => (f_X8_leastOf_2 n) v0 v_1) else (some v2))
set_option maxRecDepth 100000 in
set_option maxHeartbeats 4000000 in
theorem w_X8_leastOf_2 (X : Cx p s m args meth c cX8_leastOf RX8 3 (some .int) G cy) {M : Mem} {out : Int32} : ∀ n : Nat, ∀ (H : Heap) (locs : List Loc) (ls : Array Slot) (v0 : Int64) (v2 : Int32), Pic G B cy nT M H → va_S (FB B) s.heap H locs → lv_has ls 3 [(0, .long v0), (2, .int v2)] → f_X8_leastOf_2 n v0 v2 = some out → W p l e rmX8_leastOf s m args below meth c H locs 0 0 (MQ below (Qi G B cy nT out M) args s 0 0 (FB B)) (F0 m 2 ls []) := by
  obtain ⟨hx, hb, hr, hml, hown, hts, hKn, hlk⟩ := id X
  intro n
  induction n with
  | zero =>
    intro H locs ls v0 v2 hP hS hl h
    cases h
  | succ n ih =>
    intro H locs ls v0 v2 hP hS hl h
    rw [f_X8_leastOf_2] at h
    refine lv_iload_n hx hb dX8_leastOf_2 rfl (lv_at hl 1 rfl) ?_
    refine lv_bipush (v := 40) hx hb dX8_leastOf_3 (by decide) ?_
    refine lv_icmp_ge (tgt := 24) hx hb dX8_leastOf_5 (by decide) (fun hc => ?_) (fun hc => ?_)
    · replace h := if_elp h hc
      refine lv_iconst (v := (-1)) hx hb dX8_leastOf_24 (by decide) ?_
      exact r_iret X hP hS (pr0 h) rfl dX8_leastOf_25
    · replace h := if_eln h hc
      refine lv_lload_n hx hb dX8_leastOf_8 rfl (lv_at hl 0 rfl) ?_
      refine lv_iload_n hx hb dX8_leastOf_9 rfl (lv_at hl 1 rfl) ?_
      obtain ⟨r_1, h_1, h⟩ := bd_el h
      refine cl_i (rn_S X hP (c_X8_isAmong h_1) k_203 k_204 k_1 k_205 hd_X8_isAmong (n := 2) ⟨⟨rfl, rfl⟩, Nat.le_of_ble_eq_true rfl, Nat.le_of_ble_eq_true rfl⟩ (As := [.long v0, .int v2]) (rest := []) rfl hl.1 rfl (Nat.le_of_ble_eq_true rfl) dX8_leastOf_10 ⟨Nat.zero_le _, Nat.zero_le _⟩) hS (fun H locs hP hS => ?_)
      refine lv_if_eq (tgt := 18) hx hb dX8_leastOf_13 (by decide) (fun hc => ?_) (fun hc => ?_)
      · replace h := if_elp h hc
        obtain ⟨v_1, e_1, h⟩ := lt_el h
        refine lv_iinc (v := v_1) (lv' := [(2, .int v_1), (0, .long v0)]) hx hb dX8_leastOf_18 hl (k := 1) rfl (by rw [e_1]; rfl) (by decide) rfl (fun ls hl => ?_)
        refine lv_goto (tgt := 2) hx hb dX8_leastOf_21 (by decide) ?_
        exact ih _ _ _ _ _ hP hS (lv_sub hl [1, 0] rfl) h
      · replace h := if_eln h hc
        refine lv_iload_n hx hb dX8_leastOf_16 rfl (lv_at hl 1 rfl) ?_
        exact r_iret X hP hS (pr0 h) rfl dX8_leastOf_17
def f_X8_leastOf (a0 : Int64) : Option (Int32) :=
  f_X8_leastOf_2 FU a0 0
set_option maxRecDepth 100000 in
set_option maxHeartbeats 4000000 in
theorem c_X8_leastOf {l : Launch} {G : va_G} {cy : Nat → ClassId} {B nT : Nat} {M : Mem} {a0 : Int64} {out : Int32} (h : f_X8_leastOf a0 = some out) : Met l yX8_leastOf (wsU yX8_leastOf cX8_leastOf 3 (some .int)) rmX8_leastOf (va_Pc [.long a0] (PU G B cy nT M)) (Qi G B cy nT out M) 0 0 (FB B) := by
  refine r_met (by decide +kernel) RX8 rfl (Nat.le_of_ble_eq_true rfl) ?_
  intro p e s m args below meth c ls X hP hl
  have hl : lv_has ls 3 [(0, .long a0)] := hl
  have hS : va_S (FB B) s.heap s.heap [] := va_S.rf
  obtain ⟨hx, hb, hr, hml, hown, hts, hKn, hlk⟩ := id X
  unfold f_X8_leastOf at h
  refine lv_iconst (v := 0) hx hb dX8_leastOf_0 (by decide) ?_
  refine lv_istore_n (lv' := [(2, .int 0), (0, .long a0)]) hx hb dX8_leastOf_1 rfl hl (by decide) rfl (fun ls hl => ?_)
  exact w_X8_leastOf_2 X FU _ _ _ _ _ hP hS (lv_sub hl [1, 0] rfl) h
abbrev rmX8_wake : Room := { frames := 2, cells := 0, slots := 0, locals := 44 }
def f_X8_wake_68 (nT : Nat) (K3 : Mem → Int64 → Int32 → Int32 → Option (Mem)) (M : Mem) (v1 : Int64) (v3 : Int32) (v4 : Int32) : Option (Mem) :=
  lt (v4 + 1) fun v_1 => K3 M v1 v3 v_1
set_option maxRecDepth 100000 in
set_option maxHeartbeats 4000000 in
theorem w_X8_wake_68 (X : Cx p s m args meth c cX8_wake RX8 8 none G cy) {out : Mem} {K3 : Mem → Int64 → Int32 → Int32 → Option (Mem)} (hK3 : ∀ (H : Heap) (locs : List Loc) (ls : Array Slot) (M : Mem) (v1 : Int64) (v3 : Int32) (v4 : Int32), Pic G B cy nT M H → va_S (FB B) s.heap H locs → lv_has ls 8 [(0, .ref (B + 0)), (1, .long v1), (3, .int v3), (4, .int v4)] → K3 M v1 v3 v4 = some out → W p l e rmX8_wake s m args below meth c H locs 0 0 (MQ below (Qv G B cy nT out) args s 0 0 (FB B)) (F0 m 3 ls [])) {M : Mem} {v1 : Int64} {v3 : Int32} {v4 : Int32} (hP : Pic G B cy nT M H) (hS : va_S (FB B) s.heap H locs) (hl : lv_has ls 8 [(0, .ref (B + 0)), (1, .long v1), (3, .int v3), (4, .int v4)]) (h : f_X8_wake_68 nT K3 M v1 v3 v4 = some out) : W p l e rmX8_wake s m args below meth c H locs 0 0 (MQ below (Qv G B cy nT out) args s 0 0 (FB B)) (F0 m 68 ls []) := by
  obtain ⟨hx, hb, hr, hml, hown, hts, hKn, hlk⟩ := id X
  unfold f_X8_wake_68 at h
  obtain ⟨v_1, e_1, h⟩ := lt_el h
  refine lv_iinc (v := v_1) (lv' := [(4, .int v_1), (0, .ref (B + 0)), (1, .long v1), (3, .int v3)]) hx hb dX8_wake_68 hl (k := 3) rfl (by rw [e_1]; rfl) (by decide) rfl (fun ls hl => ?_)
  refine lv_goto (tgt := 3) hx hb dX8_wake_71 (by decide) ?_
  exact hK3 _ _ _ _ _ _ _ hP hS (lv_sub hl [1, 2, 3, 0] rfl) h
def f_X8_wake_3 (nT : Nat) : Nat → Mem → Int64 → Int32 → Int32 → Option (Mem)
  | 0, _, _, _, _ => none
  | n + 1, M, v1, v3, v4 => if (gI M 0 8) ≤ v4 then (some M) else (gd (inR v4 20) <| gd (decide (v4.toNatClampNeg < nT)) <| lt ((gL M (189 + 4 * v4.toNatClampNeg) 11) &&& v1) fun v_1 => if (gI M (189 + 4 * v4.toNatClampNeg) 1) = 3 then (if v_1 = 0 then (f_X8_wake_68 nT (f_X8_wake_3 nT n) M v1 v3 v4) else (lt (sI M (189 + 4 * v4.toNatClampNeg) 1 0) fun M_1 => Option.bind (f_X8_leastOf v_1) fun r_1 => lt (sI M_1 (189 + 4 * v4.toNatClampNeg) 7 r_1) fun M_2 => lt (sI M_2 (189 + 4 * v4.toNatClampNeg) 8 v3) fun M_3 => f_X8_wake_68 nT (f_X8_wake_3 nT n) M_3 v1 v3 v4)) else (f_X8_wake_68 nT (f_X8_wake_3 nT n) M v1 v3 v4))
set_option maxRecDepth 100000 in
set_option maxHeartbeats 4000000 in
theorem w_X8_wake_3 (X : Cx p s m args meth c cX8_wake RX8 8 none G cy) {out : Mem} : ∀ n : Nat, ∀ (H : Heap) (locs : List Loc) (ls : Array Slot) (M : Mem) (v1 : Int64) (v3 : Int32) (v4 : Int32), Pic G B cy nT M H → va_S (FB B) s.heap H locs → lv_has ls 8 [(0, .ref (B + 0)), (1, .long v1), (3, .int v3), (4, .int v4)] → f_X8_wake_3 nT n M v1 v3 v4 = some out → W p l e rmX8_wake s m args below meth c H locs 0 0 (MQ below (Qv G B cy nT out) args s 0 0 (FB B)) (F0 m 3 ls []) := by
  obtain ⟨hx, hb, hr, hml, hown, hts, hKn, hlk⟩ := id X
  intro n
  induction n with
  | zero =>
    intro H locs ls M v1 v3 v4 hP hS hl h
    cases h
  | succ n ih =>
    intro H locs ls M v1 v3 v4 hP hS hl h
    rw [f_X8_wake_3] at h
    refine lv_iload hx hb dX8_wake_3 (lv_at hl 3 rfl) ?_
    refine lv_aload_n hx hb dX8_wake_5 rfl (lv_at hl 0 rfl) ?_
    refine gf_X8_151 X hP dX8_wake_6 ?_
    refine lv_icmp_ge (tgt := 74) hx hb dX8_wake_9 (by decide) (fun hc => ?_) (fun hc => ?_)
    · replace h := if_elp h hc
      exact r_vret X hP hS (pr0 h) dX8_wake_74
    · replace h := if_eln h hc
      refine lv_aload_n hx hb dX8_wake_12 rfl (lv_at hl 0 rfl) ?_
      refine gf_X8_39 X hP dX8_wake_13 ?_
      refine lv_iload hx hb dX8_wake_16 (lv_at hl 3 rfl) ?_
      obtain ⟨g_1, h⟩ := gd_el h
      obtain ⟨g_2, h⟩ := gd_el h
      refine r_aaT X hP g_1 g_2 dX8_wake_18 ?_
      have h_1 := okT_of g_2
      refine lv_astore (lv' := [(5, .ref (B + (189 + 4 * v4.toNatClampNeg))), (0, .ref (B + 0)), (1, .long v1), (3, .int v3), (4, .int v4)]) hx hb dX8_wake_19 hl (by decide) rfl (fun ls hl => ?_)
      refine lv_aload hx hb dX8_wake_21 (lv_at hl 0 rfl) ?_
      refine gf_X8_201 X hP (kT_0 h_1) dX8_wake_23 ?_
      refine lv_lload_n hx hb dX8_wake_26 rfl (lv_at hl 2 rfl) ?_
      refine lv_land hx hb dX8_wake_27 ?_
      obtain ⟨v_1, e_1, h⟩ := lt_el h
      refine r_topl e_1 ?_
      refine lv_lstore (lv' := [(6, .long v_1), (5, .ref (B + (189 + 4 * v4.toNatClampNeg))), (0, .ref (B + 0)), (1, .long v1), (3, .int v3), (4, .int v4)]) hx hb dX8_wake_28 hl (by decide) rfl (fun ls hl => ?_)
      refine lv_aload hx hb dX8_wake_30 (lv_at hl 1 rfl) ?_
      refine gf_X8_167 X hP (kT_0 h_1) dX8_wake_32 ?_
      refine lv_iconst (v := 3) hx hb dX8_wake_35 (by decide) ?_
      refine lv_icmp_ne (tgt := 68) hx hb dX8_wake_36 (by decide) (fun hc => ?_) (fun hc => ?_)
      · replace h := if_eln h hc
        exact w_X8_wake_68 X ih hP hS (lv_sub hl [2, 3, 4, 5] rfl) h
      · replace h := if_elp h hc
        refine lv_lload hx hb dX8_wake_39 (lv_at hl 0 rfl) ?_
        refine lv_lconst (v := 0) hx hb dX8_wake_41 rfl ?_
        refine W.lcmp hx hb dX8_wake_42 ?_
        refine lv_if_eq (tgt := 68) hx hb dX8_wake_43 (by decide) (fun hc => ?_) (fun hc => ?_)
        · replace h := if_elp h (lc_eq.mp hc)
          exact w_X8_wake_68 X ih hP hS (lv_sub hl [2, 3, 4, 5] rfl) h
        · replace h := if_eln h (fun z => hc (lc_eq.mpr z))
          refine lv_aload hx hb dX8_wake_46 (lv_at hl 1 rfl) ?_
          refine lv_iconst (v := 0) hx hb dX8_wake_48 (by decide) ?_
          obtain ⟨M_1, e_2, h⟩ := lt_el h
          refine pf_X8_167 X hP hS (kT_0 h_1) e_2 dX8_wake_49 (fun H locs hP hS => ?_)
          refine lv_aload hx hb dX8_wake_52 (lv_at hl 1 rfl) ?_
          refine lv_lload hx hb dX8_wake_54 (lv_at hl 0 rfl) ?_
          obtain ⟨r_1, h_2, h⟩ := bd_el h
          refine cl_i (rn_S X hP (c_X8_leastOf h_2) k_200 k_201 k_1 k_202 hd_X8_leastOf (n := 1) ⟨⟨rfl, rfl⟩, Nat.le_of_ble_eq_true rfl, Nat.le_of_ble_eq_true rfl⟩ (As := [.long v_1]) (rest := [.ref (B + (189 + 4 * v4.toNatClampNeg))]) rfl hl.1 rfl (Nat.le_of_ble_eq_true rfl) dX8_wake_56 ⟨Nat.zero_le _, Nat.zero_le _⟩) hS (fun H locs hP hS => ?_)
          obtain ⟨M_2, e_3, h⟩ := lt_el h
          refine pf_X8_227 X hP hS (kT_0 h_1) e_3 dX8_wake_59 (fun H locs hP hS => ?_)
          refine lv_aload hx hb dX8_wake_62 (lv_at hl 1 rfl) ?_
          refine lv_iload_n hx hb dX8_wake_64 rfl (lv_at hl 4 rfl) ?_
          obtain ⟨M_3, e_4, h⟩ := lt_el h
          refine pf_X8_230 X hP hS (kT_0 h_1) e_4 dX8_wake_65 (fun H locs hP hS => ?_)
          exact w_X8_wake_68 X ih hP hS (lv_sub hl [2, 3, 4, 5] rfl) h
def f_X8_wake (nT : Nat) (M : Mem) (a1 : Int64) (a3 : Int32) : Option (Mem) :=
  f_X8_wake_3 nT FU M a1 a3 0
set_option maxRecDepth 100000 in
set_option maxHeartbeats 4000000 in
theorem c_X8_wake {l : Launch} {G : va_G} {cy : Nat → ClassId} {B nT : Nat} {M : Mem} {a1 : Int64} {a3 : Int32} {out : Mem} (h : f_X8_wake nT M a1 a3 = some out) : Met l yX8_wake (wsU yX8_wake cX8_wake 8 none) rmX8_wake (va_Pc [.ref (B + 0), .long a1, .int a3] (PU G B cy nT M)) (Qv G B cy nT out) 0 0 (FB B) := by
  refine r_met (by decide +kernel) RX8 rfl (Nat.le_of_ble_eq_true rfl) ?_
  intro p e s m args below meth c ls X hP hl
  have hl : lv_has ls 8 [(0, .ref (B + 0)), (1, .long a1), (3, .int a3)] := hl
  have hS : va_S (FB B) s.heap s.heap [] := va_S.rf
  obtain ⟨hx, hb, hr, hml, hown, hts, hKn, hlk⟩ := id X
  unfold f_X8_wake at h
  refine lv_iconst (v := 0) hx hb dX8_wake_0 (by decide) ?_
  refine lv_istore (lv' := [(4, .int 0), (0, .ref (B + 0)), (1, .long a1), (3, .int a3)]) hx hb dX8_wake_1 hl (by decide) rfl (fun ls hl => ?_)
  exact w_X8_wake_3 X FU _ _ _ _ _ _ _ hP hS (lv_sub hl [1, 2, 3, 0] rfl) h
abbrev rmX8_tellAnew : Room := { frames := 3, cells := 0, slots := 0, locals := 71 }
def f_X8_tellAnew (nT : Nat) (M : Mem) (a1 : Int32) : Option (Int32 × Mem) :=
  gd (inR a1 40) <| gd (inR a1 40) <| lt (sI M 7 a1.toNatClampNeg ((gI M 7 a1.toNatClampNeg) + 1)) fun M_1 => gd (inR a1 40) <| lt (sI M_1 8 a1.toNatClampNeg (-1)) fun M_2 => Option.bind (f_X8_wake nT M_2 (1 <<< (Int32.toInt64 a1 &&& 63)) (-1)) fun r_1 => gd (inR a1 40) <| some ((gI r_1 7 a1.toNatClampNeg), r_1)
set_option maxRecDepth 100000 in
set_option maxHeartbeats 4000000 in
theorem c_X8_tellAnew {l : Launch} {G : va_G} {cy : Nat → ClassId} {B nT : Nat} {M : Mem} {a1 : Int32} {out : Int32 × Mem} (h : f_X8_tellAnew nT M a1 = some out) : Met l yX8_tellAnew (wsU yX8_tellAnew cX8_tellAnew 2 (some .int)) rmX8_tellAnew (va_Pc [.ref (B + 0), .int a1] (PU G B cy nT M)) (Qi G B cy nT out.1 out.2) 0 0 (FB B) := by
  refine r_met (by decide +kernel) RX8 rfl (Nat.le_of_ble_eq_true rfl) ?_
  intro p e s m args below meth c ls X hP hl
  have hl : lv_has ls 2 [(0, .ref (B + 0)), (1, .int a1)] := hl
  have hS : va_S (FB B) s.heap s.heap [] := va_S.rf
  obtain ⟨hx, hb, hr, hml, hown, hts, hKn, hlk⟩ := id X
  unfold f_X8_tellAnew at h
  refine lv_aload_n hx hb dX8_tellAnew_0 rfl (lv_at hl 0 rfl) ?_
  refine gf_X8_10 X hP dX8_tellAnew_1 ?_
  refine gf_X8_100 X hP dX8_tellAnew_4 ?_
  refine lv_iload_n hx hb dX8_tellAnew_7 rfl (lv_at hl 1 rfl) ?_
  refine lv_dup2_11 hx hb dX8_tellAnew_8 rfl rfl ?_
  obtain ⟨g_1, h⟩ := gd_el h
  refine r_iald X hP kq_7 g_1 dX8_tellAnew_9 ?_
  refine lv_iconst (v := 1) hx hb dX8_tellAnew_10 (by decide) ?_
  refine lv_iadd hx hb dX8_tellAnew_11 ?_
  obtain ⟨g_2, h⟩ := gd_el h
  obtain ⟨M_1, e_1, h⟩ := lt_el h
  refine r_iast X hP hS kq_7 g_2 e_1 dX8_tellAnew_12 (fun H locs hP hS => ?_)
  refine lv_aload_n hx hb dX8_tellAnew_13 rfl (lv_at hl 0 rfl) ?_
  refine gf_X8_10 X hP dX8_tellAnew_14 ?_
  refine gf_X8_103 X hP dX8_tellAnew_17 ?_
  refine lv_iload_n hx hb dX8_tellAnew_20 rfl (lv_at hl 1 rfl) ?_
  refine lv_iconst (v := (-1)) hx hb dX8_tellAnew_21 (by decide) ?_
  obtain ⟨g_3, h⟩ := gd_el h
  obtain ⟨M_2, e_2, h⟩ := lt_el h
  refine r_iast X hP hS kq_8 g_3 e_2 dX8_tellAnew_22 (fun H locs hP hS => ?_)
  refine lv_aload_n hx hb dX8_tellAnew_23 rfl (lv_at hl 0 rfl) ?_
  refine lv_lconst (v := 1) hx hb dX8_tellAnew_24 rfl ?_
  refine lv_iload_n hx hb dX8_tellAnew_25 rfl (lv_at hl 1 rfl) ?_
  refine lv_lshl (v := (1 <<< (Int32.toInt64 a1 &&& 63))) hx hb dX8_tellAnew_26 rfl ?_
  refine lv_iconst (v := (-1)) hx hb dX8_tellAnew_27 (by decide) ?_
  obtain ⟨r_1, h_1, h⟩ := bd_el h
  refine cl_v (rn_V (C := RX8) (ci := 8) X hP (c_X8_wake h_1) kq_0 rfl k_197 k_198 k_876 k_1 k_199 rfl hd_X8_wake (n := 2) ⟨⟨rfl, rfl⟩, Nat.le_of_ble_eq_true rfl, Nat.le_of_ble_eq_true rfl⟩ (As := [.long (1 <<< (Int32.toInt64 a1 &&& 63)), .int (-1)]) (rest := []) rfl hl.1 rfl (Nat.le_of_ble_eq_true rfl) dX8_tellAnew_28 ⟨Nat.zero_le _, Nat.zero_le _⟩) hS (fun H locs hP hS => ?_)
  refine lv_aload_n hx hb dX8_tellAnew_31 rfl (lv_at hl 0 rfl) ?_
  refine gf_X8_10 X hP dX8_tellAnew_32 ?_
  refine gf_X8_100 X hP dX8_tellAnew_35 ?_
  refine lv_iload_n hx hb dX8_tellAnew_38 rfl (lv_at hl 1 rfl) ?_
  obtain ⟨g_4, h⟩ := gd_el h
  refine r_iald X hP kq_7 g_4 dX8_tellAnew_39 ?_
  exact r_iret X hP hS (pr1 h) (pr2 h) dX8_tellAnew_40
abbrev rmX8_number : Room := { frames := 4, cells := 0, slots := 0, locals := 92 }
def f_X8_number (nT : Nat) (M : Mem) (a1 : Int32) (a2 : Int64) : Option (Int32 × Mem) :=
  Option.bind (f_X8_isCell (Int32.toInt64 a1)) fun r_1 => if (bI r_1) = 0 then (some ((-2), M)) else (Option.bind (f_X1_put 2 M a1 1 a2 (-1) (-1)) fun r_2 => Option.bind (f_X8_tellAnew nT r_2 a1) fun r_3 => some (r_3.1, r_3.2))
set_option maxRecDepth 100000 in
set_option maxHeartbeats 4000000 in
theorem c_X8_number {l : Launch} {G : va_G} {cy : Nat → ClassId} {B nT : Nat} {M : Mem} {a1 : Int32} {a2 : Int64} {out : Int32 × Mem} (h : f_X8_number nT M a1 a2 = some out) : Met l yX8_number (wsU yX8_number cX8_number 4 (some .int)) rmX8_number (va_Pc [.ref (B + 0), .int a1, .long a2] (PU G B cy nT M)) (Qi G B cy nT out.1 out.2) 0 0 (FB B) := by
  refine r_met (by decide +kernel) RX8 rfl (Nat.le_of_ble_eq_true rfl) ?_
  intro p e s m args below meth c ls X hP hl
  have hl : lv_has ls 4 [(0, .ref (B + 0)), (1, .int a1), (2, .long a2)] := hl
  have hS : va_S (FB B) s.heap s.heap [] := va_S.rf
  obtain ⟨hx, hb, hr, hml, hown, hts, hKn, hlk⟩ := id X
  unfold f_X8_number at h
  refine lv_iload_n hx hb dX8_number_0 rfl (lv_at hl 1 rfl) ?_
  refine lv_i2l (v := (Int32.toInt64 a1)) hx hb dX8_number_1 rfl ?_
  obtain ⟨r_1, h_1, h⟩ := bd_el h
  refine cl_i (rn_S X hP (c_X8_isCell h_1) k_186 k_187 k_1 k_188 hd_X8_isCell (n := 1) ⟨⟨rfl, rfl⟩, Nat.le_of_ble_eq_true rfl, Nat.le_of_ble_eq_true rfl⟩ (As := [.long (Int32.toInt64 a1)]) (rest := []) rfl hl.1 rfl (Nat.le_of_ble_eq_true rfl) dX8_number_2 ⟨Nat.zero_le _, Nat.zero_le _⟩) hS (fun H locs hP hS => ?_)
  refine lv_if_ne (tgt := 11) hx hb dX8_number_5 (by decide) (fun hc => ?_) (fun hc => ?_)
  · replace h := if_eln h hc
    refine lv_aload_n hx hb dX8_number_11 rfl (lv_at hl 0 rfl) ?_
    refine gf_X8_10 X hP dX8_number_12 ?_
    refine gf_X8_74 X hP dX8_number_15 ?_
    refine lv_iload_n hx hb dX8_number_18 rfl (lv_at hl 1 rfl) ?_
    refine lv_iconst (v := 1) hx hb dX8_number_19 (by decide) ?_
    refine lv_lload_n hx hb dX8_number_20 rfl (lv_at hl 2 rfl) ?_
    refine lv_iconst (v := (-1)) hx hb dX8_number_21 (by decide) ?_
    refine lv_iconst (v := (-1)) hx hb dX8_number_22 (by decide) ?_
    obtain ⟨r_2, h_2, h⟩ := bd_el h
    refine cl_v (rn_V (C := RX1) (ci := 1) X hP (c_X1_put isC_2 h_2) (kC_0 isC_2) rfl k_190 k_191 k_192 k_3 k_193 rfl hd_X1_put (n := 5) ⟨⟨rfl, rfl⟩, Nat.le_of_ble_eq_true rfl, Nat.le_of_ble_eq_true rfl⟩ (As := [.int a1, .int 1, .long a2, .int (-1), .int (-1)]) (rest := []) rfl hl.1 rfl (Nat.le_of_ble_eq_true rfl) dX8_number_23 ⟨Nat.zero_le _, Nat.zero_le _⟩) hS (fun H locs hP hS => ?_)
    refine lv_aload_n hx hb dX8_number_26 rfl (lv_at hl 0 rfl) ?_
    refine lv_iload_n hx hb dX8_number_27 rfl (lv_at hl 1 rfl) ?_
    obtain ⟨r_3, h_3, h⟩ := bd_el h
    refine cl_i (rn_V (C := RX8) (ci := 8) X hP (c_X8_tellAnew h_3) kq_0 rfl k_194 k_195 k_875 k_1 k_196 rfl hd_X8_tellAnew (n := 1) ⟨⟨rfl, rfl⟩, Nat.le_of_ble_eq_true rfl, Nat.le_of_ble_eq_true rfl⟩ (As := [.int a1]) (rest := []) rfl hl.1 rfl (Nat.le_of_ble_eq_true rfl) dX8_number_28 ⟨Nat.zero_le _, Nat.zero_le _⟩) hS (fun H locs hP hS => ?_)
    exact r_iret X hP hS (pr1 h) (pr2 h) dX8_number_31
  · replace h := if_elp h hc
    refine lv_bipush (v := (-2)) hx hb dX8_number_8 (by decide) ?_
    exact r_iret X hP hS (pr1 h) (pr2 h) dX8_number_10
abbrev rmX8_lot : Room := { frames := 4, cells := 0, slots := 0, locals := 92 }
def f_X8_lot (nT : Nat) (M : Mem) (a1 : Int32) (a2 : Int32) (a3 : Int32) (a4 : Int32) : Option (Int32 × Mem) :=
  Option.bind (f_X8_isCell (Int32.toInt64 a1)) fun r_1 => if (bI r_1) = 0 then (some ((-2), M)) else (Option.bind (f_X8_isKind a2) fun r_2 => if (bI r_2) = 0 then (some ((-2), M)) else (Option.bind (f_X8_isGrower a3) fun r_3 => if (bI r_3) = 0 then (some ((-2), M)) else (if a4 < 0 then (some ((-2), M)) else (if a4 ≤ 1000000000 then (Option.bind (f_X1_put 2 M a1 2 (Int32.toInt64 a4) a2 a3) fun r_4 => Option.bind (f_X8_tellAnew nT r_4 a1) fun r_5 => some (r_5.1, r_5.2)) else (some ((-2), M))))))
set_option maxRecDepth 100000 in
set_option maxHeartbeats 4000000 in
theorem c_X8_lot {l : Launch} {G : va_G} {cy : Nat → ClassId} {B nT : Nat} {M : Mem} {a1 : Int32} {a2 : Int32} {a3 : Int32} {a4 : Int32} {out : Int32 × Mem} (h : f_X8_lot nT M a1 a2 a3 a4 = some out) : Met l yX8_lot (wsU yX8_lot cX8_lot 5 (some .int)) rmX8_lot (va_Pc [.ref (B + 0), .int a1, .int a2, .int a3, .int a4] (PU G B cy nT M)) (Qi G B cy nT out.1 out.2) 0 0 (FB B) := by
  refine r_met (by decide +kernel) RX8 rfl (Nat.le_of_ble_eq_true rfl) ?_
  intro p e s m args below meth c ls X hP hl
  have hl : lv_has ls 5 [(0, .ref (B + 0)), (1, .int a1), (2, .int a2), (3, .int a3), (4, .int a4)] := hl
  have hS : va_S (FB B) s.heap s.heap [] := va_S.rf
  obtain ⟨hx, hb, hr, hml, hown, hts, hKn, hlk⟩ := id X
  unfold f_X8_lot at h
  refine lv_iload_n hx hb dX8_lot_0 rfl (lv_at hl 1 rfl) ?_
  refine lv_i2l (v := (Int32.toInt64 a1)) hx hb dX8_lot_1 rfl ?_
  obtain ⟨r_1, h_1, h⟩ := bd_el h
  refine cl_i (rn_S X hP (c_X8_isCell h_1) k_186 k_187 k_1 k_188 hd_X8_isCell (n := 1) ⟨⟨rfl, rfl⟩, Nat.le_of_ble_eq_true rfl, Nat.le_of_ble_eq_true rfl⟩ (As := [.long (Int32.toInt64 a1)]) (rest := []) rfl hl.1 rfl (Nat.le_of_ble_eq_true rfl) dX8_lot_2 ⟨Nat.zero_le _, Nat.zero_le _⟩) hS (fun H locs hP hS => ?_)
  refine lv_if_eq (tgt := 34) hx hb dX8_lot_5 (by decide) (fun hc => ?_) (fun hc => ?_)
  · replace h := if_elp h hc
    refine lv_bipush (v := (-2)) hx hb dX8_lot_34 (by decide) ?_
    exact r_iret X hP hS (pr1 h) (pr2 h) dX8_lot_36
  · replace h := if_eln h hc
    refine lv_iload_n hx hb dX8_lot_8 rfl (lv_at hl 2 rfl) ?_
    obtain ⟨r_2, h_2, h⟩ := bd_el h
    refine cl_i (rn_S X hP (c_X8_isKind h_2) k_210 k_211 k_1 k_212 hd_X8_isKind (n := 1) ⟨⟨rfl, rfl⟩, Nat.le_of_ble_eq_true rfl, Nat.le_of_ble_eq_true rfl⟩ (As := [.int a2]) (rest := []) rfl hl.1 rfl (Nat.le_of_ble_eq_true rfl) dX8_lot_9 ⟨Nat.zero_le _, Nat.zero_le _⟩) hS (fun H locs hP hS => ?_)
    refine lv_if_eq (tgt := 34) hx hb dX8_lot_12 (by decide) (fun hc => ?_) (fun hc => ?_)
    · replace h := if_elp h hc
      refine lv_bipush (v := (-2)) hx hb dX8_lot_34 (by decide) ?_
      exact r_iret X hP hS (pr1 h) (pr2 h) dX8_lot_36
    · replace h := if_eln h hc
      refine lv_iload_n hx hb dX8_lot_15 rfl (lv_at hl 3 rfl) ?_
      obtain ⟨r_3, h_3, h⟩ := bd_el h
      refine cl_i (rn_S X hP (c_X8_isGrower h_3) k_213 k_214 k_1 k_215 hd_X8_isGrower (n := 1) ⟨⟨rfl, rfl⟩, Nat.le_of_ble_eq_true rfl, Nat.le_of_ble_eq_true rfl⟩ (As := [.int a3]) (rest := []) rfl hl.1 rfl (Nat.le_of_ble_eq_true rfl) dX8_lot_16 ⟨Nat.zero_le _, Nat.zero_le _⟩) hS (fun H locs hP hS => ?_)
      refine lv_if_eq (tgt := 34) hx hb dX8_lot_19 (by decide) (fun hc => ?_) (fun hc => ?_)
      · replace h := if_elp h hc
        refine lv_bipush (v := (-2)) hx hb dX8_lot_34 (by decide) ?_
        exact r_iret X hP hS (pr1 h) (pr2 h) dX8_lot_36
      · replace h := if_eln h hc
        refine lv_iload hx hb dX8_lot_22 (lv_at hl 4 rfl) ?_
        refine lv_if_lt (tgt := 34) hx hb dX8_lot_24 (by decide) (fun hc => ?_) (fun hc => ?_)
        · replace h := if_elp h hc
          refine lv_bipush (v := (-2)) hx hb dX8_lot_34 (by decide) ?_
          exact r_iret X hP hS (pr1 h) (pr2 h) dX8_lot_36
        · replace h := if_eln h hc
          refine lv_iload hx hb dX8_lot_27 (lv_at hl 4 rfl) ?_
          refine lv_ldc (v := 1000000000) hx hb hown (hts _ k_216) dX8_lot_29 ?_
          refine lv_icmp_le (tgt := 37) hx hb dX8_lot_31 (by decide) (fun hc => ?_) (fun hc => ?_)
          · replace h := if_elp h hc
            refine lv_aload_n hx hb dX8_lot_37 rfl (lv_at hl 0 rfl) ?_
            refine gf_X8_10 X hP dX8_lot_38 ?_
            refine gf_X8_74 X hP dX8_lot_41 ?_
            refine lv_iload_n hx hb dX8_lot_44 rfl (lv_at hl 1 rfl) ?_
            refine lv_iconst (v := 2) hx hb dX8_lot_45 (by decide) ?_
            refine lv_iload hx hb dX8_lot_46 (lv_at hl 4 rfl) ?_
            refine lv_i2l (v := (Int32.toInt64 a4)) hx hb dX8_lot_48 rfl ?_
            refine lv_iload_n hx hb dX8_lot_49 rfl (lv_at hl 2 rfl) ?_
            refine lv_iload_n hx hb dX8_lot_50 rfl (lv_at hl 3 rfl) ?_
            obtain ⟨r_4, h_4, h⟩ := bd_el h
            refine cl_v (rn_V (C := RX1) (ci := 1) X hP (c_X1_put isC_2 h_4) (kC_0 isC_2) rfl k_190 k_191 k_192 k_3 k_193 rfl hd_X1_put (n := 5) ⟨⟨rfl, rfl⟩, Nat.le_of_ble_eq_true rfl, Nat.le_of_ble_eq_true rfl⟩ (As := [.int a1, .int 2, .long (Int32.toInt64 a4), .int a2, .int a3]) (rest := []) rfl hl.1 rfl (Nat.le_of_ble_eq_true rfl) dX8_lot_51 ⟨Nat.zero_le _, Nat.zero_le _⟩) hS (fun H locs hP hS => ?_)
            refine lv_aload_n hx hb dX8_lot_54 rfl (lv_at hl 0 rfl) ?_
            refine lv_iload_n hx hb dX8_lot_55 rfl (lv_at hl 1 rfl) ?_
            obtain ⟨r_5, h_5, h⟩ := bd_el h
            refine cl_i (rn_V (C := RX8) (ci := 8) X hP (c_X8_tellAnew h_5) kq_0 rfl k_194 k_195 k_875 k_1 k_196 rfl hd_X8_tellAnew (n := 1) ⟨⟨rfl, rfl⟩, Nat.le_of_ble_eq_true rfl, Nat.le_of_ble_eq_true rfl⟩ (As := [.int a1]) (rest := []) rfl hl.1 rfl (Nat.le_of_ble_eq_true rfl) dX8_lot_56 ⟨Nat.zero_le _, Nat.zero_le _⟩) hS (fun H locs hP hS => ?_)
            exact r_iret X hP hS (pr1 h) (pr2 h) dX8_lot_59
          · replace h := if_eln h hc
            refine lv_bipush (v := (-2)) hx hb dX8_lot_34 (by decide) ?_
            exact r_iret X hP hS (pr1 h) (pr2 h) dX8_lot_36
abbrev rmX8_empty : Room := { frames := 4, cells := 0, slots := 0, locals := 92 }
def f_X8_empty (nT : Nat) (M : Mem) (a1 : Int32) : Option (Int32 × Mem) :=
  Option.bind (f_X8_isCell (Int32.toInt64 a1)) fun r_1 => if (bI r_1) = 0 then (some ((-2), M)) else (Option.bind (f_X1_put 2 M a1 0 0 (-1) (-1)) fun r_2 => Option.bind (f_X8_tellAnew nT r_2 a1) fun r_3 => some (r_3.1, r_3.2))
set_option maxRecDepth 100000 in
set_option maxHeartbeats 4000000 in
theorem c_X8_empty {l : Launch} {G : va_G} {cy : Nat → ClassId} {B nT : Nat} {M : Mem} {a1 : Int32} {out : Int32 × Mem} (h : f_X8_empty nT M a1 = some out) : Met l yX8_empty (wsU yX8_empty cX8_empty 2 (some .int)) rmX8_empty (va_Pc [.ref (B + 0), .int a1] (PU G B cy nT M)) (Qi G B cy nT out.1 out.2) 0 0 (FB B) := by
  refine r_met (by decide +kernel) RX8 rfl (Nat.le_of_ble_eq_true rfl) ?_
  intro p e s m args below meth c ls X hP hl
  have hl : lv_has ls 2 [(0, .ref (B + 0)), (1, .int a1)] := hl
  have hS : va_S (FB B) s.heap s.heap [] := va_S.rf
  obtain ⟨hx, hb, hr, hml, hown, hts, hKn, hlk⟩ := id X
  unfold f_X8_empty at h
  refine lv_iload_n hx hb dX8_empty_0 rfl (lv_at hl 1 rfl) ?_
  refine lv_i2l (v := (Int32.toInt64 a1)) hx hb dX8_empty_1 rfl ?_
  obtain ⟨r_1, h_1, h⟩ := bd_el h
  refine cl_i (rn_S X hP (c_X8_isCell h_1) k_186 k_187 k_1 k_188 hd_X8_isCell (n := 1) ⟨⟨rfl, rfl⟩, Nat.le_of_ble_eq_true rfl, Nat.le_of_ble_eq_true rfl⟩ (As := [.long (Int32.toInt64 a1)]) (rest := []) rfl hl.1 rfl (Nat.le_of_ble_eq_true rfl) dX8_empty_2 ⟨Nat.zero_le _, Nat.zero_le _⟩) hS (fun H locs hP hS => ?_)
  refine lv_if_ne (tgt := 11) hx hb dX8_empty_5 (by decide) (fun hc => ?_) (fun hc => ?_)
  · replace h := if_eln h hc
    refine lv_aload_n hx hb dX8_empty_11 rfl (lv_at hl 0 rfl) ?_
    refine gf_X8_10 X hP dX8_empty_12 ?_
    refine gf_X8_74 X hP dX8_empty_15 ?_
    refine lv_iload_n hx hb dX8_empty_18 rfl (lv_at hl 1 rfl) ?_
    refine lv_iconst (v := 0) hx hb dX8_empty_19 (by decide) ?_
    refine lv_lconst (v := 0) hx hb dX8_empty_20 rfl ?_
    refine lv_iconst (v := (-1)) hx hb dX8_empty_21 (by decide) ?_
    refine lv_iconst (v := (-1)) hx hb dX8_empty_22 (by decide) ?_
    obtain ⟨r_2, h_2, h⟩ := bd_el h
    refine cl_v (rn_V (C := RX1) (ci := 1) X hP (c_X1_put isC_2 h_2) (kC_0 isC_2) rfl k_190 k_191 k_192 k_3 k_193 rfl hd_X1_put (n := 5) ⟨⟨rfl, rfl⟩, Nat.le_of_ble_eq_true rfl, Nat.le_of_ble_eq_true rfl⟩ (As := [.int a1, .int 0, .long 0, .int (-1), .int (-1)]) (rest := []) rfl hl.1 rfl (Nat.le_of_ble_eq_true rfl) dX8_empty_23 ⟨Nat.zero_le _, Nat.zero_le _⟩) hS (fun H locs hP hS => ?_)
    refine lv_aload_n hx hb dX8_empty_26 rfl (lv_at hl 0 rfl) ?_
    refine lv_iload_n hx hb dX8_empty_27 rfl (lv_at hl 1 rfl) ?_
    obtain ⟨r_3, h_3, h⟩ := bd_el h
    refine cl_i (rn_V (C := RX8) (ci := 8) X hP (c_X8_tellAnew h_3) kq_0 rfl k_194 k_195 k_875 k_1 k_196 rfl hd_X8_tellAnew (n := 1) ⟨⟨rfl, rfl⟩, Nat.le_of_ble_eq_true rfl, Nat.le_of_ble_eq_true rfl⟩ (As := [.int a1]) (rest := []) rfl hl.1 rfl (Nat.le_of_ble_eq_true rfl) dX8_empty_28 ⟨Nat.zero_le _, Nat.zero_le _⟩) hS (fun H locs hP hS => ?_)
    exact r_iret X hP hS (pr1 h) (pr2 h) dX8_empty_31
  · replace h := if_elp h hc
    refine lv_bipush (v := (-2)) hx hb dX8_empty_8 (by decide) ?_
    exact r_iret X hP hS (pr1 h) (pr2 h) dX8_empty_10
end METHS

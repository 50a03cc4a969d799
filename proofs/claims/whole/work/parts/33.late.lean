section METHS
variable {p : Program} {l : Launch} {e : Env} {s : State} {m : MethodId} {args : Array Value} {below : List Frame} {meth : Method} {c : Code} {H : Heap} {locs : List Loc} {G : va_G} {cy : Nat → ClassId} {B nT : Nat} {ls : Array Slot}
abbrev rmX8_makeTry : Room := { frames := 21, cells := 0, slots := 0, locals := 746 }
def f_X8_makeTry (nT : Nat) (q1 : Nat) (M : Mem) : Option (Mem) :=
  gd (inR (gI M q1 3) 20) <| gd (decide ((gI M q1 3).toNatClampNeg < nT)) <| lt (sI M (189 + 4 * (gI M q1 3).toNatClampNeg) 3 ((gI M (189 + 4 * (gI M q1 3).toNatClampNeg) 3) + 1)) fun M_1 => lt (sI M_1 0 11 ((gI M_1 0 11) + 1)) fun M_2 => Option.bind (f_X0_begin q1 2 M_2) fun r_1 => Option.bind (f_X0_go q1 r_1 (gI r_1 (189 + 4 * (gI M q1 3).toNatClampNeg) 0) 0) fun r_2 => lt (sI r_2.2 q1 4 r_2.1) fun M_3 => some M_3
set_option maxRecDepth 100000 in
set_option maxHeartbeats 4000000 in
theorem c_X8_makeTry {l : Launch} {G : va_G} {cy : Nat → ClassId} {B nT : Nat} {q1 : Nat} (hq1 : isA q1) {M : Mem} {out : Mem} (h : f_X8_makeTry nT q1 M = some out) : Met l yX8_makeTry (wsU yX8_makeTry cX8_makeTry 3 none) rmX8_makeTry (va_Pc [.ref (B + 0), .ref (B + q1)] (PU G B cy nT M)) (Qv G B cy nT out) 0 0 (FB B) := by
  refine r_met (by decide +kernel) RX8 rfl (Nat.le_of_ble_eq_true rfl) ?_
  intro p e s m args below meth c ls X hP hl
  have hl : lv_has ls 3 [(0, .ref (B + 0)), (1, .ref (B + q1))] := hl
  have hS : va_S (FB B) s.heap s.heap [] := va_S.rf
  obtain ⟨hx, hb, hr, hml, hown, hts, hKn, hlk⟩ := id X
  unfold f_X8_makeTry at h
  refine lv_aload_n hx hb dX8_makeTry_0 rfl (lv_at hl 0 rfl) ?_
  refine gf_X8_39 X hP dX8_makeTry_1 ?_
  refine lv_aload_n hx hb dX8_makeTry_4 rfl (lv_at hl 1 rfl) ?_
  refine gf_X8_301 X hP (kA_0 hq1) dX8_makeTry_5 ?_
  obtain ⟨g_1, h⟩ := gd_el h
  obtain ⟨g_2, h⟩ := gd_el h
  refine r_aaT X hP g_1 g_2 dX8_makeTry_8 ?_
  have h_1 := okT_of g_2
  refine lv_astore_n (lv' := [(2, .ref (B + (189 + 4 * (gI M q1 3).toNatClampNeg))), (0, .ref (B + 0)), (1, .ref (B + q1))]) hx hb dX8_makeTry_9 rfl hl (by decide) rfl (fun ls hl => ?_)
  refine lv_aload_n hx hb dX8_makeTry_10 rfl (lv_at hl 0 rfl) ?_
  refine lv_dup hx hb dX8_makeTry_11 rfl ?_
  refine gf_X8_185 X hP (kT_0 h_1) dX8_makeTry_12 ?_
  refine lv_iconst (v := 1) hx hb dX8_makeTry_15 (by decide) ?_
  refine lv_iadd hx hb dX8_makeTry_16 ?_
  obtain ⟨M_1, e_1, h⟩ := lt_el h
  refine pf_X8_185 X hP hS (kT_0 h_1) e_1 dX8_makeTry_17 (fun H locs hP hS => ?_)
  refine lv_aload_n hx hb dX8_makeTry_20 rfl (lv_at hl 1 rfl) ?_
  refine lv_dup hx hb dX8_makeTry_21 rfl ?_
  refine gf_X8_252 X hP dX8_makeTry_22 ?_
  refine lv_iconst (v := 1) hx hb dX8_makeTry_25 (by decide) ?_
  refine lv_iadd hx hb dX8_makeTry_26 ?_
  obtain ⟨M_2, e_2, h⟩ := lt_el h
  refine pf_X8_252 X hP hS e_2 dX8_makeTry_27 (fun H locs hP hS => ?_)
  refine lv_aload_n hx hb dX8_makeTry_30 rfl (lv_at hl 2 rfl) ?_
  refine lv_aload_n hx hb dX8_makeTry_31 rfl (lv_at hl 1 rfl) ?_
  refine gf_X8_10 X hP dX8_makeTry_32 ?_
  refine gf_X8_74 X hP dX8_makeTry_35 ?_
  obtain ⟨r_1, h_2, h⟩ := bd_el h
  refine cl_v (rn_V (C := RX0) (ci := 0) X hP (c_X0_begin hq1 isC_2 h_2) (kA_0 hq1) rfl k_349 k_350 k_351 k_8 k_352 rfl hd_X0_begin (n := 1) ⟨⟨rfl, rfl⟩, Nat.le_of_ble_eq_true rfl, Nat.le_of_ble_eq_true rfl⟩ (As := [.ref (B + 2)]) (rest := []) rfl hl.1 rfl (Nat.le_of_ble_eq_true rfl) dX8_makeTry_38 ⟨Nat.zero_le _, Nat.zero_le _⟩) hS (fun H locs hP hS => ?_)
  refine lv_aload_n hx hb dX8_makeTry_41 rfl (lv_at hl 2 rfl) ?_
  refine lv_aload_n hx hb dX8_makeTry_42 rfl (lv_at hl 2 rfl) ?_
  refine lv_aload_n hx hb dX8_makeTry_43 rfl (lv_at hl 0 rfl) ?_
  refine gf_X8_170 X hP (kT_0 h_1) dX8_makeTry_44 ?_
  refine lv_iconst (v := 0) hx hb dX8_makeTry_47 (by decide) ?_
  obtain ⟨r_2, h_3, h⟩ := bd_el h
  refine cl_i (rn_VN (C := RX0) (ci := 0) X hP (c_X0_go hq1 h_3) (kA_0 hq1) rfl nst_X8_314 k_361 k_881 k_8 k_362 hd_X0_doTrade (n := 2) ⟨⟨rfl, rfl⟩, Nat.le_of_ble_eq_true rfl, Nat.le_of_ble_eq_true rfl⟩ (As := [.int (gI r_1 (189 + 4 * (gI M q1 3).toNatClampNeg) 0), .int 0]) (rest := [.ref (B + q1)]) rfl hl.1 rfl (Nat.le_of_ble_eq_true rfl) dX8_makeTry_48 ⟨Nat.zero_le _, Nat.zero_le _⟩) hS (fun H locs hP hS => ?_)
  obtain ⟨M_3, e_3, h⟩ := lt_el h
  refine pf_X8_317 X hP hS (kA_0 hq1) e_3 dX8_makeTry_51 (fun H locs hP hS => ?_)
  exact r_vret X hP hS (pr0 h) dX8_makeTry_54
abbrev rmX8_tryLeastReady : Room := { frames := 22, cells := 0, slots := 0, locals := 768 }
def f_X8_tryLeastReady_55 (nT : Nat) (K4 : Mem → Int32 → Int32 → Option (Int32 × Mem)) (M : Mem) (v1 : Int32) (v2 : Int32) : Option (Int32 × Mem) :=
  lt (v2 + 1) fun v_1 => K4 M v1 v_1
set_option maxRecDepth 100000 in
set_option maxHeartbeats 4000000 in
theorem w_X8_tryLeastReady_55 (X : Cx p s m args meth c cX8_tryLeastReady RX8 3 (some .int) G cy) {out : Int32 × Mem} {K4 : Mem → Int32 → Int32 → Option (Int32 × Mem)} (hK4 : ∀ (H : Heap) (locs : List Loc) (ls : Array Slot) (M : Mem) (v1 : Int32) (v2 : Int32), Pic G B cy nT M H → va_S (FB B) s.heap H locs → lv_has ls 3 [(0, .ref (B + 0)), (1, .int v1), (2, .int v2)] → K4 M v1 v2 = some out → W p l e rmX8_tryLeastReady s m args below meth c H locs 0 0 (MQ below (Qi G B cy nT out.1 out.2) args s 0 0 (FB B)) (F0 m 4 ls [])) {M : Mem} {v1 : Int32} {v2 : Int32} (hP : Pic G B cy nT M H) (hS : va_S (FB B) s.heap H locs) (hl : lv_has ls 3 [(0, .ref (B + 0)), (1, .int v1), (2, .int v2)]) (h : f_X8_tryLeastReady_55 nT K4 M v1 v2 = some out) : W p l e rmX8_tryLeastReady s m args below meth c H locs 0 0 (MQ below (Qi G B cy nT out.1 out.2) args s 0 0 (FB B)) (F0 m 55 ls []) := by
  obtain ⟨hx, hb, hr, hml, hown, hts, hKn, hlk⟩ := id X
  unfold f_X8_tryLeastReady_55 at h
  obtain ⟨v_1, e_1, h⟩ := lt_el h
  refine lv_iinc (v := v_1) (lv' := [(2, .int v_1), (0, .ref (B + 0)), (1, .int v1)]) hx hb dX8_tryLeastReady_55 hl (k := 2) rfl (by rw [e_1]; rfl) (by decide) rfl (fun ls hl => ?_)
  refine lv_goto (tgt := 4) hx hb dX8_tryLeastReady_58 (by decide) ?_
  exact hK4 _ _ _ _ _ _ hP hS (lv_sub hl [1, 2, 0] rfl) h
def f_X8_tryLeastReady_4 (nT : Nat) : Nat → Mem → Int32 → Int32 → Option (Int32 × Mem)
  | 0, _, _, _ => none
  | n + 1, M, v1, v2 => if (gI M 0 8) ≤ v2 then (some (v1, M)) else (if (gI M 0 12) ≤ v1 then (some (v1, M)) else (gd (inR v2 20) <| gd (decide (v2.toNatClampNeg < nT)) <| if (gI M (189 + 4 * v2.toNatClampNeg) 1) = 0 then (gd (inR v1 4) <| lt (sI M (65 + 12 * v1.toNatClampNeg) 3 v2) fun M_1 => gd (inR v1 4) <| Option.bind (f_X8_makeTry nT (65 + 12 * v1.toNatClampNeg) M_1) fun r_1 => lt (v1 + 1) fun v_1 => f_X8_tryLeastReady_55 nT (f_X8_tryLeastReady_4 nT n) r_1 v_1 v2) else (f_X8_tryLeastReady_55 nT (f_X8_tryLeastReady_4 nT n) M v1 v2)))
set_option maxRecDepth 100000 in
set_option maxHeartbeats 4000000 in
theorem w_X8_tryLeastReady_4 (X : Cx p s m args meth c cX8_tryLeastReady RX8 3 (some .int) G cy) {out : Int32 × Mem} : ∀ n : Nat, ∀ (H : Heap) (locs : List Loc) (ls : Array Slot) (M : Mem) (v1 : Int32) (v2 : Int32), Pic G B cy nT M H → va_S (FB B) s.heap H locs → lv_has ls 3 [(0, .ref (B + 0)), (1, .int v1), (2, .int v2)] → f_X8_tryLeastReady_4 nT n M v1 v2 = some out → W p l e rmX8_tryLeastReady s m args below meth c H locs 0 0 (MQ below (Qi G B cy nT out.1 out.2) args s 0 0 (FB B)) (F0 m 4 ls []) := by
  obtain ⟨hx, hb, hr, hml, hown, hts, hKn, hlk⟩ := id X
  intro n
  induction n with
  | zero =>
    intro H locs ls M v1 v2 hP hS hl h
    cases h
  | succ n ih =>
    intro H locs ls M v1 v2 hP hS hl h
    rw [f_X8_tryLeastReady_4] at h
    refine lv_iload_n hx hb dX8_tryLeastReady_4 rfl (lv_at hl 2 rfl) ?_
    refine lv_aload_n hx hb dX8_tryLeastReady_5 rfl (lv_at hl 0 rfl) ?_
    refine gf_X8_151 X hP dX8_tryLeastReady_6 ?_
    refine lv_icmp_ge (tgt := 61) hx hb dX8_tryLeastReady_9 (by decide) (fun hc => ?_) (fun hc => ?_)
    · replace h := if_elp h hc
      refine lv_iload_n hx hb dX8_tryLeastReady_61 rfl (lv_at hl 1 rfl) ?_
      exact r_iret X hP hS (pr1 h) (pr2 h) dX8_tryLeastReady_62
    · replace h := if_eln h hc
      refine lv_iload_n hx hb dX8_tryLeastReady_12 rfl (lv_at hl 1 rfl) ?_
      refine lv_aload_n hx hb dX8_tryLeastReady_13 rfl (lv_at hl 0 rfl) ?_
      refine gf_X8_66 X hP dX8_tryLeastReady_14 ?_
      refine lv_icmp_ge (tgt := 61) hx hb dX8_tryLeastReady_17 (by decide) (fun hc => ?_) (fun hc => ?_)
      · replace h := if_elp h hc
        refine lv_iload_n hx hb dX8_tryLeastReady_61 rfl (lv_at hl 1 rfl) ?_
        exact r_iret X hP hS (pr1 h) (pr2 h) dX8_tryLeastReady_62
      · replace h := if_eln h hc
        refine lv_aload_n hx hb dX8_tryLeastReady_20 rfl (lv_at hl 0 rfl) ?_
        refine gf_X8_39 X hP dX8_tryLeastReady_21 ?_
        refine lv_iload_n hx hb dX8_tryLeastReady_24 rfl (lv_at hl 2 rfl) ?_
        obtain ⟨g_1, h⟩ := gd_el h
        obtain ⟨g_2, h⟩ := gd_el h
        refine r_aaT X hP g_1 g_2 dX8_tryLeastReady_25 ?_
        have h_1 := okT_of g_2
        refine gf_X8_167 X hP (kT_0 h_1) dX8_tryLeastReady_26 ?_
        refine lv_if_ne (tgt := 55) hx hb dX8_tryLeastReady_29 (by decide) (fun hc => ?_) (fun hc => ?_)
        · replace h := if_eln h hc
          exact w_X8_tryLeastReady_55 X ih hP hS (lv_sub hl [0, 1, 2] rfl) h
        · replace h := if_elp h hc
          refine lv_aload_n hx hb dX8_tryLeastReady_32 rfl (lv_at hl 0 rfl) ?_
          refine gf_X8_45 X hP dX8_tryLeastReady_33 ?_
          refine lv_iload_n hx hb dX8_tryLeastReady_36 rfl (lv_at hl 1 rfl) ?_
          obtain ⟨g_3, h⟩ := gd_el h
          refine r_aaA X hP g_3 dX8_tryLeastReady_37 ?_
          have h_2 := isA_of g_3
          refine lv_iload_n hx hb dX8_tryLeastReady_38 rfl (lv_at hl 2 rfl) ?_
          obtain ⟨M_1, e_1, h⟩ := lt_el h
          refine pf_X8_301 X hP hS (kA_0 h_2) e_1 dX8_tryLeastReady_39 (fun H locs hP hS => ?_)
          refine lv_aload_n hx hb dX8_tryLeastReady_42 rfl (lv_at hl 0 rfl) ?_
          refine lv_aload_n hx hb dX8_tryLeastReady_43 rfl (lv_at hl 0 rfl) ?_
          refine gf_X8_45 X hP dX8_tryLeastReady_44 ?_
          refine lv_iload_n hx hb dX8_tryLeastReady_47 rfl (lv_at hl 1 rfl) ?_
          obtain ⟨g_4, h⟩ := gd_el h
          refine r_aaA X hP g_4 dX8_tryLeastReady_48 ?_
          have h_3 := isA_of g_4
          obtain ⟨r_1, h_4, h⟩ := bd_el h
          refine cl_v (rn_V (C := RX8) (ci := 8) X hP (c_X8_makeTry h_3 h_4) kq_0 rfl k_346 k_347 k_880 k_1 k_348 rfl hd_X8_makeTry (n := 1) ⟨⟨rfl, rfl⟩, Nat.le_of_ble_eq_true rfl, Nat.le_of_ble_eq_true rfl⟩ (As := [.ref (B + (65 + 12 * v1.toNatClampNeg))]) (rest := []) rfl hl.1 rfl (Nat.le_of_ble_eq_true rfl) dX8_tryLeastReady_49 ⟨Nat.zero_le _, Nat.zero_le _⟩) hS (fun H locs hP hS => ?_)
          obtain ⟨v_1, e_2, h⟩ := lt_el h
          refine lv_iinc (v := v_1) (lv' := [(1, .int v_1), (0, .ref (B + 0)), (2, .int v2)]) hx hb dX8_tryLeastReady_52 hl (k := 1) rfl (by rw [e_2]; rfl) (by decide) rfl (fun ls hl => ?_)
          exact w_X8_tryLeastReady_55 X ih hP hS (lv_sub hl [1, 0, 2] rfl) h
def f_X8_tryLeastReady (nT : Nat) (M : Mem) : Option (Int32 × Mem) :=
  f_X8_tryLeastReady_4 nT FU M 0 0
set_option maxRecDepth 100000 in
set_option maxHeartbeats 4000000 in
theorem c_X8_tryLeastReady {l : Launch} {G : va_G} {cy : Nat → ClassId} {B nT : Nat} {M : Mem} {out : Int32 × Mem} (h : f_X8_tryLeastReady nT M = some out) : Met l yX8_tryLeastReady (wsU yX8_tryLeastReady cX8_tryLeastReady 3 (some .int)) rmX8_tryLeastReady (va_Pc [.ref (B + 0)] (PU G B cy nT M)) (Qi G B cy nT out.1 out.2) 0 0 (FB B) := by
  refine r_met (by decide +kernel) RX8 rfl (Nat.le_of_ble_eq_true rfl) ?_
  intro p e s m args below meth c ls X hP hl
  have hl : lv_has ls 3 [(0, .ref (B + 0))] := hl
  have hS : va_S (FB B) s.heap s.heap [] := va_S.rf
  obtain ⟨hx, hb, hr, hml, hown, hts, hKn, hlk⟩ := id X
  unfold f_X8_tryLeastReady at h
  refine lv_iconst (v := 0) hx hb dX8_tryLeastReady_0 (by decide) ?_
  refine lv_istore_n (lv' := [(1, .int 0), (0, .ref (B + 0))]) hx hb dX8_tryLeastReady_1 rfl hl (by decide) rfl (fun ls hl => ?_)
  refine lv_iconst (v := 0) hx hb dX8_tryLeastReady_2 (by decide) ?_
  refine lv_istore_n (lv' := [(2, .int 0), (1, .int 0), (0, .ref (B + 0))]) hx hb dX8_tryLeastReady_3 rfl hl (by decide) rfl (fun ls hl => ?_)
  exact w_X8_tryLeastReady_4 X FU _ _ _ _ _ _ hP hS (lv_sub hl [2, 1, 0] rfl) h
abbrev rmX8_takeTurn : Room := { frames := 22, cells := 0, slots := 0, locals := 768 }
def f_X8_takeTurn_78 (nT : Nat) (q1 : Nat) (M : Mem) (r2 : Nat) (v3 : Int32) : Option (Mem) :=
  if v3 ≤ 2 then (Option.bind (f_X8_endTurn nT r2 q1 M) fun r_1 => some r_1) else (Option.bind (f_X6_forgetTry r2 M) fun r_2 => lt (sI r_2 r2 1 5) fun M_1 => some M_1)
set_option maxRecDepth 100000 in
set_option maxHeartbeats 4000000 in
theorem w_X8_takeTurn_78 (X : Cx p s m args meth c cX8_takeTurn RX8 5 none G cy) {q1 : Nat} (hq1 : isA q1) {out : Mem} {M : Mem} {r2 : Nat} {v3 : Int32} (hr2 : okT nT r2) (hP : Pic G B cy nT M H) (hS : va_S (FB B) s.heap H locs) (hl : lv_has ls 5 [(0, .ref (B + 0)), (1, .ref (B + q1)), (2, .ref (B + r2)), (3, .int v3)]) (h : f_X8_takeTurn_78 nT q1 M r2 v3 = some out) : W p l e rmX8_takeTurn s m args below meth c H locs 0 0 (MQ below (Qv G B cy nT out) args s 0 0 (FB B)) (F0 m 78 ls []) := by
  obtain ⟨hx, hb, hr, hml, hown, hts, hKn, hlk⟩ := id X
  unfold f_X8_takeTurn_78 at h
  refine lv_iload_n hx hb dX8_takeTurn_78 rfl (lv_at hl 3 rfl) ?_
  refine lv_iconst (v := 2) hx hb dX8_takeTurn_79 (by decide) ?_
  refine lv_icmp_le (tgt := 95) hx hb dX8_takeTurn_80 (by decide) (fun hc => ?_) (fun hc => ?_)
  · replace h := if_elp h hc
    refine lv_aload_n hx hb dX8_takeTurn_95 rfl (lv_at hl 0 rfl) ?_
    refine lv_aload_n hx hb dX8_takeTurn_96 rfl (lv_at hl 2 rfl) ?_
    refine lv_aload_n hx hb dX8_takeTurn_97 rfl (lv_at hl 1 rfl) ?_
    obtain ⟨r_1, h_1, h⟩ := bd_el h
    refine cl_v (rn_V (C := RX8) (ci := 8) X hP (c_X8_endTurn hr2 hq1 h_1) kq_0 rfl k_429 k_430 k_898 k_1 k_431 rfl hd_X8_endTurn (n := 2) ⟨⟨rfl, rfl⟩, Nat.le_of_ble_eq_true rfl, Nat.le_of_ble_eq_true rfl⟩ (As := [.ref (B + r2), .ref (B + q1)]) (rest := []) rfl hl.1 rfl (Nat.le_of_ble_eq_true rfl) dX8_takeTurn_98 ⟨Nat.zero_le _, Nat.zero_le _⟩) hS (fun H locs hP hS => ?_)
    exact r_vret X hP hS (pr0 h) dX8_takeTurn_101
  · replace h := if_eln h hc
    refine lv_aload_n hx hb dX8_takeTurn_83 rfl (lv_at hl 2 rfl) ?_
    obtain ⟨r_2, h_2, h⟩ := bd_el h
    refine cl_v (rn_V (C := RX6) (ci := 6) X hP (c_X6_forgetTry hr2 h_2) (kT_0 hr2) rfl k_425 k_426 k_427 k_10 k_428 rfl hd_X6_forgetTry (n := 0) ⟨⟨rfl, rfl⟩, Nat.le_of_ble_eq_true rfl, Nat.le_of_ble_eq_true rfl⟩ (As := []) (rest := []) rfl hl.1 rfl (Nat.le_of_ble_eq_true rfl) dX8_takeTurn_84 ⟨Nat.zero_le _, Nat.zero_le _⟩) hS (fun H locs hP hS => ?_)
    refine lv_aload_n hx hb dX8_takeTurn_87 rfl (lv_at hl 2 rfl) ?_
    refine lv_iconst (v := 5) hx hb dX8_takeTurn_88 (by decide) ?_
    obtain ⟨M_1, e_1, h⟩ := lt_el h
    refine pf_X8_167 X hP hS (kT_0 hr2) e_1 dX8_takeTurn_89 (fun H locs hP hS => ?_)
    refine lv_goto (tgt := 101) hx hb dX8_takeTurn_92 (by decide) ?_
    exact r_vret X hP hS (pr0 h) dX8_takeTurn_101
def f_X8_takeTurn_55 (nT : Nat) (q1 : Nat) : Nat → Mem → Nat → Int32 → Int32 → Option (Mem)
  | 0, _, _, _, _ => none
  | n + 1, M, r2, v3, v4 => if v3 ≤ v4 then (f_X8_takeTurn_78 nT q1 M r2 v3) else (if 2 ≤ v4 then (f_X8_takeTurn_78 nT q1 M r2 v3) else (Option.bind (f_X8_makeTry nT q1 M) fun r_1 => lt (v4 + 1) fun v_1 => (f_X8_takeTurn_55 nT q1 n) r_1 r2 v3 v_1))
set_option maxRecDepth 100000 in
set_option maxHeartbeats 4000000 in
theorem w_X8_takeTurn_55 (X : Cx p s m args meth c cX8_takeTurn RX8 5 none G cy) {q1 : Nat} (hq1 : isA q1) {out : Mem} : ∀ n : Nat, ∀ (H : Heap) (locs : List Loc) (ls : Array Slot) (M : Mem) (r2 : Nat) (v3 : Int32) (v4 : Int32), okT nT r2 → Pic G B cy nT M H → va_S (FB B) s.heap H locs → lv_has ls 5 [(0, .ref (B + 0)), (1, .ref (B + q1)), (2, .ref (B + r2)), (3, .int v3), (4, .int v4)] → f_X8_takeTurn_55 nT q1 n M r2 v3 v4 = some out → W p l e rmX8_takeTurn s m args below meth c H locs 0 0 (MQ below (Qv G B cy nT out) args s 0 0 (FB B)) (F0 m 55 ls []) := by
  obtain ⟨hx, hb, hr, hml, hown, hts, hKn, hlk⟩ := id X
  intro n
  induction n with
  | zero =>
    intro H locs ls M r2 v3 v4 hr2 hP hS hl h
    cases h
  | succ n ih =>
    intro H locs ls M r2 v3 v4 hr2 hP hS hl h
    rw [f_X8_takeTurn_55] at h
    refine lv_iload hx hb dX8_takeTurn_55 (lv_at hl 4 rfl) ?_
    refine lv_iload_n hx hb dX8_takeTurn_57 rfl (lv_at hl 3 rfl) ?_
    refine lv_icmp_ge (tgt := 78) hx hb dX8_takeTurn_58 (by decide) (fun hc => ?_) (fun hc => ?_)
    · replace h := if_elp h hc
      exact w_X8_takeTurn_78 X hq1 hr2 hP hS (lv_sub hl [0, 1, 2, 3] rfl) h
    · replace h := if_eln h hc
      refine lv_iload hx hb dX8_takeTurn_61 (lv_at hl 4 rfl) ?_
      refine lv_iconst (v := 2) hx hb dX8_takeTurn_63 (by decide) ?_
      refine lv_icmp_ge (tgt := 78) hx hb dX8_takeTurn_64 (by decide) (fun hc => ?_) (fun hc => ?_)
      · replace h := if_elp h hc
        exact w_X8_takeTurn_78 X hq1 hr2 hP hS (lv_sub hl [0, 1, 2, 3] rfl) h
      · replace h := if_eln h hc
        refine lv_aload_n hx hb dX8_takeTurn_67 rfl (lv_at hl 0 rfl) ?_
        refine lv_aload_n hx hb dX8_takeTurn_68 rfl (lv_at hl 1 rfl) ?_
        obtain ⟨r_1, h_1, h⟩ := bd_el h
        refine cl_v (rn_V (C := RX8) (ci := 8) X hP (c_X8_makeTry hq1 h_1) kq_0 rfl k_346 k_347 k_880 k_1 k_348 rfl hd_X8_makeTry (n := 1) ⟨⟨rfl, rfl⟩, Nat.le_of_ble_eq_true rfl, Nat.le_of_ble_eq_true rfl⟩ (As := [.ref (B + q1)]) (rest := []) rfl hl.1 rfl (Nat.le_of_ble_eq_true rfl) dX8_takeTurn_69 ⟨Nat.zero_le _, Nat.zero_le _⟩) hS (fun H locs hP hS => ?_)
        obtain ⟨v_1, e_1, h⟩ := lt_el h
        refine lv_iinc (v := v_1) (lv' := [(4, .int v_1), (0, .ref (B + 0)), (1, .ref (B + q1)), (2, .ref (B + r2)), (3, .int v3)]) hx hb dX8_takeTurn_72 hl (k := 4) rfl (by rw [e_1]; rfl) (by decide) rfl (fun ls hl => ?_)
        refine lv_goto (tgt := 55) hx hb dX8_takeTurn_75 (by decide) ?_
        exact ih _ _ _ _ _ _ _ hr2 hP hS (lv_sub hl [1, 2, 3, 4, 0] rfl) h
def f_X8_takeTurn_39 (nT : Nat) (q1 : Nat) (M : Mem) (r2 : Nat) : Option (Mem) :=
  gd (inR (gI M r2 0) 16) <| lt (gI M 13 (gI M r2 0).toNatClampNeg) fun v_1 => f_X8_takeTurn_55 nT q1 FU M r2 v_1 0
set_option maxRecDepth 100000 in
set_option maxHeartbeats 4000000 in
theorem w_X8_takeTurn_39 (X : Cx p s m args meth c cX8_takeTurn RX8 5 none G cy) {q1 : Nat} (hq1 : isA q1) {out : Mem} {M : Mem} {r2 : Nat} (hr2 : okT nT r2) (hP : Pic G B cy nT M H) (hS : va_S (FB B) s.heap H locs) (hl : lv_has ls 5 [(0, .ref (B + 0)), (1, .ref (B + q1)), (2, .ref (B + r2))]) (h : f_X8_takeTurn_39 nT q1 M r2 = some out) : W p l e rmX8_takeTurn s m args below meth c H locs 0 0 (MQ below (Qv G B cy nT out) args s 0 0 (FB B)) (F0 m 39 ls []) := by
  obtain ⟨hx, hb, hr, hml, hown, hts, hKn, hlk⟩ := id X
  unfold f_X8_takeTurn_39 at h
  refine lv_aload_n hx hb dX8_takeTurn_39 rfl (lv_at hl 0 rfl) ?_
  refine gf_X8_19 X hP dX8_takeTurn_40 ?_
  refine gf_X8_141 X hP dX8_takeTurn_43 ?_
  refine lv_aload_n hx hb dX8_takeTurn_46 rfl (lv_at hl 2 rfl) ?_
  refine gf_X8_170 X hP (kT_0 hr2) dX8_takeTurn_47 ?_
  obtain ⟨g_1, h⟩ := gd_el h
  refine r_iald X hP kq_13 g_1 dX8_takeTurn_50 ?_
  obtain ⟨v_1, e_1, h⟩ := lt_el h
  refine r_topi e_1 ?_
  refine lv_istore_n (lv' := [(3, .int v_1), (0, .ref (B + 0)), (1, .ref (B + q1)), (2, .ref (B + r2))]) hx hb dX8_takeTurn_51 rfl hl (by decide) rfl (fun ls hl => ?_)
  refine lv_iconst (v := 0) hx hb dX8_takeTurn_52 (by decide) ?_
  refine lv_istore (lv' := [(4, .int 0), (3, .int v_1), (0, .ref (B + 0)), (1, .ref (B + q1)), (2, .ref (B + r2))]) hx hb dX8_takeTurn_53 hl (by decide) rfl (fun ls hl => ?_)
  exact w_X8_takeTurn_55 X hq1 FU _ _ _ _ _ _ _ hr2 hP hS (lv_sub hl [2, 3, 4, 1, 0] rfl) h
def f_X8_takeTurn (nT : Nat) (q1 : Nat) (M : Mem) : Option (Mem) :=
  gd (inR (gI M q1 3) 20) <| gd (decide ((gI M q1 3).toNatClampNeg < nT)) <| lt (sI M (189 + 4 * (gI M q1 3).toNatClampNeg) 2 ((gI M (189 + 4 * (gI M q1 3).toNatClampNeg) 2) + 1)) fun M_1 => if ((gL M_1 q1 7) &&& (gL M_1 0 13)) = 0 then (f_X8_takeTurn_39 nT q1 M_1 (189 + 4 * (gI M q1 3).toNatClampNeg)) else (Option.bind (f_X8_makeTry nT q1 M_1) fun r_1 => f_X8_takeTurn_39 nT q1 r_1 (189 + 4 * (gI M q1 3).toNatClampNeg))
set_option maxRecDepth 100000 in
set_option maxHeartbeats 4000000 in
theorem c_X8_takeTurn {l : Launch} {G : va_G} {cy : Nat → ClassId} {B nT : Nat} {q1 : Nat} (hq1 : isA q1) {M : Mem} {out : Mem} (h : f_X8_takeTurn nT q1 M = some out) : Met l yX8_takeTurn (wsU yX8_takeTurn cX8_takeTurn 5 none) rmX8_takeTurn (va_Pc [.ref (B + 0), .ref (B + q1)] (PU G B cy nT M)) (Qv G B cy nT out) 0 0 (FB B) := by
  refine r_met (by decide +kernel) RX8 rfl (Nat.le_of_ble_eq_true rfl) ?_
  intro p e s m args below meth c ls X hP hl
  have hl : lv_has ls 5 [(0, .ref (B + 0)), (1, .ref (B + q1))] := hl
  have hS : va_S (FB B) s.heap s.heap [] := va_S.rf
  obtain ⟨hx, hb, hr, hml, hown, hts, hKn, hlk⟩ := id X
  unfold f_X8_takeTurn at h
  refine lv_aload_n hx hb dX8_takeTurn_0 rfl (lv_at hl 0 rfl) ?_
  refine gf_X8_39 X hP dX8_takeTurn_1 ?_
  refine lv_aload_n hx hb dX8_takeTurn_4 rfl (lv_at hl 1 rfl) ?_
  refine gf_X8_301 X hP (kA_0 hq1) dX8_takeTurn_5 ?_
  obtain ⟨g_1, h⟩ := gd_el h
  obtain ⟨g_2, h⟩ := gd_el h
  refine r_aaT X hP g_1 g_2 dX8_takeTurn_8 ?_
  have h_1 := okT_of g_2
  refine lv_astore_n (lv' := [(2, .ref (B + (189 + 4 * (gI M q1 3).toNatClampNeg))), (0, .ref (B + 0)), (1, .ref (B + q1))]) hx hb dX8_takeTurn_9 rfl hl (by decide) rfl (fun ls hl => ?_)
  refine lv_aload_n hx hb dX8_takeTurn_10 rfl (lv_at hl 0 rfl) ?_
  refine lv_dup hx hb dX8_takeTurn_11 rfl ?_
  refine gf_X8_173 X hP (kT_0 h_1) dX8_takeTurn_12 ?_
  refine lv_iconst (v := 1) hx hb dX8_takeTurn_15 (by decide) ?_
  refine lv_iadd hx hb dX8_takeTurn_16 ?_
  obtain ⟨M_1, e_1, h⟩ := lt_el h
  refine pf_X8_173 X hP hS (kT_0 h_1) e_1 dX8_takeTurn_17 (fun H locs hP hS => ?_)
  refine lv_aload_n hx hb dX8_takeTurn_20 rfl (lv_at hl 2 rfl) ?_
  refine gf_X8_320 X hP (kA_0 hq1) dX8_takeTurn_21 ?_
  refine lv_aload_n hx hb dX8_takeTurn_24 rfl (lv_at hl 1 rfl) ?_
  refine gf_X8_295 X hP dX8_takeTurn_25 ?_
  refine lv_land hx hb dX8_takeTurn_28 ?_
  refine lv_lconst (v := 0) hx hb dX8_takeTurn_29 rfl ?_
  refine W.lcmp hx hb dX8_takeTurn_30 ?_
  refine lv_if_eq (tgt := 39) hx hb dX8_takeTurn_31 (by decide) (fun hc => ?_) (fun hc => ?_)
  · replace h := if_elp h (lc_eq.mp hc)
    exact w_X8_takeTurn_39 X hq1 h_1 hP hS (lv_sub hl [1, 2, 0] rfl) h
  · replace h := if_eln h (fun z => hc (lc_eq.mpr z))
    refine lv_aload_n hx hb dX8_takeTurn_34 rfl (lv_at hl 1 rfl) ?_
    refine lv_aload_n hx hb dX8_takeTurn_35 rfl (lv_at hl 2 rfl) ?_
    obtain ⟨r_1, h_2, h⟩ := bd_el h
    refine cl_v (rn_V (C := RX8) (ci := 8) X hP (c_X8_makeTry hq1 h_2) kq_0 rfl k_346 k_347 k_880 k_1 k_348 rfl hd_X8_makeTry (n := 1) ⟨⟨rfl, rfl⟩, Nat.le_of_ble_eq_true rfl, Nat.le_of_ble_eq_true rfl⟩ (As := [.ref (B + q1)]) (rest := []) rfl hl.1 rfl (Nat.le_of_ble_eq_true rfl) dX8_takeTurn_36 ⟨Nat.zero_le _, Nat.zero_le _⟩) hS (fun H locs hP hS => ?_)
    exact w_X8_takeTurn_39 X hq1 h_1 hP hS (lv_sub hl [1, 2, 0] rfl) h
abbrev rmX8_playRound : Room := { frames := 23, cells := 0, slots := 0, locals := 792 }
def f_X8_playRound_22 (nT : Nat) : Nat → Mem → Int32 → Int32 → Option (Int32 × Mem)
  | 0, _, _, _ => none
  | n + 1, M, v1, v2 => if v1 ≤ v2 then (some (v2, M)) else (gd (inR v2 4) <| Option.bind (f_X8_isReadyBelow nT M (gI M (65 + 12 * v2.toNatClampNeg) 3)) fun r_1 => if (bI r_1) = 0 then (gd (inR v2 4) <| Option.bind (f_X8_takeTurn nT (65 + 12 * v2.toNatClampNeg) M) fun r_2 => lt (v2 + 1) fun v_1 => (f_X8_playRound_22 nT n) r_2 v1 v_1) else (some (v2, M)))
set_option maxRecDepth 100000 in
set_option maxHeartbeats 4000000 in
theorem w_X8_playRound_22 (X : Cx p s m args meth c cX8_playRound RX8 3 (some .int) G cy) {out : Int32 × Mem} : ∀ n : Nat, ∀ (H : Heap) (locs : List Loc) (ls : Array Slot) (M : Mem) (v1 : Int32) (v2 : Int32), Pic G B cy nT M H → va_S (FB B) s.heap H locs → lv_has ls 3 [(0, .ref (B + 0)), (1, .int v1), (2, .int v2)] → f_X8_playRound_22 nT n M v1 v2 = some out → W p l e rmX8_playRound s m args below meth c H locs 0 0 (MQ below (Qi G B cy nT out.1 out.2) args s 0 0 (FB B)) (F0 m 22 ls []) := by
  obtain ⟨hx, hb, hr, hml, hown, hts, hKn, hlk⟩ := id X
  intro n
  induction n with
  | zero =>
    intro H locs ls M v1 v2 hP hS hl h
    cases h
  | succ n ih =>
    intro H locs ls M v1 v2 hP hS hl h
    rw [f_X8_playRound_22] at h
    refine lv_iload_n hx hb dX8_playRound_22 rfl (lv_at hl 2 rfl) ?_
    refine lv_iload_n hx hb dX8_playRound_23 rfl (lv_at hl 1 rfl) ?_
    refine lv_icmp_ge (tgt := 59) hx hb dX8_playRound_24 (by decide) (fun hc => ?_) (fun hc => ?_)
    · replace h := if_elp h hc
      refine lv_iload_n hx hb dX8_playRound_59 rfl (lv_at hl 2 rfl) ?_
      exact r_iret X hP hS (pr1 h) (pr2 h) dX8_playRound_60
    · replace h := if_eln h hc
      refine lv_aload_n hx hb dX8_playRound_27 rfl (lv_at hl 0 rfl) ?_
      refine lv_aload_n hx hb dX8_playRound_28 rfl (lv_at hl 0 rfl) ?_
      refine gf_X8_45 X hP dX8_playRound_29 ?_
      refine lv_iload_n hx hb dX8_playRound_32 rfl (lv_at hl 2 rfl) ?_
      obtain ⟨g_1, h⟩ := gd_el h
      refine r_aaA X hP g_1 dX8_playRound_33 ?_
      have h_1 := isA_of g_1
      refine gf_X8_301 X hP (kA_0 h_1) dX8_playRound_34 ?_
      obtain ⟨r_1, h_2, h⟩ := bd_el h
      refine cl_i (rn_V (C := RX8) (ci := 8) X hP (c_X8_isReadyBelow h_2) kq_0 rfl k_337 k_338 k_877 k_1 k_339 rfl hd_X8_isReadyBelow (n := 1) ⟨⟨rfl, rfl⟩, Nat.le_of_ble_eq_true rfl, Nat.le_of_ble_eq_true rfl⟩ (As := [.int (gI M (65 + 12 * v2.toNatClampNeg) 3)]) (rest := []) rfl hl.1 rfl (Nat.le_of_ble_eq_true rfl) dX8_playRound_37 ⟨Nat.zero_le _, Nat.zero_le _⟩) hS (fun H locs hP hS => ?_)
      refine lv_if_ne (tgt := 59) hx hb dX8_playRound_40 (by decide) (fun hc => ?_) (fun hc => ?_)
      · replace h := if_eln h hc
        refine lv_iload_n hx hb dX8_playRound_59 rfl (lv_at hl 2 rfl) ?_
        exact r_iret X hP hS (pr1 h) (pr2 h) dX8_playRound_60
      · replace h := if_elp h hc
        refine lv_aload_n hx hb dX8_playRound_43 rfl (lv_at hl 0 rfl) ?_
        refine lv_aload_n hx hb dX8_playRound_44 rfl (lv_at hl 0 rfl) ?_
        refine gf_X8_45 X hP dX8_playRound_45 ?_
        refine lv_iload_n hx hb dX8_playRound_48 rfl (lv_at hl 2 rfl) ?_
        obtain ⟨g_2, h⟩ := gd_el h
        refine r_aaA X hP g_2 dX8_playRound_49 ?_
        have h_3 := isA_of g_2
        obtain ⟨r_2, h_4, h⟩ := bd_el h
        refine cl_v (rn_V (C := RX8) (ci := 8) X hP (c_X8_takeTurn h_3 h_4) kq_0 rfl k_422 k_423 k_897 k_1 k_424 rfl hd_X8_takeTurn (n := 1) ⟨⟨rfl, rfl⟩, Nat.le_of_ble_eq_true rfl, Nat.le_of_ble_eq_true rfl⟩ (As := [.ref (B + (65 + 12 * v2.toNatClampNeg))]) (rest := []) rfl hl.1 rfl (Nat.le_of_ble_eq_true rfl) dX8_playRound_50 ⟨Nat.zero_le _, Nat.zero_le _⟩) hS (fun H locs hP hS => ?_)
        obtain ⟨v_1, e_1, h⟩ := lt_el h
        refine lv_iinc (v := v_1) (lv' := [(2, .int v_1), (0, .ref (B + 0)), (1, .int v1)]) hx hb dX8_playRound_53 hl (k := 2) rfl (by rw [e_1]; rfl) (by decide) rfl (fun ls hl => ?_)
        refine lv_goto (tgt := 22) hx hb dX8_playRound_56 (by decide) ?_
        exact ih _ _ _ _ _ _ hP hS (lv_sub hl [1, 2, 0] rfl) h
def f_X8_playRound (nT : Nat) (M : Mem) : Option (Int32 × Mem) :=
  lt (sI M 0 10 ((gI M 0 10) + 1)) fun M_1 => lt (sL M_1 0 13 0) fun M_2 => Option.bind (f_X8_tryLeastReady nT M_2) fun r_1 => f_X8_playRound_22 nT FU r_1.2 r_1.1 0
set_option maxRecDepth 100000 in
set_option maxHeartbeats 4000000 in
theorem c_X8_playRound {l : Launch} {G : va_G} {cy : Nat → ClassId} {B nT : Nat} {M : Mem} {out : Int32 × Mem} (h : f_X8_playRound nT M = some out) : Met l yX8_playRound (wsU yX8_playRound cX8_playRound 3 (some .int)) rmX8_playRound (va_Pc [.ref (B + 0)] (PU G B cy nT M)) (Qi G B cy nT out.1 out.2) 0 0 (FB B) := by
  refine r_met (by decide +kernel) RX8 rfl (Nat.le_of_ble_eq_true rfl) ?_
  intro p e s m args below meth c ls X hP hl
  have hl : lv_has ls 3 [(0, .ref (B + 0))] := hl
  have hS : va_S (FB B) s.heap s.heap [] := va_S.rf
  obtain ⟨hx, hb, hr, hml, hown, hts, hKn, hlk⟩ := id X
  unfold f_X8_playRound at h
  refine lv_aload_n hx hb dX8_playRound_0 rfl (lv_at hl 0 rfl) ?_
  refine lv_dup hx hb dX8_playRound_1 rfl ?_
  refine gf_X8_249 X hP dX8_playRound_2 ?_
  refine lv_iconst (v := 1) hx hb dX8_playRound_5 (by decide) ?_
  refine lv_iadd hx hb dX8_playRound_6 ?_
  obtain ⟨M_1, e_1, h⟩ := lt_el h
  refine pf_X8_249 X hP hS e_1 dX8_playRound_7 (fun H locs hP hS => ?_)
  refine lv_aload_n hx hb dX8_playRound_10 rfl (lv_at hl 0 rfl) ?_
  refine lv_lconst (v := 0) hx hb dX8_playRound_11 rfl ?_
  obtain ⟨M_2, e_2, h⟩ := lt_el h
  refine pf_X8_295 X hP hS e_2 dX8_playRound_12 (fun H locs hP hS => ?_)
  refine lv_aload_n hx hb dX8_playRound_15 rfl (lv_at hl 0 rfl) ?_
  obtain ⟨r_1, h_1, h⟩ := bd_el h
  refine cl_i (rn_V (C := RX8) (ci := 8) X hP (c_X8_tryLeastReady h_1) kq_0 rfl k_343 k_344 k_879 k_1 k_345 rfl hd_X8_tryLeastReady (n := 0) ⟨⟨rfl, rfl⟩, Nat.le_of_ble_eq_true rfl, Nat.le_of_ble_eq_true rfl⟩ (As := []) (rest := []) rfl hl.1 rfl (Nat.le_of_ble_eq_true rfl) dX8_playRound_16 ⟨Nat.zero_le _, Nat.zero_le _⟩) hS (fun H locs hP hS => ?_)
  refine lv_istore_n (lv' := [(1, .int r_1.1), (0, .ref (B + 0))]) hx hb dX8_playRound_19 rfl hl (by decide) rfl (fun ls hl => ?_)
  refine lv_iconst (v := 0) hx hb dX8_playRound_20 (by decide) ?_
  refine lv_istore_n (lv' := [(2, .int 0), (1, .int r_1.1), (0, .ref (B + 0))]) hx hb dX8_playRound_21 rfl hl (by decide) rfl (fun ls hl => ?_)
  exact w_X8_playRound_22 X FU _ _ _ _ _ _ hP hS (lv_sub hl [2, 1, 0] rfl) h
abbrev rmX8_run : Room := { frames := 24, cells := 0, slots := 0, locals := 814 }
def f_X8_run_18 (nT : Nat) : Nat → Mem → Int32 → Int32 → Int32 → Option (Int32 × Mem)
  | 0, _, _, _, _ => none
  | n + 1, M, v1, v2, v3 => if v1 ≤ v3 then (some (v2, M)) else (Option.bind (f_X8_isReadyBelow nT M (gI M 0 8)) fun r_1 => if (bI r_1) = 0 then (some (v2, M)) else (Option.bind (f_X8_playRound nT M) fun r_2 => lt (v2 + r_2.1) fun v_1 => lt (v3 + 1) fun v_2 => (f_X8_run_18 nT n) r_2.2 v1 v_1 v_2))
set_option maxRecDepth 100000 in
set_option maxHeartbeats 4000000 in
theorem w_X8_run_18 (X : Cx p s m args meth c cX8_run RX8 4 (some .int) G cy) {out : Int32 × Mem} : ∀ n : Nat, ∀ (H : Heap) (locs : List Loc) (ls : Array Slot) (M : Mem) (v1 : Int32) (v2 : Int32) (v3 : Int32), Pic G B cy nT M H → va_S (FB B) s.heap H locs → lv_has ls 4 [(0, .ref (B + 0)), (1, .int v1), (2, .int v2), (3, .int v3)] → f_X8_run_18 nT n M v1 v2 v3 = some out → W p l e rmX8_run s m args below meth c H locs 0 0 (MQ below (Qi G B cy nT out.1 out.2) args s 0 0 (FB B)) (F0 m 18 ls []) := by
  obtain ⟨hx, hb, hr, hml, hown, hts, hKn, hlk⟩ := id X
  intro n
  induction n with
  | zero =>
    intro H locs ls M v1 v2 v3 hP hS hl h
    cases h
  | succ n ih =>
    intro H locs ls M v1 v2 v3 hP hS hl h
    rw [f_X8_run_18] at h
    refine lv_iload_n hx hb dX8_run_18 rfl (lv_at hl 3 rfl) ?_
    refine lv_iload_n hx hb dX8_run_19 rfl (lv_at hl 1 rfl) ?_
    refine lv_icmp_ge (tgt := 47) hx hb dX8_run_20 (by decide) (fun hc => ?_) (fun hc => ?_)
    · replace h := if_elp h hc
      refine lv_iload_n hx hb dX8_run_47 rfl (lv_at hl 2 rfl) ?_
      exact r_iret X hP hS (pr1 h) (pr2 h) dX8_run_48
    · replace h := if_eln h hc
      refine lv_aload_n hx hb dX8_run_23 rfl (lv_at hl 0 rfl) ?_
      refine lv_aload_n hx hb dX8_run_24 rfl (lv_at hl 0 rfl) ?_
      refine gf_X8_151 X hP dX8_run_25 ?_
      obtain ⟨r_1, h_1, h⟩ := bd_el h
      refine cl_i (rn_V (C := RX8) (ci := 8) X hP (c_X8_isReadyBelow h_1) kq_0 rfl k_337 k_338 k_877 k_1 k_339 rfl hd_X8_isReadyBelow (n := 1) ⟨⟨rfl, rfl⟩, Nat.le_of_ble_eq_true rfl, Nat.le_of_ble_eq_true rfl⟩ (As := [.int (gI M 0 8)]) (rest := []) rfl hl.1 rfl (Nat.le_of_ble_eq_true rfl) dX8_run_28 ⟨Nat.zero_le _, Nat.zero_le _⟩) hS (fun H locs hP hS => ?_)
      refine lv_if_eq (tgt := 47) hx hb dX8_run_31 (by decide) (fun hc => ?_) (fun hc => ?_)
      · replace h := if_elp h hc
        refine lv_iload_n hx hb dX8_run_47 rfl (lv_at hl 2 rfl) ?_
        exact r_iret X hP hS (pr1 h) (pr2 h) dX8_run_48
      · replace h := if_eln h hc
        refine lv_iload_n hx hb dX8_run_34 rfl (lv_at hl 2 rfl) ?_
        refine lv_aload_n hx hb dX8_run_35 rfl (lv_at hl 0 rfl) ?_
        obtain ⟨r_2, h_2, h⟩ := bd_el h
        refine cl_i (rn_V (C := RX8) (ci := 8) X hP (c_X8_playRound h_2) kq_0 rfl k_340 k_341 k_878 k_1 k_342 rfl hd_X8_playRound (n := 0) ⟨⟨rfl, rfl⟩, Nat.le_of_ble_eq_true rfl, Nat.le_of_ble_eq_true rfl⟩ (As := []) (rest := [.int v2]) rfl hl.1 rfl (Nat.le_of_ble_eq_true rfl) dX8_run_36 ⟨Nat.zero_le _, Nat.zero_le _⟩) hS (fun H locs hP hS => ?_)
        refine lv_iadd hx hb dX8_run_39 ?_
        obtain ⟨v_1, e_1, h⟩ := lt_el h
        refine r_topi e_1 ?_
        refine lv_istore_n (lv' := [(2, .int v_1), (0, .ref (B + 0)), (1, .int v1), (3, .int v3)]) hx hb dX8_run_40 rfl hl (by decide) rfl (fun ls hl => ?_)
        obtain ⟨v_2, e_2, h⟩ := lt_el h
        refine lv_iinc (v := v_2) (lv' := [(3, .int v_2), (2, .int v_1), (0, .ref (B + 0)), (1, .int v1)]) hx hb dX8_run_41 hl (k := 3) rfl (by rw [e_2]; rfl) (by decide) rfl (fun ls hl => ?_)
        refine lv_goto (tgt := 18) hx hb dX8_run_44 (by decide) ?_
        exact ih _ _ _ _ _ _ _ hP hS (lv_sub hl [2, 3, 1, 0] rfl) h
def f_X8_run (nT : Nat) (M : Mem) (a1 : Int32) : Option (Int32 × Mem) :=
  if a1 < 1 then (some ((-2), M)) else (if a1 ≤ 100 then (f_X8_run_18 nT FU M a1 0 0) else (some ((-2), M)))
set_option maxRecDepth 100000 in
set_option maxHeartbeats 4000000 in
theorem c_X8_run {l : Launch} {G : va_G} {cy : Nat → ClassId} {B nT : Nat} {M : Mem} {a1 : Int32} {out : Int32 × Mem} (h : f_X8_run nT M a1 = some out) : Met l yX8_run (wsU yX8_run cX8_run 4 (some .int)) rmX8_run (va_Pc [.ref (B + 0), .int a1] (PU G B cy nT M)) (Qi G B cy nT out.1 out.2) 0 0 (FB B) := by
  refine r_met (by decide +kernel) RX8 rfl (Nat.le_of_ble_eq_true rfl) ?_
  intro p e s m args below meth c ls X hP hl
  have hl : lv_has ls 4 [(0, .ref (B + 0)), (1, .int a1)] := hl
  have hS : va_S (FB B) s.heap s.heap [] := va_S.rf
  obtain ⟨hx, hb, hr, hml, hown, hts, hKn, hlk⟩ := id X
  unfold f_X8_run at h
  refine lv_iload_n hx hb dX8_run_0 rfl (lv_at hl 1 rfl) ?_
  refine lv_iconst (v := 1) hx hb dX8_run_1 (by decide) ?_
  refine lv_icmp_lt (tgt := 11) hx hb dX8_run_2 (by decide) (fun hc => ?_) (fun hc => ?_)
  · replace h := if_elp h hc
    refine lv_bipush (v := (-2)) hx hb dX8_run_11 (by decide) ?_
    exact r_iret X hP hS (pr1 h) (pr2 h) dX8_run_13
  · replace h := if_eln h hc
    refine lv_iload_n hx hb dX8_run_5 rfl (lv_at hl 1 rfl) ?_
    refine lv_bipush (v := 100) hx hb dX8_run_6 (by decide) ?_
    refine lv_icmp_le (tgt := 14) hx hb dX8_run_8 (by decide) (fun hc => ?_) (fun hc => ?_)
    · replace h := if_elp h hc
      refine lv_iconst (v := 0) hx hb dX8_run_14 (by decide) ?_
      refine lv_istore_n (lv' := [(2, .int 0), (0, .ref (B + 0)), (1, .int a1)]) hx hb dX8_run_15 rfl hl (by decide) rfl (fun ls hl => ?_)
      refine lv_iconst (v := 0) hx hb dX8_run_16 (by decide) ?_
      refine lv_istore_n (lv' := [(3, .int 0), (2, .int 0), (0, .ref (B + 0)), (1, .int a1)]) hx hb dX8_run_17 rfl hl (by decide) rfl (fun ls hl => ?_)
      exact w_X8_run_18 X FU _ _ _ _ _ _ _ hP hS (lv_sub hl [2, 3, 1, 0] rfl) h
    · replace h := if_eln h hc
      refine lv_bipush (v := (-2)) hx hb dX8_run_11 (by decide) ?_
      exact r_iret X hP hS (pr1 h) (pr2 h) dX8_run_13
end METHS

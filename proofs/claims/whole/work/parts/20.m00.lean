section METHS
variable {p : Program} {l : Launch} {e : Env} {s : State} {m : MethodId} {args : Array Value} {below : List Frame} {meth : Method} {c : Code} {H : Heap} {locs : List Loc} {G : va_G} {cy : Nat → ClassId} {B nT : Nat} {ls : Array Slot}
abbrev rmX1_takeAll : Room := { frames := 1, cells := 0, slots := 0, locals := 60 }
def f_X1_takeAll (q : Nat) (q1 : Nat) (M : Mem) : Option (Mem) :=
  gd (okC 0 0 40 40 40) <| lt (cpI M (q1 + 1) (0 : Int32).toNatClampNeg (q + 1) (0 : Int32).toNatClampNeg (40 : Int32).toNatClampNeg) fun M_1 => gd (okC 0 0 40 40 40) <| lt (cpL M_1 (q1 + 2) (0 : Int32).toNatClampNeg (q + 2) (0 : Int32).toNatClampNeg (40 : Int32).toNatClampNeg) fun M_2 => gd (okC 0 0 40 40 40) <| lt (cpI M_2 (q1 + 3) (0 : Int32).toNatClampNeg (q + 3) (0 : Int32).toNatClampNeg (40 : Int32).toNatClampNeg) fun M_3 => gd (okC 0 0 40 40 40) <| lt (cpI M_3 (q1 + 4) (0 : Int32).toNatClampNeg (q + 4) (0 : Int32).toNatClampNeg (40 : Int32).toNatClampNeg) fun M_4 => some M_4
set_option maxRecDepth 100000 in
set_option maxHeartbeats 4000000 in
theorem c_X1_takeAll {l : Launch} {G : va_G} {cy : Nat → ClassId} {B nT : Nat} {q : Nat} (hq : isC q) {q1 : Nat} (hq1 : isC q1) {M : Mem} {out : Mem} (h : f_X1_takeAll q q1 M = some out) : Met l yX1_takeAll (wsU yX1_takeAll cX1_takeAll 2 none) rmX1_takeAll (va_Pc [.ref (B + q), .ref (B + q1)] (PU G B cy nT M)) (Qv G B cy nT out) 0 0 (FB B) := by
  refine r_met (by decide +kernel) RX1 rfl (Nat.le_of_ble_eq_true rfl) ?_
  intro p e s m args below meth c ls X hP hl
  have hl : lv_has ls 2 [(0, .ref (B + q)), (1, .ref (B + q1))] := hl
  have hS : va_S (FB B) s.heap s.heap [] := va_S.rf
  obtain ⟨hx, hb, hr, hml, hown, hts, hKn, hlk⟩ := id X
  unfold f_X1_takeAll at h
  refine lv_aload_n hx hb dX1_takeAll_0 rfl (lv_at hl 1 rfl) ?_
  refine gf_X1_9 X hP (kC_0 hq1) dX1_takeAll_1 ?_
  refine lv_iconst (v := 0) hx hb dX1_takeAll_4 (by decide) ?_
  refine lv_aload_n hx hb dX1_takeAll_5 rfl (lv_at hl 0 rfl) ?_
  refine gf_X1_9 X hP (kC_0 hq) dX1_takeAll_6 ?_
  refine lv_iconst (v := 0) hx hb dX1_takeAll_9 (by decide) ?_
  refine lv_bipush (v := 40) hx hb dX1_takeAll_10 (by decide) ?_
  obtain ⟨g_1, h⟩ := gd_el h
  obtain ⟨M_1, e_1, h⟩ := lt_el h
  refine r_cpI X hl.1 hP hS k_357 k_359 k_358 k_11 (kC_1 hq1) (kC_1 hq) g_1 e_1 (Nat.le_of_ble_eq_true rfl) (by decide +kernel) dX1_takeAll_12 (fun H locs hP hS => ?_)
  refine lv_aload_n hx hb dX1_takeAll_15 rfl (lv_at hl 1 rfl) ?_
  refine gf_X1_15 X hP (kC_0 hq1) dX1_takeAll_16 ?_
  refine lv_iconst (v := 0) hx hb dX1_takeAll_19 (by decide) ?_
  refine lv_aload_n hx hb dX1_takeAll_20 rfl (lv_at hl 0 rfl) ?_
  refine gf_X1_15 X hP (kC_0 hq) dX1_takeAll_21 ?_
  refine lv_iconst (v := 0) hx hb dX1_takeAll_24 (by decide) ?_
  refine lv_bipush (v := 40) hx hb dX1_takeAll_25 (by decide) ?_
  obtain ⟨g_2, h⟩ := gd_el h
  obtain ⟨M_2, e_2, h⟩ := lt_el h
  refine r_cpL X hl.1 hP hS k_357 k_359 k_358 k_11 (kC_2 hq1) (kC_2 hq) g_2 e_2 (Nat.le_of_ble_eq_true rfl) (by decide +kernel) dX1_takeAll_27 (fun H locs hP hS => ?_)
  refine lv_aload_n hx hb dX1_takeAll_30 rfl (lv_at hl 1 rfl) ?_
  refine gf_X1_19 X hP (kC_0 hq1) dX1_takeAll_31 ?_
  refine lv_iconst (v := 0) hx hb dX1_takeAll_34 (by decide) ?_
  refine lv_aload_n hx hb dX1_takeAll_35 rfl (lv_at hl 0 rfl) ?_
  refine gf_X1_19 X hP (kC_0 hq) dX1_takeAll_36 ?_
  refine lv_iconst (v := 0) hx hb dX1_takeAll_39 (by decide) ?_
  refine lv_bipush (v := 40) hx hb dX1_takeAll_40 (by decide) ?_
  obtain ⟨g_3, h⟩ := gd_el h
  obtain ⟨M_3, e_3, h⟩ := lt_el h
  refine r_cpI X hl.1 hP hS k_357 k_359 k_358 k_11 (kC_3 hq1) (kC_3 hq) g_3 e_3 (Nat.le_of_ble_eq_true rfl) (by decide +kernel) dX1_takeAll_42 (fun H locs hP hS => ?_)
  refine lv_aload_n hx hb dX1_takeAll_45 rfl (lv_at hl 1 rfl) ?_
  refine gf_X1_22 X hP (kC_0 hq1) dX1_takeAll_46 ?_
  refine lv_iconst (v := 0) hx hb dX1_takeAll_49 (by decide) ?_
  refine lv_aload_n hx hb dX1_takeAll_50 rfl (lv_at hl 0 rfl) ?_
  refine gf_X1_22 X hP (kC_0 hq) dX1_takeAll_51 ?_
  refine lv_iconst (v := 0) hx hb dX1_takeAll_54 (by decide) ?_
  refine lv_bipush (v := 40) hx hb dX1_takeAll_55 (by decide) ?_
  obtain ⟨g_4, h⟩ := gd_el h
  obtain ⟨M_4, e_4, h⟩ := lt_el h
  refine r_cpI X hl.1 hP hS k_357 k_359 k_358 k_11 (kC_4 hq1) (kC_4 hq) g_4 e_4 (Nat.le_of_ble_eq_true rfl) (by decide +kernel) dX1_takeAll_57 (fun H locs hP hS => ?_)
  exact r_vret X hP hS (pr0 h) dX1_takeAll_60
abbrev rmX0_begin : Room := { frames := 2, cells := 0, slots := 0, locals := 81 }
def f_X0_begin (q : Nat) (q1 : Nat) (M : Mem) : Option (Mem) :=
  Option.bind (f_X1_takeAll (q + 1) q1 M) fun r_1 => lt (sI r_1 q 4 0) fun M_1 => lt (sI M_1 q 5 0) fun M_2 => lt (sL M_2 q 6 0) fun M_3 => lt (sL M_3 q 7 0) fun M_4 => lt (sL M_4 q 8 0) fun M_5 => lt (sI M_5 q 9 0) fun M_6 => lt (sI M_6 q 10 0) fun M_7 => lt (sI M_7 q 13 0) fun M_8 => lt (sI M_8 q 15 0) fun M_9 => some M_9
set_option maxRecDepth 100000 in
set_option maxHeartbeats 4000000 in
theorem c_X0_begin {l : Launch} {G : va_G} {cy : Nat → ClassId} {B nT : Nat} {q : Nat} (hq : isA q) {q1 : Nat} (hq1 : isC q1) {M : Mem} {out : Mem} (h : f_X0_begin q q1 M = some out) : Met l yX0_begin (wsU yX0_begin cX0_begin 2 none) rmX0_begin (va_Pc [.ref (B + q), .ref (B + q1)] (PU G B cy nT M)) (Qv G B cy nT out) 0 0 (FB B) := by
  refine r_met (by decide +kernel) RX0 rfl (Nat.le_of_ble_eq_true rfl) ?_
  intro p e s m args below meth c ls X hP hl
  have hl : lv_has ls 2 [(0, .ref (B + q)), (1, .ref (B + q1))] := hl
  have hS : va_S (FB B) s.heap s.heap [] := va_S.rf
  obtain ⟨hx, hb, hr, hml, hown, hts, hKn, hlk⟩ := id X
  unfold f_X0_begin at h
  refine lv_aload_n hx hb dX0_begin_0 rfl (lv_at hl 0 rfl) ?_
  refine gf_X0_12 X hP (kA_0 hq) dX0_begin_1 ?_
  refine lv_aload_n hx hb dX0_begin_4 rfl (lv_at hl 1 rfl) ?_
  obtain ⟨r_1, h_1, h⟩ := bd_el h
  refine cl_v (rn_V (C := RX1) (ci := 1) X hP (c_X1_takeAll (kA_own hq) hq1 h_1) (kC_0 (kA_own hq)) rfl k_353 k_354 k_355 k_3 k_356 rfl hd_X1_takeAll (n := 1) ⟨⟨rfl, rfl⟩, Nat.le_of_ble_eq_true rfl, Nat.le_of_ble_eq_true rfl⟩ (As := [.ref (B + q1)]) (rest := []) rfl hl.1 rfl (Nat.le_of_ble_eq_true rfl) dX0_begin_5 ⟨Nat.zero_le _, Nat.zero_le _⟩) hS (fun H locs hP hS => ?_)
  refine lv_aload_n hx hb dX0_begin_8 rfl (lv_at hl 0 rfl) ?_
  refine lv_iconst (v := 0) hx hb dX0_begin_9 (by decide) ?_
  obtain ⟨M_1, e_1, h⟩ := lt_el h
  refine pf_X0_54 X hP hS (kA_0 hq) e_1 dX0_begin_10 (fun H locs hP hS => ?_)
  refine lv_aload_n hx hb dX0_begin_13 rfl (lv_at hl 0 rfl) ?_
  refine lv_iconst (v := 0) hx hb dX0_begin_14 (by decide) ?_
  obtain ⟨M_2, e_2, h⟩ := lt_el h
  refine pf_X0_57 X hP hS (kA_0 hq) e_2 dX0_begin_15 (fun H locs hP hS => ?_)
  refine lv_aload_n hx hb dX0_begin_18 rfl (lv_at hl 0 rfl) ?_
  refine lv_lconst (v := 0) hx hb dX0_begin_19 rfl ?_
  obtain ⟨M_3, e_3, h⟩ := lt_el h
  refine pf_X0_60 X hP hS (kA_0 hq) e_3 dX0_begin_20 (fun H locs hP hS => ?_)
  refine lv_aload_n hx hb dX0_begin_23 rfl (lv_at hl 0 rfl) ?_
  refine lv_lconst (v := 0) hx hb dX0_begin_24 rfl ?_
  obtain ⟨M_4, e_4, h⟩ := lt_el h
  refine pf_X0_64 X hP hS (kA_0 hq) e_4 dX0_begin_25 (fun H locs hP hS => ?_)
  refine lv_aload_n hx hb dX0_begin_28 rfl (lv_at hl 0 rfl) ?_
  refine lv_lconst (v := 0) hx hb dX0_begin_29 rfl ?_
  obtain ⟨M_5, e_5, h⟩ := lt_el h
  refine pf_X0_67 X hP hS (kA_0 hq) e_5 dX0_begin_30 (fun H locs hP hS => ?_)
  refine lv_aload_n hx hb dX0_begin_33 rfl (lv_at hl 0 rfl) ?_
  refine lv_iconst (v := 0) hx hb dX0_begin_34 (by decide) ?_
  obtain ⟨M_6, e_6, h⟩ := lt_el h
  refine pf_X0_70 X hP hS (kA_0 hq) e_6 dX0_begin_35 (fun H locs hP hS => ?_)
  refine lv_aload_n hx hb dX0_begin_38 rfl (lv_at hl 0 rfl) ?_
  refine lv_iconst (v := 0) hx hb dX0_begin_39 (by decide) ?_
  obtain ⟨M_7, e_7, h⟩ := lt_el h
  refine pf_X0_73 X hP hS (kA_0 hq) e_7 dX0_begin_40 (fun H locs hP hS => ?_)
  refine lv_aload_n hx hb dX0_begin_43 rfl (lv_at hl 0 rfl) ?_
  refine lv_iconst (v := 0) hx hb dX0_begin_44 (by decide) ?_
  obtain ⟨M_8, e_8, h⟩ := lt_el h
  refine pf_X0_76 X hP hS (kA_0 hq) e_8 dX0_begin_45 (fun H locs hP hS => ?_)
  refine lv_aload_n hx hb dX0_begin_48 rfl (lv_at hl 0 rfl) ?_
  refine lv_iconst (v := 0) hx hb dX0_begin_49 (by decide) ?_
  obtain ⟨M_9, e_9, h⟩ := lt_el h
  refine pf_X0_79 X hP hS (kA_0 hq) e_9 dX0_begin_50 (fun H locs hP hS => ?_)
  exact r_vret X hP hS (pr0 h) dX0_begin_53
abbrev rmX0_isUndone : Room := { frames := 0, cells := 0, slots := 0, locals := 0 }
def f_X0_isUndone_40 : Option (Bool) :=
  some true
set_option maxRecDepth 100000 in
set_option maxHeartbeats 4000000 in
theorem w_X0_isUndone_40 (X : Cx p s m args meth c cX0_isUndone RX0 2 (some .boolean) G cy) {M : Mem} {out : Bool} (hP : Pic G B cy nT M H) (hS : va_S (FB B) s.heap H locs) (hl : lv_has ls 2 []) (h : f_X0_isUndone_40 = some out) : W p l e rmX0_isUndone s m args below meth c H locs 0 0 (MQ below (Qi G B cy nT (bI out) M) args s 0 0 (FB B)) (F0 m 40 ls []) := by
  obtain ⟨hx, hb, hr, hml, hown, hts, hKn, hlk⟩ := id X
  unfold f_X0_isUndone_40 at h
  refine lv_iconst (v := 1) hx hb dX0_isUndone_40 (by decide) ?_
  refine lv_goto (tgt := 45) hx hb dX0_isUndone_41 (by decide) ?_
  exact r_zret X hP hS rfl (prz h) rfl dX0_isUndone_45
def f_X0_isUndone (a0 : Int32) (a1 : Int32) : Option (Bool) :=
  if a0 = 17 then (if a1 = 0 then (some false) else (if a1 = 11 then (some false) else (if a1 = 10 then (some false) else (some true)))) else (if a1 = 11 then (f_X0_isUndone_40) else (if a1 = 8 then (f_X0_isUndone_40) else (some false)))
set_option maxRecDepth 100000 in
set_option maxHeartbeats 4000000 in
theorem c_X0_isUndone {l : Launch} {G : va_G} {cy : Nat → ClassId} {B nT : Nat} {M : Mem} {a0 : Int32} {a1 : Int32} {out : Bool} (h : f_X0_isUndone a0 a1 = some out) : Met l yX0_isUndone (wsU yX0_isUndone cX0_isUndone 2 (some .boolean)) rmX0_isUndone (va_Pc [.int a0, .int a1] (PU G B cy nT M)) (Qi G B cy nT (bI out) M) 0 0 (FB B) := by
  refine r_met (by decide +kernel) RX0 rfl (Nat.le_of_ble_eq_true rfl) ?_
  intro p e s m args below meth c ls X hP hl
  have hl : lv_has ls 2 [(0, .int a0), (1, .int a1)] := hl
  have hS : va_S (FB B) s.heap s.heap [] := va_S.rf
  obtain ⟨hx, hb, hr, hml, hown, hts, hKn, hlk⟩ := id X
  unfold f_X0_isUndone at h
  refine lv_iload_n hx hb dX0_isUndone_0 rfl (lv_at hl 0 rfl) ?_
  refine lv_bipush (v := 17) hx hb dX0_isUndone_1 (by decide) ?_
  refine lv_icmp_ne (tgt := 28) hx hb dX0_isUndone_3 (by decide) (fun hc => ?_) (fun hc => ?_)
  · replace h := if_eln h hc
    refine lv_iload_n hx hb dX0_isUndone_28 rfl (lv_at hl 1 rfl) ?_
    refine lv_bipush (v := 11) hx hb dX0_isUndone_29 (by decide) ?_
    refine lv_icmp_eq (tgt := 40) hx hb dX0_isUndone_31 (by decide) (fun hc => ?_) (fun hc => ?_)
    · replace h := if_elp h hc
      exact w_X0_isUndone_40 X hP hS (lv_sub hl [] rfl) h
    · replace h := if_eln h hc
      refine lv_iload_n hx hb dX0_isUndone_34 rfl (lv_at hl 1 rfl) ?_
      refine lv_bipush (v := 8) hx hb dX0_isUndone_35 (by decide) ?_
      refine lv_icmp_ne (tgt := 44) hx hb dX0_isUndone_37 (by decide) (fun hc => ?_) (fun hc => ?_)
      · replace h := if_eln h hc
        refine lv_iconst (v := 0) hx hb dX0_isUndone_44 (by decide) ?_
        exact r_zret X hP hS rfl (prz h) rfl dX0_isUndone_45
      · replace h := if_elp h hc
        exact w_X0_isUndone_40 X hP hS (lv_sub hl [] rfl) h
  · replace h := if_elp h hc
    refine lv_iload_n hx hb dX0_isUndone_6 rfl (lv_at hl 1 rfl) ?_
    refine lv_if_eq (tgt := 26) hx hb dX0_isUndone_7 (by decide) (fun hc => ?_) (fun hc => ?_)
    · replace h := if_elp h hc
      refine lv_iconst (v := 0) hx hb dX0_isUndone_26 (by decide) ?_
      exact r_zret X hP hS rfl (prz h) rfl dX0_isUndone_27
    · replace h := if_eln h hc
      refine lv_iload_n hx hb dX0_isUndone_10 rfl (lv_at hl 1 rfl) ?_
      refine lv_bipush (v := 11) hx hb dX0_isUndone_11 (by decide) ?_
      refine lv_icmp_eq (tgt := 26) hx hb dX0_isUndone_13 (by decide) (fun hc => ?_) (fun hc => ?_)
      · replace h := if_elp h hc
        refine lv_iconst (v := 0) hx hb dX0_isUndone_26 (by decide) ?_
        exact r_zret X hP hS rfl (prz h) rfl dX0_isUndone_27
      · replace h := if_eln h hc
        refine lv_iload_n hx hb dX0_isUndone_16 rfl (lv_at hl 1 rfl) ?_
        refine lv_bipush (v := 10) hx hb dX0_isUndone_17 (by decide) ?_
        refine lv_icmp_eq (tgt := 26) hx hb dX0_isUndone_19 (by decide) (fun hc => ?_) (fun hc => ?_)
        · replace h := if_elp h hc
          refine lv_iconst (v := 0) hx hb dX0_isUndone_26 (by decide) ?_
          exact r_zret X hP hS rfl (prz h) rfl dX0_isUndone_27
        · replace h := if_eln h hc
          refine lv_iconst (v := 1) hx hb dX0_isUndone_22 (by decide) ?_
          refine lv_goto (tgt := 27) hx hb dX0_isUndone_23 (by decide) ?_
          exact r_zret X hP hS rfl (prz h) rfl dX0_isUndone_27
abbrev rmX0_mark : Room := { frames := 2, cells := 0, slots := 0, locals := 81 }
def f_X0_mark (q : Nat) (q1 : Nat) (M : Mem) : Option (Mem) :=
  Option.bind (f_X1_takeAll (q1 + 1) (q + 1) M) fun r_1 => lt (sL r_1 q1 1 (gL r_1 q 6)) fun M_1 => lt (sL M_1 q1 2 (gL M_1 q 8)) fun M_2 => lt (sI M_2 q1 3 (gI M_2 q 13)) fun M_3 => lt (sI M_3 q1 4 (gI M_3 q 15)) fun M_4 => some M_4
set_option maxRecDepth 100000 in
set_option maxHeartbeats 4000000 in
theorem c_X0_mark {l : Launch} {G : va_G} {cy : Nat → ClassId} {B nT : Nat} {q : Nat} (hq : isA q) {q1 : Nat} (hq1 : isM q1) {M : Mem} {out : Mem} (h : f_X0_mark q q1 M = some out) : Met l yX0_mark (wsU yX0_mark cX0_mark 2 none) rmX0_mark (va_Pc [.ref (B + q), .ref (B + q1)] (PU G B cy nT M)) (Qv G B cy nT out) 0 0 (FB B) := by
  refine r_met (by decide +kernel) RX0 rfl (Nat.le_of_ble_eq_true rfl) ?_
  intro p e s m args below meth c ls X hP hl
  have hl : lv_has ls 2 [(0, .ref (B + q)), (1, .ref (B + q1))] := hl
  have hS : va_S (FB B) s.heap s.heap [] := va_S.rf
  obtain ⟨hx, hb, hr, hml, hown, hts, hKn, hlk⟩ := id X
  unfold f_X0_mark at h
  refine lv_aload_n hx hb dX0_mark_0 rfl (lv_at hl 1 rfl) ?_
  refine gf_X0_122 X hP (kM_0 hq1) dX0_mark_1 ?_
  refine lv_aload_n hx hb dX0_mark_4 rfl (lv_at hl 0 rfl) ?_
  refine gf_X0_12 X hP (kA_0 hq) dX0_mark_5 ?_
  obtain ⟨r_1, h_1, h⟩ := bd_el h
  refine cl_v (rn_V (C := RX1) (ci := 1) X hP (c_X1_takeAll (kM_own hq1) (kA_own hq) h_1) (kC_0 (kM_own hq1)) rfl k_353 k_354 k_355 k_3 k_356 rfl hd_X1_takeAll (n := 1) ⟨⟨rfl, rfl⟩, Nat.le_of_ble_eq_true rfl, Nat.le_of_ble_eq_true rfl⟩ (As := [.ref (B + (q + 1))]) (rest := []) rfl hl.1 rfl (Nat.le_of_ble_eq_true rfl) dX0_mark_8 ⟨Nat.zero_le _, Nat.zero_le _⟩) hS (fun H locs hP hS => ?_)
  refine lv_aload_n hx hb dX0_mark_11 rfl (lv_at hl 1 rfl) ?_
  refine lv_aload_n hx hb dX0_mark_12 rfl (lv_at hl 0 rfl) ?_
  refine gf_X0_60 X hP (kA_0 hq) dX0_mark_13 ?_
  obtain ⟨M_1, e_1, h⟩ := lt_el h
  refine pf_X0_119 X hP hS (kM_0 hq1) e_1 dX0_mark_16 (fun H locs hP hS => ?_)
  refine lv_aload_n hx hb dX0_mark_19 rfl (lv_at hl 1 rfl) ?_
  refine lv_aload_n hx hb dX0_mark_20 rfl (lv_at hl 0 rfl) ?_
  refine gf_X0_67 X hP (kA_0 hq) dX0_mark_21 ?_
  obtain ⟨M_2, e_2, h⟩ := lt_el h
  refine pf_X0_123 X hP hS (kM_0 hq1) e_2 dX0_mark_24 (fun H locs hP hS => ?_)
  refine lv_aload_n hx hb dX0_mark_27 rfl (lv_at hl 1 rfl) ?_
  refine lv_aload_n hx hb dX0_mark_28 rfl (lv_at hl 0 rfl) ?_
  refine gf_X0_76 X hP (kA_0 hq) dX0_mark_29 ?_
  obtain ⟨M_3, e_3, h⟩ := lt_el h
  refine pf_X0_124 X hP hS (kM_0 hq1) e_3 dX0_mark_32 (fun H locs hP hS => ?_)
  refine lv_aload_n hx hb dX0_mark_35 rfl (lv_at hl 1 rfl) ?_
  refine lv_aload_n hx hb dX0_mark_36 rfl (lv_at hl 0 rfl) ?_
  refine gf_X0_79 X hP (kA_0 hq) dX0_mark_37 ?_
  obtain ⟨M_4, e_4, h⟩ := lt_el h
  refine pf_X0_125 X hP hS (kM_0 hq1) e_4 dX0_mark_40 (fun H locs hP hS => ?_)
  exact r_vret X hP hS (pr0 h) dX0_mark_43
abbrev rmX0_undo : Room := { frames := 2, cells := 0, slots := 0, locals := 81 }
def f_X0_undo (q : Nat) (q1 : Nat) (M : Mem) : Option (Mem) :=
  Option.bind (f_X1_takeAll (q + 1) (q1 + 1) M) fun r_1 => lt (sL r_1 q 8 (gL r_1 q1 2)) fun M_1 => lt (sI M_1 q 13 (gI M_1 q1 3)) fun M_2 => lt (sI M_2 q 15 (gI M_2 q1 4)) fun M_3 => some M_3
set_option maxRecDepth 100000 in
set_option maxHeartbeats 4000000 in
theorem c_X0_undo {l : Launch} {G : va_G} {cy : Nat → ClassId} {B nT : Nat} {q : Nat} (hq : isA q) {q1 : Nat} (hq1 : isM q1) {M : Mem} {out : Mem} (h : f_X0_undo q q1 M = some out) : Met l yX0_undo (wsU yX0_undo cX0_undo 2 none) rmX0_undo (va_Pc [.ref (B + q), .ref (B + q1)] (PU G B cy nT M)) (Qv G B cy nT out) 0 0 (FB B) := by
  refine r_met (by decide +kernel) RX0 rfl (Nat.le_of_ble_eq_true rfl) ?_
  intro p e s m args below meth c ls X hP hl
  have hl : lv_has ls 2 [(0, .ref (B + q)), (1, .ref (B + q1))] := hl
  have hS : va_S (FB B) s.heap s.heap [] := va_S.rf
  obtain ⟨hx, hb, hr, hml, hown, hts, hKn, hlk⟩ := id X
  unfold f_X0_undo at h
  refine lv_aload_n hx hb dX0_undo_0 rfl (lv_at hl 0 rfl) ?_
  refine gf_X0_12 X hP (kA_0 hq) dX0_undo_1 ?_
  refine lv_aload_n hx hb dX0_undo_4 rfl (lv_at hl 1 rfl) ?_
  refine gf_X0_122 X hP (kM_0 hq1) dX0_undo_5 ?_
  obtain ⟨r_1, h_1, h⟩ := bd_el h
  refine cl_v (rn_V (C := RX1) (ci := 1) X hP (c_X1_takeAll (kA_own hq) (kM_own hq1) h_1) (kC_0 (kA_own hq)) rfl k_353 k_354 k_355 k_3 k_356 rfl hd_X1_takeAll (n := 1) ⟨⟨rfl, rfl⟩, Nat.le_of_ble_eq_true rfl, Nat.le_of_ble_eq_true rfl⟩ (As := [.ref (B + (q1 + 1))]) (rest := []) rfl hl.1 rfl (Nat.le_of_ble_eq_true rfl) dX0_undo_8 ⟨Nat.zero_le _, Nat.zero_le _⟩) hS (fun H locs hP hS => ?_)
  refine lv_aload_n hx hb dX0_undo_11 rfl (lv_at hl 0 rfl) ?_
  refine lv_aload_n hx hb dX0_undo_12 rfl (lv_at hl 1 rfl) ?_
  refine gf_X0_123 X hP (kM_0 hq1) dX0_undo_13 ?_
  obtain ⟨M_1, e_1, h⟩ := lt_el h
  refine pf_X0_67 X hP hS (kA_0 hq) e_1 dX0_undo_16 (fun H locs hP hS => ?_)
  refine lv_aload_n hx hb dX0_undo_19 rfl (lv_at hl 0 rfl) ?_
  refine lv_aload_n hx hb dX0_undo_20 rfl (lv_at hl 1 rfl) ?_
  refine gf_X0_124 X hP (kM_0 hq1) dX0_undo_21 ?_
  obtain ⟨M_2, e_2, h⟩ := lt_el h
  refine pf_X0_76 X hP hS (kA_0 hq) e_2 dX0_undo_24 (fun H locs hP hS => ?_)
  refine lv_aload_n hx hb dX0_undo_27 rfl (lv_at hl 0 rfl) ?_
  refine lv_aload_n hx hb dX0_undo_28 rfl (lv_at hl 1 rfl) ?_
  refine gf_X0_125 X hP (kM_0 hq1) dX0_undo_29 ?_
  obtain ⟨M_3, e_3, h⟩ := lt_el h
  refine pf_X0_79 X hP hS (kA_0 hq) e_3 dX0_undo_32 (fun H locs hP hS => ?_)
  exact r_vret X hP hS (pr0 h) dX0_undo_35
abbrev rmX0_look : Room := { frames := 0, cells := 0, slots := 0, locals := 0 }
def f_X0_look (q : Nat) (M : Mem) (a1 : Int32) (a2 : Int32) : Option (Int32 × Mem) :=
  lt (sL M q 7 ((gL M q 7) ||| ((1 <<< (Int32.toInt64 a1 &&& 63)) &&& ((gL M q 8) ^^^ (-1))))) fun M_1 => gd (inR a1 40) <| if (gI M_1 (q + 1 + 1) a1.toNatClampNeg) = a2 then (some (0, M_1)) else (gd (inR a1 40) <| if (gI M_1 (q + 1 + 1) a1.toNatClampNeg) = 0 then (some (1, M_1)) else (some (3, M_1)))
set_option maxRecDepth 100000 in
set_option maxHeartbeats 4000000 in
theorem c_X0_look {l : Launch} {G : va_G} {cy : Nat → ClassId} {B nT : Nat} {q : Nat} (hq : isA q) {M : Mem} {a1 : Int32} {a2 : Int32} {out : Int32 × Mem} (h : f_X0_look q M a1 a2 = some out) : Met l yX0_look (wsU yX0_look cX0_look 3 (some .int)) rmX0_look (va_Pc [.ref (B + q), .int a1, .int a2] (PU G B cy nT M)) (Qi G B cy nT out.1 out.2) 0 0 (FB B) := by
  refine r_met (by decide +kernel) RX0 rfl (Nat.le_of_ble_eq_true rfl) ?_
  intro p e s m args below meth c ls X hP hl
  have hl : lv_has ls 3 [(0, .ref (B + q)), (1, .int a1), (2, .int a2)] := hl
  have hS : va_S (FB B) s.heap s.heap [] := va_S.rf
  obtain ⟨hx, hb, hr, hml, hown, hts, hKn, hlk⟩ := id X
  unfold f_X0_look at h
  refine lv_aload_n hx hb dX0_look_0 rfl (lv_at hl 0 rfl) ?_
  refine lv_dup hx hb dX0_look_1 rfl ?_
  refine gf_X0_64 X hP (kA_0 hq) dX0_look_2 ?_
  refine lv_lconst (v := 1) hx hb dX0_look_5 rfl ?_
  refine lv_iload_n hx hb dX0_look_6 rfl (lv_at hl 1 rfl) ?_
  refine lv_lshl (v := (1 <<< (Int32.toInt64 a1 &&& 63))) hx hb dX0_look_7 rfl ?_
  refine lv_aload_n hx hb dX0_look_8 rfl (lv_at hl 0 rfl) ?_
  refine gf_X0_67 X hP (kA_0 hq) dX0_look_9 ?_
  refine lv_ldc2 (v := (-1)) hx hb hown (hts _ k_385) dX0_look_12 ?_
  refine lv_lxor hx hb dX0_look_15 ?_
  refine lv_land hx hb dX0_look_16 ?_
  refine lv_lor hx hb dX0_look_17 ?_
  obtain ⟨M_1, e_1, h⟩ := lt_el h
  refine pf_X0_64 X hP hS (kA_0 hq) e_1 dX0_look_18 (fun H locs hP hS => ?_)
  refine lv_aload_n hx hb dX0_look_21 rfl (lv_at hl 0 rfl) ?_
  refine gf_X0_12 X hP (kA_0 hq) dX0_look_22 ?_
  refine gf_X0_169 X hP (kC_0 (kA_own hq)) dX0_look_25 ?_
  refine lv_iload_n hx hb dX0_look_28 rfl (lv_at hl 1 rfl) ?_
  obtain ⟨g_1, h⟩ := gd_el h
  refine r_iald X hP (kC_1 (kA_own hq)) g_1 dX0_look_29 ?_
  refine lv_iload_n hx hb dX0_look_30 rfl (lv_at hl 2 rfl) ?_
  refine lv_icmp_ne (tgt := 36) hx hb dX0_look_31 (by decide) (fun hc => ?_) (fun hc => ?_)
  · replace h := if_eln h hc
    refine lv_aload_n hx hb dX0_look_36 rfl (lv_at hl 0 rfl) ?_
    refine gf_X0_12 X hP (kA_0 hq) dX0_look_37 ?_
    refine gf_X0_169 X hP (kC_0 (kA_own hq)) dX0_look_40 ?_
    refine lv_iload_n hx hb dX0_look_43 rfl (lv_at hl 1 rfl) ?_
    obtain ⟨g_2, h⟩ := gd_el h
    refine r_iald X hP (kC_1 (kA_own hq)) g_2 dX0_look_44 ?_
    refine lv_if_ne (tgt := 52) hx hb dX0_look_45 (by decide) (fun hc => ?_) (fun hc => ?_)
    · replace h := if_eln h hc
      refine lv_iconst (v := 3) hx hb dX0_look_52 (by decide) ?_
      exact r_iret X hP hS (pr1 h) (pr2 h) dX0_look_53
    · replace h := if_elp h hc
      refine lv_iconst (v := 1) hx hb dX0_look_48 (by decide) ?_
      refine lv_goto (tgt := 53) hx hb dX0_look_49 (by decide) ?_
      exact r_iret X hP hS (pr1 h) (pr2 h) dX0_look_53
  · replace h := if_elp h hc
    refine lv_iconst (v := 0) hx hb dX0_look_34 (by decide) ?_
    exact r_iret X hP hS (pr1 h) (pr2 h) dX0_look_35
abbrev rmX0_add : Room := { frames := 0, cells := 0, slots := 0, locals := 0 }
def f_X0_add (q : Nat) (M : Mem) (a1 : Int64) : Option (Int32 × Mem) :=
  lt ((gL M q 6) + a1) fun v_1 => if 0 ≤ (((gL M q 6) ^^^ v_1) &&& (a1 ^^^ v_1)) then (lt (sL M q 6 v_1) fun M_1 => some (0, M_1)) else (some (5, M))
set_option maxRecDepth 100000 in
set_option maxHeartbeats 4000000 in
theorem c_X0_add {l : Launch} {G : va_G} {cy : Nat → ClassId} {B nT : Nat} {q : Nat} (hq : isA q) {M : Mem} {a1 : Int64} {out : Int32 × Mem} (h : f_X0_add q M a1 = some out) : Met l yX0_add (wsU yX0_add cX0_add 5 (some .int)) rmX0_add (va_Pc [.ref (B + q), .long a1] (PU G B cy nT M)) (Qi G B cy nT out.1 out.2) 0 0 (FB B) := by
  refine r_met (by decide +kernel) RX0 rfl (Nat.le_of_ble_eq_true rfl) ?_
  intro p e s m args below meth c ls X hP hl
  have hl : lv_has ls 5 [(0, .ref (B + q)), (1, .long a1)] := hl
  have hS : va_S (FB B) s.heap s.heap [] := va_S.rf
  obtain ⟨hx, hb, hr, hml, hown, hts, hKn, hlk⟩ := id X
  unfold f_X0_add at h
  refine lv_aload_n hx hb dX0_add_0 rfl (lv_at hl 0 rfl) ?_
  refine gf_X0_60 X hP (kA_0 hq) dX0_add_1 ?_
  refine lv_lload_n hx hb dX0_add_4 rfl (lv_at hl 1 rfl) ?_
  refine lv_ladd hx hb dX0_add_5 ?_
  obtain ⟨v_1, e_1, h⟩ := lt_el h
  refine r_topl e_1 ?_
  refine lv_lstore_n (lv' := [(3, .long v_1), (0, .ref (B + q)), (1, .long a1)]) hx hb dX0_add_6 rfl hl (by decide) rfl (fun ls hl => ?_)
  refine lv_aload_n hx hb dX0_add_7 rfl (lv_at hl 1 rfl) ?_
  refine gf_X0_60 X hP (kA_0 hq) dX0_add_8 ?_
  refine lv_lload_n hx hb dX0_add_11 rfl (lv_at hl 0 rfl) ?_
  refine lv_lxor hx hb dX0_add_12 ?_
  refine lv_lload_n hx hb dX0_add_13 rfl (lv_at hl 2 rfl) ?_
  refine lv_lload_n hx hb dX0_add_14 rfl (lv_at hl 0 rfl) ?_
  refine lv_lxor hx hb dX0_add_15 ?_
  refine lv_land hx hb dX0_add_16 ?_
  refine lv_lconst (v := 0) hx hb dX0_add_17 rfl ?_
  refine W.lcmp hx hb dX0_add_18 ?_
  refine lv_if_ge (tgt := 24) hx hb dX0_add_19 (by decide) (fun hc => ?_) (fun hc => ?_)
  · replace h := if_elp h (lc_ge.mp hc)
    refine lv_aload_n hx hb dX0_add_24 rfl (lv_at hl 1 rfl) ?_
    refine lv_lload_n hx hb dX0_add_25 rfl (lv_at hl 0 rfl) ?_
    obtain ⟨M_1, e_2, h⟩ := lt_el h
    refine pf_X0_60 X hP hS (kA_0 hq) e_2 dX0_add_26 (fun H locs hP hS => ?_)
    refine lv_iconst (v := 0) hx hb dX0_add_29 (by decide) ?_
    exact r_iret X hP hS (pr1 h) (pr2 h) dX0_add_30
  · replace h := if_eln h (fun z => hc (lc_ge.mpr z))
    refine lv_iconst (v := 5) hx hb dX0_add_22 (by decide) ?_
    exact r_iret X hP hS (pr1 h) (pr2 h) dX0_add_23
abbrev rmX8_faultOfPart : Room := { frames := 0, cells := 0, slots := 0, locals := 0 }
def f_X8_faultOfPart (a0 : Int64) (a2 : Int64) : Option (Int32) :=
  if a2 = 0 then (some 4) else (if a0 = (-9223372036854775808) then (if a2 = (-1) then (some 5) else (some 0)) else (some 0))
set_option maxRecDepth 100000 in
set_option maxHeartbeats 4000000 in
theorem c_X8_faultOfPart {l : Launch} {G : va_G} {cy : Nat → ClassId} {B nT : Nat} {M : Mem} {a0 : Int64} {a2 : Int64} {out : Int32} (h : f_X8_faultOfPart a0 a2 = some out) : Met l yX8_faultOfPart (wsU yX8_faultOfPart cX8_faultOfPart 4 (some .int)) rmX8_faultOfPart (va_Pc [.long a0, .long a2] (PU G B cy nT M)) (Qi G B cy nT out M) 0 0 (FB B) := by
  refine r_met (by decide +kernel) RX8 rfl (Nat.le_of_ble_eq_true rfl) ?_
  intro p e s m args below meth c ls X hP hl
  have hl : lv_has ls 4 [(0, .long a0), (2, .long a2)] := hl
  have hS : va_S (FB B) s.heap s.heap [] := va_S.rf
  obtain ⟨hx, hb, hr, hml, hown, hts, hKn, hlk⟩ := id X
  unfold f_X8_faultOfPart at h
  refine lv_lload_n hx hb dX8_faultOfPart_0 rfl (lv_at hl 1 rfl) ?_
  refine lv_lconst (v := 0) hx hb dX8_faultOfPart_1 rfl ?_
  refine W.lcmp hx hb dX8_faultOfPart_2 ?_
  refine lv_if_ne (tgt := 8) hx hb dX8_faultOfPart_3 (by decide) (fun hc => ?_) (fun hc => ?_)
  · replace h := if_eln h (fun z => hc (lc_eq.mpr z))
    refine lv_lload_n hx hb dX8_faultOfPart_8 rfl (lv_at hl 0 rfl) ?_
    refine lv_ldc2 (v := (-9223372036854775808)) hx hb hown (hts _ k_392) dX8_faultOfPart_9 ?_
    refine W.lcmp hx hb dX8_faultOfPart_12 ?_
    refine lv_if_ne (tgt := 28) hx hb dX8_faultOfPart_13 (by decide) (fun hc => ?_) (fun hc => ?_)
    · replace h := if_eln h (fun z => hc (lc_eq.mpr z))
      refine lv_iconst (v := 0) hx hb dX8_faultOfPart_28 (by decide) ?_
      exact r_iret X hP hS (pr0 h) rfl dX8_faultOfPart_29
    · replace h := if_elp h (lc_eq.mp hc)
      refine lv_lload_n hx hb dX8_faultOfPart_16 rfl (lv_at hl 1 rfl) ?_
      refine lv_ldc2 (v := (-1)) hx hb hown (hts _ k_393) dX8_faultOfPart_17 ?_
      refine W.lcmp hx hb dX8_faultOfPart_20 ?_
      refine lv_if_ne (tgt := 28) hx hb dX8_faultOfPart_21 (by decide) (fun hc => ?_) (fun hc => ?_)
      · replace h := if_eln h (fun z => hc (lc_eq.mpr z))
        refine lv_iconst (v := 0) hx hb dX8_faultOfPart_28 (by decide) ?_
        exact r_iret X hP hS (pr0 h) rfl dX8_faultOfPart_29
      · replace h := if_elp h (lc_eq.mp hc)
        refine lv_iconst (v := 5) hx hb dX8_faultOfPart_24 (by decide) ?_
        refine lv_goto (tgt := 29) hx hb dX8_faultOfPart_25 (by decide) ?_
        exact r_iret X hP hS (pr0 h) rfl dX8_faultOfPart_29
  · replace h := if_elp h (lc_eq.mp hc)
    refine lv_iconst (v := 4) hx hb dX8_faultOfPart_6 (by decide) ?_
    exact r_iret X hP hS (pr0 h) rfl dX8_faultOfPart_7
abbrev rmX0_reckon : Room := { frames := 1, cells := 0, slots := 0, locals := 24 }
def f_X0_reckon_96 (q : Nat) (M : Mem) (v3 : Int32) (s0 : Int64) : Option (Int32 × Mem) :=
  lt (sL M q 6 s0) fun M_1 => some (v3, M_1)
set_option maxRecDepth 100000 in
set_option maxHeartbeats 4000000 in
theorem w_X0_reckon_96 (X : Cx p s m args meth c cX0_reckon RX0 6 (some .int) G cy) {q : Nat} (hq : isA q) {out : Int32 × Mem} {M : Mem} {v3 : Int32} {s0 : Int64} (hP : Pic G B cy nT M H) (hS : va_S (FB B) s.heap H locs) (hl : lv_has ls 6 [(3, .int v3)]) (h : f_X0_reckon_96 q M v3 s0 = some out) : W p l e rmX0_reckon s m args below meth c H locs 0 0 (MQ below (Qi G B cy nT out.1 out.2) args s 0 0 (FB B)) (F0 m 96 ls [.long s0, .ref (B + q)]) := by
  obtain ⟨hx, hb, hr, hml, hown, hts, hKn, hlk⟩ := id X
  unfold f_X0_reckon_96 at h
  obtain ⟨M_1, e_1, h⟩ := lt_el h
  refine pf_X0_60 X hP hS (kA_0 hq) e_1 dX0_reckon_96 (fun H locs hP hS => ?_)
  refine lv_iload_n hx hb dX0_reckon_99 rfl (lv_at hl 0 rfl) ?_
  exact r_iret X hP hS (pr1 h) (pr2 h) dX0_reckon_100
def f_X0_reckon_117 (q : Nat) (M : Mem) (s0 : Int64) : Option (Int32 × Mem) :=
  lt (sL M q 6 s0) fun M_1 => some (0, M_1)
set_option maxRecDepth 100000 in
set_option maxHeartbeats 4000000 in
theorem w_X0_reckon_117 (X : Cx p s m args meth c cX0_reckon RX0 6 (some .int) G cy) {q : Nat} (hq : isA q) {out : Int32 × Mem} {M : Mem} {s0 : Int64} (hP : Pic G B cy nT M H) (hS : va_S (FB B) s.heap H locs) (hl : lv_has ls 6 []) (h : f_X0_reckon_117 q M s0 = some out) : W p l e rmX0_reckon s m args below meth c H locs 0 0 (MQ below (Qi G B cy nT out.1 out.2) args s 0 0 (FB B)) (F0 m 117 ls [.long s0, .ref (B + q)]) := by
  obtain ⟨hx, hb, hr, hml, hown, hts, hKn, hlk⟩ := id X
  unfold f_X0_reckon_117 at h
  obtain ⟨M_1, e_1, h⟩ := lt_el h
  refine pf_X0_60 X hP hS (kA_0 hq) e_1 dX0_reckon_117 (fun H locs hP hS => ?_)
  refine lv_iconst (v := 0) hx hb dX0_reckon_120 (by decide) ?_
  exact r_iret X hP hS (pr1 h) (pr2 h) dX0_reckon_121
def f_X0_reckon (q : Nat) (M : Mem) (a1 : Int32) (a2 : Int32) : Option (Int32 × Mem) :=
  Option.bind (f_X0_look q M a2 1) fun r_1 => if r_1.1 = 0 then (gd (inR a2 40) <| lt (gL r_1.2 (q + 1 + 2) a2.toNatClampNeg) fun v_1 => if a1 = 3 then (Option.bind (f_X0_add q r_1.2 v_1) fun r_2 => some (r_2.1, r_2.2)) else if a1 = 6 then (Option.bind (f_X8_faultOfPart (gL r_1.2 q 6) v_1) fun r_3 => if r_3 = 0 then (gd (v_1 != 0) <| f_X0_reckon_96 q r_1.2 r_3 ((gL r_1.2 q 6) / v_1)) else (f_X0_reckon_96 q r_1.2 r_3 (gL r_1.2 q 6))) else if a1 = 8 then (if v_1 ≤ (gL r_1.2 q 6) then (f_X0_reckon_117 q r_1.2 0) else (f_X0_reckon_117 q r_1.2 1)) else lt (sL r_1.2 q 6 v_1) fun M_1 => some (0, M_1)) else (some (r_1.1, r_1.2))
set_option maxRecDepth 100000 in
set_option maxHeartbeats 4000000 in
theorem c_X0_reckon {l : Launch} {G : va_G} {cy : Nat → ClassId} {B nT : Nat} {q : Nat} (hq : isA q) {M : Mem} {a1 : Int32} {a2 : Int32} {out : Int32 × Mem} (h : f_X0_reckon q M a1 a2 = some out) : Met l yX0_reckon (wsU yX0_reckon cX0_reckon 6 (some .int)) rmX0_reckon (va_Pc [.ref (B + q), .int a1, .int a2] (PU G B cy nT M)) (Qi G B cy nT out.1 out.2) 0 0 (FB B) := by
  refine r_met (by decide +kernel) RX0 rfl (Nat.le_of_ble_eq_true rfl) ?_
  intro p e s m args below meth c ls X hP hl
  have hl : lv_has ls 6 [(0, .ref (B + q)), (1, .int a1), (2, .int a2)] := hl
  have hS : va_S (FB B) s.heap s.heap [] := va_S.rf
  obtain ⟨hx, hb, hr, hml, hown, hts, hKn, hlk⟩ := id X
  unfold f_X0_reckon at h
  refine lv_aload_n hx hb dX0_reckon_0 rfl (lv_at hl 0 rfl) ?_
  refine lv_iload_n hx hb dX0_reckon_1 rfl (lv_at hl 2 rfl) ?_
  refine lv_iconst (v := 1) hx hb dX0_reckon_2 (by decide) ?_
  obtain ⟨r_1, h_1, h⟩ := bd_el h
  refine cl_i (rn_V (C := RX0) (ci := 0) X hP (c_X0_look hq h_1) (kA_0 hq) rfl k_382 k_383 k_887 k_8 k_384 rfl hd_X0_look (n := 2) ⟨⟨rfl, rfl⟩, Nat.le_of_ble_eq_true rfl, Nat.le_of_ble_eq_true rfl⟩ (As := [.int a2, .int 1]) (rest := []) rfl hl.1 rfl (Nat.le_of_ble_eq_true rfl) dX0_reckon_3 ⟨Nat.zero_le _, Nat.zero_le _⟩) hS (fun H locs hP hS => ?_)
  refine lv_istore_n (lv' := [(3, .int r_1.1), (0, .ref (B + q)), (1, .int a1), (2, .int a2)]) hx hb dX0_reckon_6 rfl hl (by decide) rfl (fun ls hl => ?_)
  refine lv_iload_n hx hb dX0_reckon_7 rfl (lv_at hl 0 rfl) ?_
  refine lv_if_eq (tgt := 13) hx hb dX0_reckon_8 (by decide) (fun hc => ?_) (fun hc => ?_)
  · replace h := if_elp h hc
    refine lv_aload_n hx hb dX0_reckon_13 rfl (lv_at hl 1 rfl) ?_
    refine gf_X0_12 X hP (kA_0 hq) dX0_reckon_14 ?_
    refine gf_X0_175 X hP (kC_0 (kA_own hq)) dX0_reckon_17 ?_
    refine lv_iload_n hx hb dX0_reckon_20 rfl (lv_at hl 3 rfl) ?_
    obtain ⟨g_1, h⟩ := gd_el h
    refine r_lald X hP (kC_2 (kA_own hq)) g_1 dX0_reckon_21 ?_
    obtain ⟨v_1, e_1, h⟩ := lt_el h
    refine r_topl e_1 ?_
    refine lv_lstore (lv' := [(4, .long v_1), (3, .int r_1.1), (0, .ref (B + q)), (1, .int a1), (2, .int a2)]) hx hb dX0_reckon_22 hl (by decide) rfl (fun ls hl => ?_)
    refine lv_iload_n hx hb dX0_reckon_24 rfl (lv_at hl 3 rfl) ?_
    by_cases h_2 : a1 = 3
    · replace h := if_elp h h_2
      refine lv_lookup (off := 35) (tgt := 60) hx hb dX0_reckon_25 (by decide) (by rw [h_2]; decide) (by decide) ?_
      refine lv_aload_n hx hb dX0_reckon_60 rfl (lv_at hl 2 rfl) ?_
      refine lv_lload hx hb dX0_reckon_61 (lv_at hl 0 rfl) ?_
      obtain ⟨r_2, h_3, h⟩ := bd_el h
      refine cl_i (rn_V (C := RX0) (ci := 0) X hP (c_X0_add hq h_3) (kA_0 hq) rfl k_386 k_387 k_888 k_8 k_388 rfl hd_X0_add (n := 1) ⟨⟨rfl, rfl⟩, Nat.le_of_ble_eq_true rfl, Nat.le_of_ble_eq_true rfl⟩ (As := [.long v_1]) (rest := []) rfl hl.1 rfl (Nat.le_of_ble_eq_true rfl) dX0_reckon_63 ⟨Nat.zero_le _, Nat.zero_le _⟩) hS (fun H locs hP hS => ?_)
      exact r_iret X hP hS (pr1 h) (pr2 h) dX0_reckon_66
    · replace h := if_eln h h_2
      by_cases h_4 : a1 = 6
      · replace h := if_elp h h_4
        refine lv_lookup (off := 42) (tgt := 67) hx hb dX0_reckon_25 (by decide) (by rw [h_4]; decide) (by decide) ?_
        refine lv_aload_n hx hb dX0_reckon_67 rfl (lv_at hl 2 rfl) ?_
        refine gf_X0_60 X hP (kA_0 hq) dX0_reckon_68 ?_
        refine lv_lload hx hb dX0_reckon_71 (lv_at hl 0 rfl) ?_
        obtain ⟨r_3, h_5, h⟩ := bd_el h
        refine cl_i (rn_SN X hP (c_X8_faultOfPart h_5) nst_X0_178 k_390 k_1 k_391 hd_X8_faultOfPart (n := 2) ⟨⟨rfl, rfl⟩, Nat.le_of_ble_eq_true rfl, Nat.le_of_ble_eq_true rfl⟩ (As := [.long (gL r_1.2 q 6), .long v_1]) (rest := []) rfl hl.1 rfl (Nat.le_of_ble_eq_true rfl) dX0_reckon_73 ⟨Nat.zero_le _, Nat.zero_le _⟩) hS (fun H locs hP hS => ?_)
        refine lv_istore_n (lv' := [(3, .int r_3), (4, .long v_1), (0, .ref (B + q)), (1, .int a1), (2, .int a2)]) hx hb dX0_reckon_76 rfl hl (by decide) rfl (fun ls hl => ?_)
        refine lv_aload_n hx hb dX0_reckon_77 rfl (lv_at hl 2 rfl) ?_
        refine lv_iload_n hx hb dX0_reckon_78 rfl (lv_at hl 0 rfl) ?_
        refine lv_if_ne (tgt := 92) hx hb dX0_reckon_79 (by decide) (fun hc => ?_) (fun hc => ?_)
        · replace h := if_eln h hc
          refine lv_aload_n hx hb dX0_reckon_92 rfl (lv_at hl 2 rfl) ?_
          refine gf_X0_60 X hP (kA_0 hq) dX0_reckon_93 ?_
          exact w_X0_reckon_96 X hq hP hS (lv_sub hl [0] rfl) h
        · replace h := if_elp h hc
          refine lv_aload_n hx hb dX0_reckon_82 rfl (lv_at hl 2 rfl) ?_
          refine gf_X0_60 X hP (kA_0 hq) dX0_reckon_83 ?_
          refine lv_lload hx hb dX0_reckon_86 (lv_at hl 1 rfl) ?_
          obtain ⟨g_2, h⟩ := gd_el h
          refine lv_ldiv hx hb dX0_reckon_88 (bne_iff_ne.mp g_2) ?_
          refine lv_goto (tgt := 96) hx hb dX0_reckon_89 (by decide) ?_
          exact w_X0_reckon_96 X hq hP hS (lv_sub hl [0] rfl) h
      · replace h := if_eln h h_4
        by_cases h_6 : a1 = 8
        · replace h := if_elp h h_6
          refine lv_lookup (off := 76) (tgt := 101) hx hb dX0_reckon_25 (by decide) (by rw [h_6]; decide) (by decide) ?_
          refine lv_aload_n hx hb dX0_reckon_101 rfl (lv_at hl 2 rfl) ?_
          refine lv_aload_n hx hb dX0_reckon_102 rfl (lv_at hl 2 rfl) ?_
          refine gf_X0_60 X hP (kA_0 hq) dX0_reckon_103 ?_
          refine lv_lload hx hb dX0_reckon_106 (lv_at hl 0 rfl) ?_
          refine W.lcmp hx hb dX0_reckon_108 ?_
          refine lv_if_ge (tgt := 116) hx hb dX0_reckon_109 (by decide) (fun hc => ?_) (fun hc => ?_)
          · replace h := if_elp h (lc_ge.mp hc)
            refine lv_lconst (v := 0) hx hb dX0_reckon_116 rfl ?_
            exact w_X0_reckon_117 X hq hP hS (lv_sub hl [] rfl) h
          · replace h := if_eln h (fun z => hc (lc_ge.mpr z))
            refine lv_lconst (v := 1) hx hb dX0_reckon_112 rfl ?_
            refine lv_goto (tgt := 117) hx hb dX0_reckon_113 (by decide) ?_
            exact w_X0_reckon_117 X hq hP hS (lv_sub hl [] rfl) h
        · replace h := if_eln h h_6
          refine lv_lookup (off := 97) (tgt := 122) hx hb dX0_reckon_25 (by decide) (by show Op.lookupswitch.offset [(3, 35), (6, 42), (8, 76)] _ _ = _; rw [lv_osw (a := 3) h_2 rfl, lv_osw (a := 6) h_4 rfl, lv_osw (a := 8) h_6 rfl]; rfl) (by decide) ?_
          refine lv_aload_n hx hb dX0_reckon_122 rfl (lv_at hl 2 rfl) ?_
          refine lv_lload hx hb dX0_reckon_123 (lv_at hl 0 rfl) ?_
          obtain ⟨M_1, e_2, h⟩ := lt_el h
          refine pf_X0_60 X hP hS (kA_0 hq) e_2 dX0_reckon_125 (fun H locs hP hS => ?_)
          refine lv_iconst (v := 0) hx hb dX0_reckon_128 (by decide) ?_
          exact r_iret X hP hS (pr1 h) (pr2 h) dX0_reckon_129
  · replace h := if_eln h hc
    refine lv_iload_n hx hb dX0_reckon_11 rfl (lv_at hl 0 rfl) ?_
    exact r_iret X hP hS (pr1 h) (pr2 h) dX0_reckon_12
abbrev rmX1_put : Room := { frames := 0, cells := 0, slots := 0, locals := 0 }
def f_X1_put (q : Nat) (M : Mem) (a1 : Int32) (a2 : Int32) (a3 : Int64) (a5 : Int32) (a6 : Int32) : Option (Mem) :=
  gd (inR a1 40) <| lt (sI M (q + 1) a1.toNatClampNeg a2) fun M_1 => gd (inR a1 40) <| lt (sL M_1 (q + 2) a1.toNatClampNeg a3) fun M_2 => gd (inR a1 40) <| lt (sI M_2 (q + 3) a1.toNatClampNeg a5) fun M_3 => gd (inR a1 40) <| lt (sI M_3 (q + 4) a1.toNatClampNeg a6) fun M_4 => some M_4
set_option maxRecDepth 100000 in
set_option maxHeartbeats 4000000 in
theorem c_X1_put {l : Launch} {G : va_G} {cy : Nat → ClassId} {B nT : Nat} {q : Nat} (hq : isC q) {M : Mem} {a1 : Int32} {a2 : Int32} {a3 : Int64} {a5 : Int32} {a6 : Int32} {out : Mem} (h : f_X1_put q M a1 a2 a3 a5 a6 = some out) : Met l yX1_put (wsU yX1_put cX1_put 7 none) rmX1_put (va_Pc [.ref (B + q), .int a1, .int a2, .long a3, .int a5, .int a6] (PU G B cy nT M)) (Qv G B cy nT out) 0 0 (FB B) := by
  refine r_met (by decide +kernel) RX1 rfl (Nat.le_of_ble_eq_true rfl) ?_
  intro p e s m args below meth c ls X hP hl
  have hl : lv_has ls 7 [(0, .ref (B + q)), (1, .int a1), (2, .int a2), (3, .long a3), (5, .int a5), (6, .int a6)] := hl
  have hS : va_S (FB B) s.heap s.heap [] := va_S.rf
  obtain ⟨hx, hb, hr, hml, hown, hts, hKn, hlk⟩ := id X
  unfold f_X1_put at h
  refine lv_aload_n hx hb dX1_put_0 rfl (lv_at hl 0 rfl) ?_
  refine gf_X1_9 X hP (kC_0 hq) dX1_put_1 ?_
  refine lv_iload_n hx hb dX1_put_4 rfl (lv_at hl 1 rfl) ?_
  refine lv_iload_n hx hb dX1_put_5 rfl (lv_at hl 2 rfl) ?_
  obtain ⟨g_1, h⟩ := gd_el h
  obtain ⟨M_1, e_1, h⟩ := lt_el h
  refine r_iast X hP hS (kC_1 hq) g_1 e_1 dX1_put_6 (fun H locs hP hS => ?_)
  refine lv_aload_n hx hb dX1_put_7 rfl (lv_at hl 0 rfl) ?_
  refine gf_X1_15 X hP (kC_0 hq) dX1_put_8 ?_
  refine lv_iload_n hx hb dX1_put_11 rfl (lv_at hl 1 rfl) ?_
  refine lv_lload_n hx hb dX1_put_12 rfl (lv_at hl 3 rfl) ?_
  obtain ⟨g_2, h⟩ := gd_el h
  obtain ⟨M_2, e_2, h⟩ := lt_el h
  refine r_last X hP hS (kC_2 hq) g_2 e_2 dX1_put_13 (fun H locs hP hS => ?_)
  refine lv_aload_n hx hb dX1_put_14 rfl (lv_at hl 0 rfl) ?_
  refine gf_X1_19 X hP (kC_0 hq) dX1_put_15 ?_
  refine lv_iload_n hx hb dX1_put_18 rfl (lv_at hl 1 rfl) ?_
  refine lv_iload hx hb dX1_put_19 (lv_at hl 4 rfl) ?_
  obtain ⟨g_3, h⟩ := gd_el h
  obtain ⟨M_3, e_3, h⟩ := lt_el h
  refine r_iast X hP hS (kC_3 hq) g_3 e_3 dX1_put_21 (fun H locs hP hS => ?_)
  refine lv_aload_n hx hb dX1_put_22 rfl (lv_at hl 0 rfl) ?_
  refine gf_X1_22 X hP (kC_0 hq) dX1_put_23 ?_
  refine lv_iload_n hx hb dX1_put_26 rfl (lv_at hl 1 rfl) ?_
  refine lv_iload hx hb dX1_put_27 (lv_at hl 5 rfl) ?_
  obtain ⟨g_4, h⟩ := gd_el h
  obtain ⟨M_4, e_4, h⟩ := lt_el h
  refine r_iast X hP hS (kC_4 hq) g_4 e_4 dX1_put_29 (fun H locs hP hS => ?_)
  exact r_vret X hP hS (pr0 h) dX1_put_30
abbrev rmX0_write : Room := { frames := 1, cells := 0, slots := 0, locals := 26 }
def f_X0_write (q : Nat) (M : Mem) (a1 : Int32) : Option (Int32 × Mem) :=
  Option.bind (f_X1_put (q + 1) M a1 1 (gL M q 6) (-1) (-1)) fun r_1 => lt (sL r_1 q 8 ((gL r_1 q 8) ||| (1 <<< (Int32.toInt64 a1 &&& 63)))) fun M_1 => some (0, M_1)
set_option maxRecDepth 100000 in
set_option maxHeartbeats 4000000 in
theorem c_X0_write {l : Launch} {G : va_G} {cy : Nat → ClassId} {B nT : Nat} {q : Nat} (hq : isA q) {M : Mem} {a1 : Int32} {out : Int32 × Mem} (h : f_X0_write q M a1 = some out) : Met l yX0_write (wsU yX0_write cX0_write 2 (some .int)) rmX0_write (va_Pc [.ref (B + q), .int a1] (PU G B cy nT M)) (Qi G B cy nT out.1 out.2) 0 0 (FB B) := by
  refine r_met (by decide +kernel) RX0 rfl (Nat.le_of_ble_eq_true rfl) ?_
  intro p e s m args below meth c ls X hP hl
  have hl : lv_has ls 2 [(0, .ref (B + q)), (1, .int a1)] := hl
  have hS : va_S (FB B) s.heap s.heap [] := va_S.rf
  obtain ⟨hx, hb, hr, hml, hown, hts, hKn, hlk⟩ := id X
  unfold f_X0_write at h
  refine lv_aload_n hx hb dX0_write_0 rfl (lv_at hl 0 rfl) ?_
  refine gf_X0_12 X hP (kA_0 hq) dX0_write_1 ?_
  refine lv_iload_n hx hb dX0_write_4 rfl (lv_at hl 1 rfl) ?_
  refine lv_iconst (v := 1) hx hb dX0_write_5 (by decide) ?_
  refine lv_aload_n hx hb dX0_write_6 rfl (lv_at hl 0 rfl) ?_
  refine gf_X0_60 X hP (kA_0 hq) dX0_write_7 ?_
  refine lv_iconst (v := (-1)) hx hb dX0_write_10 (by decide) ?_
  refine lv_iconst (v := (-1)) hx hb dX0_write_11 (by decide) ?_
  obtain ⟨r_1, h_1, h⟩ := bd_el h
  refine cl_v (rn_V (C := RX1) (ci := 1) X hP (c_X1_put (kA_own hq) h_1) (kC_0 (kA_own hq)) rfl k_397 k_191 k_192 k_3 k_193 rfl hd_X1_put (n := 5) ⟨⟨rfl, rfl⟩, Nat.le_of_ble_eq_true rfl, Nat.le_of_ble_eq_true rfl⟩ (As := [.int a1, .int 1, .long (gL M q 6), .int (-1), .int (-1)]) (rest := []) rfl hl.1 rfl (Nat.le_of_ble_eq_true rfl) dX0_write_12 ⟨Nat.zero_le _, Nat.zero_le _⟩) hS (fun H locs hP hS => ?_)
  refine lv_aload_n hx hb dX0_write_15 rfl (lv_at hl 0 rfl) ?_
  refine lv_dup hx hb dX0_write_16 rfl ?_
  refine gf_X0_67 X hP (kA_0 hq) dX0_write_17 ?_
  refine lv_lconst (v := 1) hx hb dX0_write_20 rfl ?_
  refine lv_iload_n hx hb dX0_write_21 rfl (lv_at hl 1 rfl) ?_
  refine lv_lshl (v := (1 <<< (Int32.toInt64 a1 &&& 63))) hx hb dX0_write_22 rfl ?_
  refine lv_lor hx hb dX0_write_23 ?_
  obtain ⟨M_1, e_1, h⟩ := lt_el h
  refine pf_X0_67 X hP hS (kA_0 hq) e_1 dX0_write_24 (fun H locs hP hS => ?_)
  refine lv_iconst (v := 0) hx hb dX0_write_27 (by decide) ?_
  exact r_iret X hP hS (pr1 h) (pr2 h) dX0_write_28
abbrev rmX0_multiply : Room := { frames := 0, cells := 0, slots := 0, locals := 0 }
def f_X0_multiply_49 (q : Nat) (M : Mem) (v2 : Int64) : Option (Int32 × Mem) :=
  lt (sL M q 6 v2) fun M_1 => some (0, M_1)
set_option maxRecDepth 100000 in
set_option maxHeartbeats 4000000 in
theorem w_X0_multiply_49 (X : Cx p s m args meth c cX0_multiply RX0 4 (some .int) G cy) {q : Nat} (hq : isA q) {out : Int32 × Mem} {M : Mem} {v2 : Int64} (hP : Pic G B cy nT M H) (hS : va_S (FB B) s.heap H locs) (hl : lv_has ls 4 [(0, .ref (B + q)), (2, .long v2)]) (h : f_X0_multiply_49 q M v2 = some out) : W p l e rmX0_multiply s m args below meth c H locs 0 0 (MQ below (Qi G B cy nT out.1 out.2) args s 0 0 (FB B)) (F0 m 49 ls []) := by
  obtain ⟨hx, hb, hr, hml, hown, hts, hKn, hlk⟩ := id X
  unfold f_X0_multiply_49 at h
  refine lv_aload_n hx hb dX0_multiply_49 rfl (lv_at hl 0 rfl) ?_
  refine lv_lload_n hx hb dX0_multiply_50 rfl (lv_at hl 1 rfl) ?_
  obtain ⟨M_1, e_1, h⟩ := lt_el h
  refine pf_X0_60 X hP hS (kA_0 hq) e_1 dX0_multiply_51 (fun H locs hP hS => ?_)
  refine lv_iconst (v := 0) hx hb dX0_multiply_54 (by decide) ?_
  exact r_iret X hP hS (pr1 h) (pr2 h) dX0_multiply_55
def f_X0_multiply_31 (q : Nat) (M : Mem) (v1 : Int32) (v2 : Int64) : Option (Int32 × Mem) :=
  if v1 = (-1) then (if (gL M q 6) = (-9223372036854775808) then (some (5, M)) else (f_X0_multiply_49 q M v2)) else (f_X0_multiply_49 q M v2)
set_option maxRecDepth 100000 in
set_option maxHeartbeats 4000000 in
theorem w_X0_multiply_31 (X : Cx p s m args meth c cX0_multiply RX0 4 (some .int) G cy) {q : Nat} (hq : isA q) {out : Int32 × Mem} {M : Mem} {v1 : Int32} {v2 : Int64} (hP : Pic G B cy nT M H) (hS : va_S (FB B) s.heap H locs) (hl : lv_has ls 4 [(0, .ref (B + q)), (1, .int v1), (2, .long v2)]) (h : f_X0_multiply_31 q M v1 v2 = some out) : W p l e rmX0_multiply s m args below meth c H locs 0 0 (MQ below (Qi G B cy nT out.1 out.2) args s 0 0 (FB B)) (F0 m 31 ls []) := by
  obtain ⟨hx, hb, hr, hml, hown, hts, hKn, hlk⟩ := id X
  unfold f_X0_multiply_31 at h
  refine lv_iload_n hx hb dX0_multiply_31 rfl (lv_at hl 1 rfl) ?_
  refine lv_iconst (v := (-1)) hx hb dX0_multiply_32 (by decide) ?_
  refine lv_icmp_ne (tgt := 49) hx hb dX0_multiply_33 (by decide) (fun hc => ?_) (fun hc => ?_)
  · replace h := if_eln h hc
    exact w_X0_multiply_49 X hq hP hS (lv_sub hl [0, 2] rfl) h
  · replace h := if_elp h hc
    refine lv_aload_n hx hb dX0_multiply_36 rfl (lv_at hl 0 rfl) ?_
    refine gf_X0_60 X hP (kA_0 hq) dX0_multiply_37 ?_
    refine lv_ldc2 (v := (-9223372036854775808)) hx hb hown (hts _ k_401) dX0_multiply_40 ?_
    refine W.lcmp hx hb dX0_multiply_43 ?_
    refine lv_if_ne (tgt := 49) hx hb dX0_multiply_44 (by decide) (fun hc => ?_) (fun hc => ?_)
    · replace h := if_eln h (fun z => hc (lc_eq.mpr z))
      exact w_X0_multiply_49 X hq hP hS (lv_sub hl [0, 2] rfl) h
    · replace h := if_elp h (lc_eq.mp hc)
      refine lv_iconst (v := 5) hx hb dX0_multiply_47 (by decide) ?_
      exact r_iret X hP hS (pr1 h) (pr2 h) dX0_multiply_48
def f_X0_multiply (q : Nat) (M : Mem) (a1 : Int32) : Option (Int32 × Mem) :=
  lt ((gL M q 6) * (Int32.toInt64 a1)) fun v_1 => if a1 = 0 then (f_X0_multiply_31 q M a1 v_1) else (if a1 = (-1) then (f_X0_multiply_31 q M a1 v_1) else (gd ((Int32.toInt64 a1) != 0) <| if (v_1 / (Int32.toInt64 a1)) = (gL M q 6) then (f_X0_multiply_31 q M a1 v_1) else (some (5, M))))
set_option maxRecDepth 100000 in
set_option maxHeartbeats 4000000 in
theorem c_X0_multiply {l : Launch} {G : va_G} {cy : Nat → ClassId} {B nT : Nat} {q : Nat} (hq : isA q) {M : Mem} {a1 : Int32} {out : Int32 × Mem} (h : f_X0_multiply q M a1 = some out) : Met l yX0_multiply (wsU yX0_multiply cX0_multiply 4 (some .int)) rmX0_multiply (va_Pc [.ref (B + q), .int a1] (PU G B cy nT M)) (Qi G B cy nT out.1 out.2) 0 0 (FB B) := by
  refine r_met (by decide +kernel) RX0 rfl (Nat.le_of_ble_eq_true rfl) ?_
  intro p e s m args below meth c ls X hP hl
  have hl : lv_has ls 4 [(0, .ref (B + q)), (1, .int a1)] := hl
  have hS : va_S (FB B) s.heap s.heap [] := va_S.rf
  obtain ⟨hx, hb, hr, hml, hown, hts, hKn, hlk⟩ := id X
  unfold f_X0_multiply at h
  refine lv_aload_n hx hb dX0_multiply_0 rfl (lv_at hl 0 rfl) ?_
  refine gf_X0_60 X hP (kA_0 hq) dX0_multiply_1 ?_
  refine lv_iload_n hx hb dX0_multiply_4 rfl (lv_at hl 1 rfl) ?_
  refine lv_i2l (v := (Int32.toInt64 a1)) hx hb dX0_multiply_5 rfl ?_
  refine lv_lmul hx hb dX0_multiply_6 ?_
  obtain ⟨v_1, e_1, h⟩ := lt_el h
  refine r_topl e_1 ?_
  refine lv_lstore_n (lv' := [(2, .long v_1), (0, .ref (B + q)), (1, .int a1)]) hx hb dX0_multiply_7 rfl hl (by decide) rfl (fun ls hl => ?_)
  refine lv_iload_n hx hb dX0_multiply_8 rfl (lv_at hl 2 rfl) ?_
  refine lv_if_eq (tgt := 31) hx hb dX0_multiply_9 (by decide) (fun hc => ?_) (fun hc => ?_)
  · replace h := if_elp h hc
    exact w_X0_multiply_31 X hq hP hS (lv_sub hl [1, 2, 0] rfl) h
  · replace h := if_eln h hc
    refine lv_iload_n hx hb dX0_multiply_12 rfl (lv_at hl 2 rfl) ?_
    refine lv_iconst (v := (-1)) hx hb dX0_multiply_13 (by decide) ?_
    refine lv_icmp_eq (tgt := 31) hx hb dX0_multiply_14 (by decide) (fun hc => ?_) (fun hc => ?_)
    · replace h := if_elp h hc
      exact w_X0_multiply_31 X hq hP hS (lv_sub hl [1, 2, 0] rfl) h
    · replace h := if_eln h hc
      refine lv_lload_n hx hb dX0_multiply_17 rfl (lv_at hl 0 rfl) ?_
      refine lv_iload_n hx hb dX0_multiply_18 rfl (lv_at hl 2 rfl) ?_
      refine lv_i2l (v := (Int32.toInt64 a1)) hx hb dX0_multiply_19 rfl ?_
      obtain ⟨g_1, h⟩ := gd_el h
      refine lv_ldiv hx hb dX0_multiply_20 (bne_iff_ne.mp g_1) ?_
      refine lv_aload_n hx hb dX0_multiply_21 rfl (lv_at hl 1 rfl) ?_
      refine gf_X0_60 X hP (kA_0 hq) dX0_multiply_22 ?_
      refine W.lcmp hx hb dX0_multiply_25 ?_
      refine lv_if_eq (tgt := 31) hx hb dX0_multiply_26 (by decide) (fun hc => ?_) (fun hc => ?_)
      · replace h := if_elp h (lc_eq.mp hc)
        exact w_X0_multiply_31 X hq hP hS (lv_sub hl [1, 2, 0] rfl) h
      · replace h := if_eln h (fun z => hc (lc_eq.mpr z))
        refine lv_iconst (v := 5) hx hb dX0_multiply_29 (by decide) ?_
        exact r_iret X hP hS (pr1 h) (pr2 h) dX0_multiply_30
abbrev rmX8_isCell : Room := { frames := 0, cells := 0, slots := 0, locals := 0 }
def f_X8_isCell (a0 : Int64) : Option (Bool) :=
  if a0 < 0 then (some false) else (if 40 ≤ a0 then (some false) else (some true))
set_option maxRecDepth 100000 in
set_option maxHeartbeats 4000000 in
theorem c_X8_isCell {l : Launch} {G : va_G} {cy : Nat → ClassId} {B nT : Nat} {M : Mem} {a0 : Int64} {out : Bool} (h : f_X8_isCell a0 = some out) : Met l yX8_isCell (wsU yX8_isCell cX8_isCell 2 (some .boolean)) rmX8_isCell (va_Pc [.long a0] (PU G B cy nT M)) (Qi G B cy nT (bI out) M) 0 0 (FB B) := by
  refine r_met (by decide +kernel) RX8 rfl (Nat.le_of_ble_eq_true rfl) ?_
  intro p e s m args below meth c ls X hP hl
  have hl : lv_has ls 2 [(0, .long a0)] := hl
  have hS : va_S (FB B) s.heap s.heap [] := va_S.rf
  obtain ⟨hx, hb, hr, hml, hown, hts, hKn, hlk⟩ := id X
  unfold f_X8_isCell at h
  refine lv_lload_n hx hb dX8_isCell_0 rfl (lv_at hl 0 rfl) ?_
  refine lv_lconst (v := 0) hx hb dX8_isCell_1 rfl ?_
  refine W.lcmp hx hb dX8_isCell_2 ?_
  refine lv_if_lt (tgt := 18) hx hb dX8_isCell_3 (by decide) (fun hc => ?_) (fun hc => ?_)
  · replace h := if_elp h (lc_lt.mp hc)
    refine lv_iconst (v := 0) hx hb dX8_isCell_18 (by decide) ?_
    exact r_zret X hP hS rfl (prz h) rfl dX8_isCell_19
  · replace h := if_eln h (fun z => hc (lc_lt.mpr z))
    refine lv_lload_n hx hb dX8_isCell_6 rfl (lv_at hl 0 rfl) ?_
    refine lv_ldc2 (v := 40) hx hb hown (hts _ k_189) dX8_isCell_7 ?_
    refine W.lcmp hx hb dX8_isCell_10 ?_
    refine lv_if_ge (tgt := 18) hx hb dX8_isCell_11 (by decide) (fun hc => ?_) (fun hc => ?_)
    · replace h := if_elp h (lc_ge.mp hc)
      refine lv_iconst (v := 0) hx hb dX8_isCell_18 (by decide) ?_
      exact r_zret X hP hS rfl (prz h) rfl dX8_isCell_19
    · replace h := if_eln h (fun z => hc (lc_ge.mpr z))
      refine lv_iconst (v := 1) hx hb dX8_isCell_14 (by decide) ?_
      refine lv_goto (tgt := 19) hx hb dX8_isCell_15 (by decide) ?_
      exact r_zret X hP hS rfl (prz h) rfl dX8_isCell_19
abbrev rmX0_weigh : Room := { frames := 1, cells := 0, slots := 0, locals := 22 }
def f_X0_weigh (q : Nat) (M : Mem) (a1 : Int32) : Option (Int32 × Mem) :=
  Option.bind (f_X0_look q M a1 2) fun r_1 => if r_1.1 = 0 then (gd (inR a1 40) <| lt (sL r_1.2 q 6 (gL r_1.2 (q + 1 + 2) a1.toNatClampNeg)) fun M_1 => some (r_1.1, M_1)) else (some (r_1.1, r_1.2))
set_option maxRecDepth 100000 in
set_option maxHeartbeats 4000000 in
theorem c_X0_weigh {l : Launch} {G : va_G} {cy : Nat → ClassId} {B nT : Nat} {q : Nat} (hq : isA q) {M : Mem} {a1 : Int32} {out : Int32 × Mem} (h : f_X0_weigh q M a1 = some out) : Met l yX0_weigh (wsU yX0_weigh cX0_weigh 3 (some .int)) rmX0_weigh (va_Pc [.ref (B + q), .int a1] (PU G B cy nT M)) (Qi G B cy nT out.1 out.2) 0 0 (FB B) := by
  refine r_met (by decide +kernel) RX0 rfl (Nat.le_of_ble_eq_true rfl) ?_
  intro p e s m args below meth c ls X hP hl
  have hl : lv_has ls 3 [(0, .ref (B + q)), (1, .int a1)] := hl
  have hS : va_S (FB B) s.heap s.heap [] := va_S.rf
  obtain ⟨hx, hb, hr, hml, hown, hts, hKn, hlk⟩ := id X
  unfold f_X0_weigh at h
  refine lv_aload_n hx hb dX0_weigh_0 rfl (lv_at hl 0 rfl) ?_
  refine lv_iload_n hx hb dX0_weigh_1 rfl (lv_at hl 1 rfl) ?_
  refine lv_iconst (v := 2) hx hb dX0_weigh_2 (by decide) ?_
  obtain ⟨r_1, h_1, h⟩ := bd_el h
  refine cl_i (rn_V (C := RX0) (ci := 0) X hP (c_X0_look hq h_1) (kA_0 hq) rfl k_382 k_383 k_887 k_8 k_384 rfl hd_X0_look (n := 2) ⟨⟨rfl, rfl⟩, Nat.le_of_ble_eq_true rfl, Nat.le_of_ble_eq_true rfl⟩ (As := [.int a1, .int 2]) (rest := []) rfl hl.1 rfl (Nat.le_of_ble_eq_true rfl) dX0_weigh_3 ⟨Nat.zero_le _, Nat.zero_le _⟩) hS (fun H locs hP hS => ?_)
  refine lv_istore_n (lv' := [(2, .int r_1.1), (0, .ref (B + q)), (1, .int a1)]) hx hb dX0_weigh_6 rfl hl (by decide) rfl (fun ls hl => ?_)
  refine lv_iload_n hx hb dX0_weigh_7 rfl (lv_at hl 0 rfl) ?_
  refine lv_if_ne (tgt := 24) hx hb dX0_weigh_8 (by decide) (fun hc => ?_) (fun hc => ?_)
  · replace h := if_eln h hc
    refine lv_iload_n hx hb dX0_weigh_24 rfl (lv_at hl 0 rfl) ?_
    exact r_iret X hP hS (pr1 h) (pr2 h) dX0_weigh_25
  · replace h := if_elp h hc
    refine lv_aload_n hx hb dX0_weigh_11 rfl (lv_at hl 1 rfl) ?_
    refine lv_aload_n hx hb dX0_weigh_12 rfl (lv_at hl 1 rfl) ?_
    refine gf_X0_12 X hP (kA_0 hq) dX0_weigh_13 ?_
    refine gf_X0_175 X hP (kC_0 (kA_own hq)) dX0_weigh_16 ?_
    refine lv_iload_n hx hb dX0_weigh_19 rfl (lv_at hl 2 rfl) ?_
    obtain ⟨g_1, h⟩ := gd_el h
    refine r_lald X hP (kC_2 (kA_own hq)) g_1 dX0_weigh_20 ?_
    obtain ⟨M_1, e_1, h⟩ := lt_el h
    refine pf_X0_60 X hP hS (kA_0 hq) e_1 dX0_weigh_21 (fun H locs hP hS => ?_)
    refine lv_iload_n hx hb dX0_weigh_24 rfl (lv_at hl 0 rfl) ?_
    exact r_iret X hP hS (pr1 h) (pr2 h) dX0_weigh_25
abbrev rmX0_give : Room := { frames := 1, cells := 0, slots := 0, locals := 22 }
def f_X0_give_103 (q : Nat) (M : Mem) (v1 : Int32) (v2 : Int32) : Option (Int32 × Mem) :=
  gd (inR v1 40) <| gd (inR v1 40) <| lt (sL M (q + 1 + 2) v1.toNatClampNeg ((gL M (q + 1 + 2) v1.toNatClampNeg) - (gL M q 6))) fun M_1 => gd (inR v2 40) <| gd (inR v2 40) <| lt (sL M_1 (q + 1 + 2) v2.toNatClampNeg ((gL M_1 (q + 1 + 2) v2.toNatClampNeg) + (gL M_1 q 6))) fun M_2 => lt (sL M_2 q 8 ((gL M_2 q 8) ||| ((1 <<< (Int32.toInt64 v1 &&& 63)) ||| (1 <<< (Int32.toInt64 v2 &&& 63))))) fun M_3 => some (0, M_3)
set_option maxRecDepth 100000 in
set_option maxHeartbeats 4000000 in
theorem w_X0_give_103 (X : Cx p s m args meth c cX0_give RX0 4 (some .int) G cy) {q : Nat} (hq : isA q) {out : Int32 × Mem} {M : Mem} {v1 : Int32} {v2 : Int32} (hP : Pic G B cy nT M H) (hS : va_S (FB B) s.heap H locs) (hl : lv_has ls 4 [(0, .ref (B + q)), (1, .int v1), (2, .int v2)]) (h : f_X0_give_103 q M v1 v2 = some out) : W p l e rmX0_give s m args below meth c H locs 0 0 (MQ below (Qi G B cy nT out.1 out.2) args s 0 0 (FB B)) (F0 m 103 ls []) := by
  obtain ⟨hx, hb, hr, hml, hown, hts, hKn, hlk⟩ := id X
  unfold f_X0_give_103 at h
  refine lv_aload_n hx hb dX0_give_103 rfl (lv_at hl 0 rfl) ?_
  refine gf_X0_12 X hP (kA_0 hq) dX0_give_104 ?_
  refine gf_X0_175 X hP (kC_0 (kA_own hq)) dX0_give_107 ?_
  refine lv_iload_n hx hb dX0_give_110 rfl (lv_at hl 1 rfl) ?_
  refine lv_dup2_11 hx hb dX0_give_111 rfl rfl ?_
  obtain ⟨g_1, h⟩ := gd_el h
  refine r_lald X hP (kC_2 (kA_own hq)) g_1 dX0_give_112 ?_
  refine lv_aload_n hx hb dX0_give_113 rfl (lv_at hl 0 rfl) ?_
  refine gf_X0_60 X hP (kA_0 hq) dX0_give_114 ?_
  refine lv_lsub hx hb dX0_give_117 ?_
  obtain ⟨g_2, h⟩ := gd_el h
  obtain ⟨M_1, e_1, h⟩ := lt_el h
  refine r_last X hP hS (kC_2 (kA_own hq)) g_2 e_1 dX0_give_118 (fun H locs hP hS => ?_)
  refine lv_aload_n hx hb dX0_give_119 rfl (lv_at hl 0 rfl) ?_
  refine gf_X0_12 X hP (kA_0 hq) dX0_give_120 ?_
  refine gf_X0_175 X hP (kC_0 (kA_own hq)) dX0_give_123 ?_
  refine lv_iload_n hx hb dX0_give_126 rfl (lv_at hl 2 rfl) ?_
  refine lv_dup2_11 hx hb dX0_give_127 rfl rfl ?_
  obtain ⟨g_3, h⟩ := gd_el h
  refine r_lald X hP (kC_2 (kA_own hq)) g_3 dX0_give_128 ?_
  refine lv_aload_n hx hb dX0_give_129 rfl (lv_at hl 0 rfl) ?_
  refine gf_X0_60 X hP (kA_0 hq) dX0_give_130 ?_
  refine lv_ladd hx hb dX0_give_133 ?_
  obtain ⟨g_4, h⟩ := gd_el h
  obtain ⟨M_2, e_2, h⟩ := lt_el h
  refine r_last X hP hS (kC_2 (kA_own hq)) g_4 e_2 dX0_give_134 (fun H locs hP hS => ?_)
  refine lv_aload_n hx hb dX0_give_135 rfl (lv_at hl 0 rfl) ?_
  refine lv_dup hx hb dX0_give_136 rfl ?_
  refine gf_X0_67 X hP (kA_0 hq) dX0_give_137 ?_
  refine lv_lconst (v := 1) hx hb dX0_give_140 rfl ?_
  refine lv_iload_n hx hb dX0_give_141 rfl (lv_at hl 1 rfl) ?_
  refine lv_lshl (v := (1 <<< (Int32.toInt64 v1 &&& 63))) hx hb dX0_give_142 rfl ?_
  refine lv_lconst (v := 1) hx hb dX0_give_143 rfl ?_
  refine lv_iload_n hx hb dX0_give_144 rfl (lv_at hl 2 rfl) ?_
  refine lv_lshl (v := (1 <<< (Int32.toInt64 v2 &&& 63))) hx hb dX0_give_145 rfl ?_
  refine lv_lor hx hb dX0_give_146 ?_
  refine lv_lor hx hb dX0_give_147 ?_
  obtain ⟨M_3, e_3, h⟩ := lt_el h
  refine pf_X0_67 X hP hS (kA_0 hq) e_3 dX0_give_148 (fun H locs hP hS => ?_)
  refine lv_iconst (v := 0) hx hb dX0_give_151 (by decide) ?_
  exact r_iret X hP hS (pr1 h) (pr2 h) dX0_give_152
def f_X0_give_18 (q : Nat) (M : Mem) (v1 : Int32) (v2 : Int32) (v3 : Int32) : Option (Int32 × Mem) :=
  if v3 = 0 then (gd (inR v1 40) <| gd (inR v2 40) <| if (gI M (q + 1 + 3) v1.toNatClampNeg) = (gI M (q + 1 + 3) v2.toNatClampNeg) then (if (gL M q 6) < 0 then (some (6, M)) else (gd (inR v1 40) <| if (gL M (q + 1 + 2) v1.toNatClampNeg) < (gL M q 6) then (some (6, M)) else (if v1 = v2 then (f_X0_give_103 q M v1 v2) else (gd (inR v2 40) <| if ((gL M (q + 1 + 2) v2.toNatClampNeg) + (gL M q 6)) ≤ 1000000000 then (f_X0_give_103 q M v1 v2) else (some (6, M)))))) else (some (7, M))) else (some (v3, M))
set_option maxRecDepth 100000 in
set_option maxHeartbeats 4000000 in
theorem w_X0_give_18 (X : Cx p s m args meth c cX0_give RX0 4 (some .int) G cy) {q : Nat} (hq : isA q) {out : Int32 × Mem} {M : Mem} {v1 : Int32} {v2 : Int32} {v3 : Int32} (hP : Pic G B cy nT M H) (hS : va_S (FB B) s.heap H locs) (hl : lv_has ls 4 [(0, .ref (B + q)), (1, .int v1), (2, .int v2), (3, .int v3)]) (h : f_X0_give_18 q M v1 v2 v3 = some out) : W p l e rmX0_give s m args below meth c H locs 0 0 (MQ below (Qi G B cy nT out.1 out.2) args s 0 0 (FB B)) (F0 m 18 ls []) := by
  obtain ⟨hx, hb, hr, hml, hown, hts, hKn, hlk⟩ := id X
  unfold f_X0_give_18 at h
  refine lv_iload_n hx hb dX0_give_18 rfl (lv_at hl 3 rfl) ?_
  refine lv_if_eq (tgt := 24) hx hb dX0_give_19 (by decide) (fun hc => ?_) (fun hc => ?_)
  · replace h := if_elp h hc
    refine lv_aload_n hx hb dX0_give_24 rfl (lv_at hl 0 rfl) ?_
    refine gf_X0_12 X hP (kA_0 hq) dX0_give_25 ?_
    refine gf_X0_186 X hP (kC_0 (kA_own hq)) dX0_give_28 ?_
    refine lv_iload_n hx hb dX0_give_31 rfl (lv_at hl 1 rfl) ?_
    obtain ⟨g_1, h⟩ := gd_el h
    refine r_iald X hP (kC_3 (kA_own hq)) g_1 dX0_give_32 ?_
    refine lv_aload_n hx hb dX0_give_33 rfl (lv_at hl 0 rfl) ?_
    refine gf_X0_12 X hP (kA_0 hq) dX0_give_34 ?_
    refine gf_X0_186 X hP (kC_0 (kA_own hq)) dX0_give_37 ?_
    refine lv_iload_n hx hb dX0_give_40 rfl (lv_at hl 2 rfl) ?_
    obtain ⟨g_2, h⟩ := gd_el h
    refine r_iald X hP (kC_3 (kA_own hq)) g_2 dX0_give_41 ?_
    refine lv_icmp_eq (tgt := 48) hx hb dX0_give_42 (by decide) (fun hc => ?_) (fun hc => ?_)
    · replace h := if_elp h hc
      refine lv_aload_n hx hb dX0_give_48 rfl (lv_at hl 0 rfl) ?_
      refine gf_X0_60 X hP (kA_0 hq) dX0_give_49 ?_
      refine lv_lconst (v := 0) hx hb dX0_give_52 rfl ?_
      refine W.lcmp hx hb dX0_give_53 ?_
      refine lv_if_lt (tgt := 100) hx hb dX0_give_54 (by decide) (fun hc => ?_) (fun hc => ?_)
      · replace h := if_elp h (lc_lt.mp hc)
        refine lv_bipush (v := 6) hx hb dX0_give_100 (by decide) ?_
        exact r_iret X hP hS (pr1 h) (pr2 h) dX0_give_102
      · replace h := if_eln h (fun z => hc (lc_lt.mpr z))
        refine lv_aload_n hx hb dX0_give_57 rfl (lv_at hl 0 rfl) ?_
        refine gf_X0_60 X hP (kA_0 hq) dX0_give_58 ?_
        refine lv_aload_n hx hb dX0_give_61 rfl (lv_at hl 0 rfl) ?_
        refine gf_X0_12 X hP (kA_0 hq) dX0_give_62 ?_
        refine gf_X0_175 X hP (kC_0 (kA_own hq)) dX0_give_65 ?_
        refine lv_iload_n hx hb dX0_give_68 rfl (lv_at hl 1 rfl) ?_
        obtain ⟨g_3, h⟩ := gd_el h
        refine r_lald X hP (kC_2 (kA_own hq)) g_3 dX0_give_69 ?_
        refine W.lcmp hx hb dX0_give_70 ?_
        refine lv_if_gt (tgt := 100) hx hb dX0_give_71 (by decide) (fun hc => ?_) (fun hc => ?_)
        · replace h := if_elp h (lc_gt.mp hc)
          refine lv_bipush (v := 6) hx hb dX0_give_100 (by decide) ?_
          exact r_iret X hP hS (pr1 h) (pr2 h) dX0_give_102
        · replace h := if_eln h (fun z => hc (lc_gt.mpr z))
          refine lv_iload_n hx hb dX0_give_74 rfl (lv_at hl 1 rfl) ?_
          refine lv_iload_n hx hb dX0_give_75 rfl (lv_at hl 2 rfl) ?_
          refine lv_icmp_eq (tgt := 103) hx hb dX0_give_76 (by decide) (fun hc => ?_) (fun hc => ?_)
          · replace h := if_elp h hc
            exact w_X0_give_103 X hq hP hS (lv_sub hl [0, 1, 2] rfl) h
          · replace h := if_eln h hc
            refine lv_aload_n hx hb dX0_give_79 rfl (lv_at hl 0 rfl) ?_
            refine gf_X0_12 X hP (kA_0 hq) dX0_give_80 ?_
            refine gf_X0_175 X hP (kC_0 (kA_own hq)) dX0_give_83 ?_
            refine lv_iload_n hx hb dX0_give_86 rfl (lv_at hl 2 rfl) ?_
            obtain ⟨g_4, h⟩ := gd_el h
            refine r_lald X hP (kC_2 (kA_own hq)) g_4 dX0_give_87 ?_
            refine lv_aload_n hx hb dX0_give_88 rfl (lv_at hl 0 rfl) ?_
            refine gf_X0_60 X hP (kA_0 hq) dX0_give_89 ?_
            refine lv_ladd hx hb dX0_give_92 ?_
            refine lv_ldc2 (v := 1000000000) hx hb hown (hts _ k_409) dX0_give_93 ?_
            refine W.lcmp hx hb dX0_give_96 ?_
            refine lv_if_le (tgt := 103) hx hb dX0_give_97 (by decide) (fun hc => ?_) (fun hc => ?_)
            · replace h := if_elp h (lc_le.mp hc)
              exact w_X0_give_103 X hq hP hS (lv_sub hl [0, 1, 2] rfl) h
            · replace h := if_eln h (fun z => hc (lc_le.mpr z))
              refine lv_bipush (v := 6) hx hb dX0_give_100 (by decide) ?_
              exact r_iret X hP hS (pr1 h) (pr2 h) dX0_give_102
    · replace h := if_eln h hc
      refine lv_bipush (v := 7) hx hb dX0_give_45 (by decide) ?_
      exact r_iret X hP hS (pr1 h) (pr2 h) dX0_give_47
  · replace h := if_eln h hc
    refine lv_iload_n hx hb dX0_give_22 rfl (lv_at hl 3 rfl) ?_
    exact r_iret X hP hS (pr1 h) (pr2 h) dX0_give_23
def f_X0_give (q : Nat) (M : Mem) (a1 : Int32) (a2 : Int32) : Option (Int32 × Mem) :=
  Option.bind (f_X0_look q M a1 2) fun r_1 => if r_1.1 = 0 then (Option.bind (f_X0_look q r_1.2 a2 2) fun r_2 => f_X0_give_18 q r_2.2 a1 a2 r_2.1) else (f_X0_give_18 q r_1.2 a1 a2 r_1.1)
set_option maxRecDepth 100000 in
set_option maxHeartbeats 4000000 in
theorem c_X0_give {l : Launch} {G : va_G} {cy : Nat → ClassId} {B nT : Nat} {q : Nat} (hq : isA q) {M : Mem} {a1 : Int32} {a2 : Int32} {out : Int32 × Mem} (h : f_X0_give q M a1 a2 = some out) : Met l yX0_give (wsU yX0_give cX0_give 4 (some .int)) rmX0_give (va_Pc [.ref (B + q), .int a1, .int a2] (PU G B cy nT M)) (Qi G B cy nT out.1 out.2) 0 0 (FB B) := by
  refine r_met (by decide +kernel) RX0 rfl (Nat.le_of_ble_eq_true rfl) ?_
  intro p e s m args below meth c ls X hP hl
  have hl : lv_has ls 4 [(0, .ref (B + q)), (1, .int a1), (2, .int a2)] := hl
  have hS : va_S (FB B) s.heap s.heap [] := va_S.rf
  obtain ⟨hx, hb, hr, hml, hown, hts, hKn, hlk⟩ := id X
  unfold f_X0_give at h
  refine lv_aload_n hx hb dX0_give_0 rfl (lv_at hl 0 rfl) ?_
  refine lv_iload_n hx hb dX0_give_1 rfl (lv_at hl 1 rfl) ?_
  refine lv_iconst (v := 2) hx hb dX0_give_2 (by decide) ?_
  obtain ⟨r_1, h_1, h⟩ := bd_el h
  refine cl_i (rn_V (C := RX0) (ci := 0) X hP (c_X0_look hq h_1) (kA_0 hq) rfl k_382 k_383 k_887 k_8 k_384 rfl hd_X0_look (n := 2) ⟨⟨rfl, rfl⟩, Nat.le_of_ble_eq_true rfl, Nat.le_of_ble_eq_true rfl⟩ (As := [.int a1, .int 2]) (rest := []) rfl hl.1 rfl (Nat.le_of_ble_eq_true rfl) dX0_give_3 ⟨Nat.zero_le _, Nat.zero_le _⟩) hS (fun H locs hP hS => ?_)
  refine lv_istore_n (lv' := [(3, .int r_1.1), (0, .ref (B + q)), (1, .int a1), (2, .int a2)]) hx hb dX0_give_6 rfl hl (by decide) rfl (fun ls hl => ?_)
  refine lv_iload_n hx hb dX0_give_7 rfl (lv_at hl 0 rfl) ?_
  refine lv_if_ne (tgt := 18) hx hb dX0_give_8 (by decide) (fun hc => ?_) (fun hc => ?_)
  · replace h := if_eln h hc
    exact w_X0_give_18 X hq hP hS (lv_sub hl [1, 2, 3, 0] rfl) h
  · replace h := if_elp h hc
    refine lv_aload_n hx hb dX0_give_11 rfl (lv_at hl 1 rfl) ?_
    refine lv_iload_n hx hb dX0_give_12 rfl (lv_at hl 3 rfl) ?_
    refine lv_iconst (v := 2) hx hb dX0_give_13 (by decide) ?_
    obtain ⟨r_2, h_2, h⟩ := bd_el h
    refine cl_i (rn_V (C := RX0) (ci := 0) X hP (c_X0_look hq h_2) (kA_0 hq) rfl k_382 k_383 k_887 k_8 k_384 rfl hd_X0_look (n := 2) ⟨⟨rfl, rfl⟩, Nat.le_of_ble_eq_true rfl, Nat.le_of_ble_eq_true rfl⟩ (As := [.int a2, .int 2]) (rest := []) rfl hl.1 rfl (Nat.le_of_ble_eq_true rfl) dX0_give_14 ⟨Nat.zero_le _, Nat.zero_le _⟩) hS (fun H locs hP hS => ?_)
    refine lv_istore_n (lv' := [(3, .int r_2.1), (0, .ref (B + q)), (1, .int a1), (2, .int a2)]) hx hb dX0_give_17 rfl hl (by decide) rfl (fun ls hl => ?_)
    exact w_X0_give_18 X hq hP hS (lv_sub hl [1, 2, 3, 0] rfl) h
end METHS

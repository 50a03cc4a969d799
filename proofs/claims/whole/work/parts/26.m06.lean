section METHS
variable {p : Program} {l : Launch} {e : Env} {s : State} {m : MethodId} {args : Array Value} {below : List Frame} {meth : Method} {c : Code} {H : Heap} {locs : List Loc} {G : va_G} {cy : Nat → ClassId} {B nT : Nat} {ls : Array Slot}
abbrev rmX9_holdsNow : Room := { frames := 0, cells := 0, slots := 0, locals := 0 }
def f_X9_holdsNow (M : Mem) (a1 : Int32) : Option (Int32) :=
  lt ((40 * (gI M 119 46)) + a1) fun v_1 => gd (inR v_1 160) <| if (bI (gB M 163 v_1.toNatClampNeg)) = 0 then (gd (inR a1 40) <| some (gI M 120 a1.toNatClampNeg)) else (gd (inR v_1 160) <| some (gI M 164 v_1.toNatClampNeg))
set_option maxRecDepth 100000 in
set_option maxHeartbeats 4000000 in
theorem c_X9_holdsNow {l : Launch} {G : va_G} {cy : Nat → ClassId} {B nT : Nat} {M : Mem} {a1 : Int32} {out : Int32} (h : f_X9_holdsNow M a1 = some out) : Met l yX9_holdsNow (wsU yX9_holdsNow cX9_holdsNow 3 (some .int)) rmX9_holdsNow (va_Pc [.ref (B + 119), .int a1] (PU G B cy nT M)) (Qi G B cy nT out M) 0 0 (FB B) := by
  refine r_met (by decide +kernel) RX9 rfl (Nat.le_of_ble_eq_true rfl) ?_
  intro p e s m args below meth c ls X hP hl
  have hl : lv_has ls 3 [(0, .ref (B + 119)), (1, .int a1)] := hl
  have hS : va_S (FB B) s.heap s.heap [] := va_S.rf
  obtain ⟨hx, hb, hr, hml, hown, hts, hKn, hlk⟩ := id X
  unfold f_X9_holdsNow at h
  refine lv_bipush (v := 40) hx hb dX9_holdsNow_0 (by decide) ?_
  refine lv_aload_n hx hb dX9_holdsNow_2 rfl (lv_at hl 0 rfl) ?_
  refine gf_X9_267 X hP dX9_holdsNow_3 ?_
  refine lv_imul hx hb dX9_holdsNow_6 ?_
  refine lv_iload_n hx hb dX9_holdsNow_7 rfl (lv_at hl 1 rfl) ?_
  refine lv_iadd hx hb dX9_holdsNow_8 ?_
  obtain ⟨v_1, e_1, h⟩ := lt_el h
  refine r_topi e_1 ?_
  refine lv_istore_n (lv' := [(2, .int v_1), (0, .ref (B + 119)), (1, .int a1)]) hx hb dX9_holdsNow_9 rfl hl (by decide) rfl (fun ls hl => ?_)
  refine lv_aload_n hx hb dX9_holdsNow_10 rfl (lv_at hl 1 rfl) ?_
  refine gf_X9_145 X hP dX9_holdsNow_11 ?_
  refine lv_iload_n hx hb dX9_holdsNow_14 rfl (lv_at hl 0 rfl) ?_
  obtain ⟨g_1, h⟩ := gd_el h
  refine r_zald X hP kq_163 g_1 dX9_holdsNow_15 ?_
  refine lv_if_eq (tgt := 28) hx hb dX9_holdsNow_16 (by decide) (fun hc => ?_) (fun hc => ?_)
  · replace h := if_elp h hc
    refine lv_aload_n hx hb dX9_holdsNow_28 rfl (lv_at hl 1 rfl) ?_
    refine gf_X9_7 X hP dX9_holdsNow_29 ?_
    refine lv_iload_n hx hb dX9_holdsNow_32 rfl (lv_at hl 2 rfl) ?_
    obtain ⟨g_2, h⟩ := gd_el h
    refine r_iald X hP kq_120 g_2 dX9_holdsNow_33 ?_
    exact r_iret X hP hS (pr0 h) rfl dX9_holdsNow_34
  · replace h := if_eln h hc
    refine lv_aload_n hx hb dX9_holdsNow_19 rfl (lv_at hl 1 rfl) ?_
    refine gf_X9_148 X hP dX9_holdsNow_20 ?_
    refine lv_iload_n hx hb dX9_holdsNow_23 rfl (lv_at hl 0 rfl) ?_
    obtain ⟨g_3, h⟩ := gd_el h
    refine r_iald X hP kq_164 g_3 dX9_holdsNow_24 ?_
    refine lv_goto (tgt := 34) hx hb dX9_holdsNow_25 (by decide) ?_
    exact r_iret X hP hS (pr0 h) rfl dX9_holdsNow_34
abbrev rmX9_numberNow : Room := { frames := 0, cells := 0, slots := 0, locals := 0 }
def f_X9_numberNow (M : Mem) (a1 : Int32) : Option (Int64) :=
  lt ((40 * (gI M 119 46)) + a1) fun v_1 => gd (inR v_1 160) <| if (bI (gB M 163 v_1.toNatClampNeg)) = 0 then (gd (inR a1 40) <| some (gL M 121 a1.toNatClampNeg)) else (gd (inR v_1 160) <| some (gL M 165 v_1.toNatClampNeg))
set_option maxRecDepth 100000 in
set_option maxHeartbeats 4000000 in
theorem c_X9_numberNow {l : Launch} {G : va_G} {cy : Nat → ClassId} {B nT : Nat} {M : Mem} {a1 : Int32} {out : Int64} (h : f_X9_numberNow M a1 = some out) : Met l yX9_numberNow (wsU yX9_numberNow cX9_numberNow 3 (some .long)) rmX9_numberNow (va_Pc [.ref (B + 119), .int a1] (PU G B cy nT M)) (Ql G B cy nT out M) 0 0 (FB B) := by
  refine r_met (by decide +kernel) RX9 rfl (Nat.le_of_ble_eq_true rfl) ?_
  intro p e s m args below meth c ls X hP hl
  have hl : lv_has ls 3 [(0, .ref (B + 119)), (1, .int a1)] := hl
  have hS : va_S (FB B) s.heap s.heap [] := va_S.rf
  obtain ⟨hx, hb, hr, hml, hown, hts, hKn, hlk⟩ := id X
  unfold f_X9_numberNow at h
  refine lv_bipush (v := 40) hx hb dX9_numberNow_0 (by decide) ?_
  refine lv_aload_n hx hb dX9_numberNow_2 rfl (lv_at hl 0 rfl) ?_
  refine gf_X9_267 X hP dX9_numberNow_3 ?_
  refine lv_imul hx hb dX9_numberNow_6 ?_
  refine lv_iload_n hx hb dX9_numberNow_7 rfl (lv_at hl 1 rfl) ?_
  refine lv_iadd hx hb dX9_numberNow_8 ?_
  obtain ⟨v_1, e_1, h⟩ := lt_el h
  refine r_topi e_1 ?_
  refine lv_istore_n (lv' := [(2, .int v_1), (0, .ref (B + 119)), (1, .int a1)]) hx hb dX9_numberNow_9 rfl hl (by decide) rfl (fun ls hl => ?_)
  refine lv_aload_n hx hb dX9_numberNow_10 rfl (lv_at hl 1 rfl) ?_
  refine gf_X9_145 X hP dX9_numberNow_11 ?_
  refine lv_iload_n hx hb dX9_numberNow_14 rfl (lv_at hl 0 rfl) ?_
  obtain ⟨g_1, h⟩ := gd_el h
  refine r_zald X hP kq_163 g_1 dX9_numberNow_15 ?_
  refine lv_if_eq (tgt := 28) hx hb dX9_numberNow_16 (by decide) (fun hc => ?_) (fun hc => ?_)
  · replace h := if_elp h hc
    refine lv_aload_n hx hb dX9_numberNow_28 rfl (lv_at hl 1 rfl) ?_
    refine gf_X9_13 X hP dX9_numberNow_29 ?_
    refine lv_iload_n hx hb dX9_numberNow_32 rfl (lv_at hl 2 rfl) ?_
    obtain ⟨g_2, h⟩ := gd_el h
    refine r_lald X hP kq_121 g_2 dX9_numberNow_33 ?_
    exact r_lret X hP hS (pr0 h) rfl dX9_numberNow_34
  · replace h := if_eln h hc
    refine lv_aload_n hx hb dX9_numberNow_19 rfl (lv_at hl 1 rfl) ?_
    refine gf_X9_151 X hP dX9_numberNow_20 ?_
    refine lv_iload_n hx hb dX9_numberNow_23 rfl (lv_at hl 0 rfl) ?_
    obtain ⟨g_3, h⟩ := gd_el h
    refine r_lald X hP kq_165 g_3 dX9_numberNow_24 ?_
    refine lv_goto (tgt := 34) hx hb dX9_numberNow_25 (by decide) ?_
    exact r_lret X hP hS (pr0 h) rfl dX9_numberNow_34
abbrev rmX9_kindNow : Room := { frames := 0, cells := 0, slots := 0, locals := 0 }
def f_X9_kindNow (M : Mem) (a1 : Int32) : Option (Int32) :=
  lt ((40 * (gI M 119 46)) + a1) fun v_1 => gd (inR v_1 160) <| if (bI (gB M 163 v_1.toNatClampNeg)) = 0 then (gd (inR a1 40) <| some (gI M 122 a1.toNatClampNeg)) else (gd (inR v_1 160) <| some (gI M 166 v_1.toNatClampNeg))
set_option maxRecDepth 100000 in
set_option maxHeartbeats 4000000 in
theorem c_X9_kindNow {l : Launch} {G : va_G} {cy : Nat → ClassId} {B nT : Nat} {M : Mem} {a1 : Int32} {out : Int32} (h : f_X9_kindNow M a1 = some out) : Met l yX9_kindNow (wsU yX9_kindNow cX9_kindNow 3 (some .int)) rmX9_kindNow (va_Pc [.ref (B + 119), .int a1] (PU G B cy nT M)) (Qi G B cy nT out M) 0 0 (FB B) := by
  refine r_met (by decide +kernel) RX9 rfl (Nat.le_of_ble_eq_true rfl) ?_
  intro p e s m args below meth c ls X hP hl
  have hl : lv_has ls 3 [(0, .ref (B + 119)), (1, .int a1)] := hl
  have hS : va_S (FB B) s.heap s.heap [] := va_S.rf
  obtain ⟨hx, hb, hr, hml, hown, hts, hKn, hlk⟩ := id X
  unfold f_X9_kindNow at h
  refine lv_bipush (v := 40) hx hb dX9_kindNow_0 (by decide) ?_
  refine lv_aload_n hx hb dX9_kindNow_2 rfl (lv_at hl 0 rfl) ?_
  refine gf_X9_267 X hP dX9_kindNow_3 ?_
  refine lv_imul hx hb dX9_kindNow_6 ?_
  refine lv_iload_n hx hb dX9_kindNow_7 rfl (lv_at hl 1 rfl) ?_
  refine lv_iadd hx hb dX9_kindNow_8 ?_
  obtain ⟨v_1, e_1, h⟩ := lt_el h
  refine r_topi e_1 ?_
  refine lv_istore_n (lv' := [(2, .int v_1), (0, .ref (B + 119)), (1, .int a1)]) hx hb dX9_kindNow_9 rfl hl (by decide) rfl (fun ls hl => ?_)
  refine lv_aload_n hx hb dX9_kindNow_10 rfl (lv_at hl 1 rfl) ?_
  refine gf_X9_145 X hP dX9_kindNow_11 ?_
  refine lv_iload_n hx hb dX9_kindNow_14 rfl (lv_at hl 0 rfl) ?_
  obtain ⟨g_1, h⟩ := gd_el h
  refine r_zald X hP kq_163 g_1 dX9_kindNow_15 ?_
  refine lv_if_eq (tgt := 28) hx hb dX9_kindNow_16 (by decide) (fun hc => ?_) (fun hc => ?_)
  · replace h := if_elp h hc
    refine lv_aload_n hx hb dX9_kindNow_28 rfl (lv_at hl 1 rfl) ?_
    refine gf_X9_17 X hP dX9_kindNow_29 ?_
    refine lv_iload_n hx hb dX9_kindNow_32 rfl (lv_at hl 2 rfl) ?_
    obtain ⟨g_2, h⟩ := gd_el h
    refine r_iald X hP kq_122 g_2 dX9_kindNow_33 ?_
    exact r_iret X hP hS (pr0 h) rfl dX9_kindNow_34
  · replace h := if_eln h hc
    refine lv_aload_n hx hb dX9_kindNow_19 rfl (lv_at hl 1 rfl) ?_
    refine gf_X9_154 X hP dX9_kindNow_20 ?_
    refine lv_iload_n hx hb dX9_kindNow_23 rfl (lv_at hl 0 rfl) ?_
    obtain ⟨g_3, h⟩ := gd_el h
    refine r_iald X hP kq_166 g_3 dX9_kindNow_24 ?_
    refine lv_goto (tgt := 34) hx hb dX9_kindNow_25 (by decide) ?_
    exact r_iret X hP hS (pr0 h) rfl dX9_kindNow_34
abbrev rmX9_growerNow : Room := { frames := 0, cells := 0, slots := 0, locals := 0 }
def f_X9_growerNow (M : Mem) (a1 : Int32) : Option (Int32) :=
  lt ((40 * (gI M 119 46)) + a1) fun v_1 => gd (inR v_1 160) <| if (bI (gB M 163 v_1.toNatClampNeg)) = 0 then (gd (inR a1 40) <| some (gI M 123 a1.toNatClampNeg)) else (gd (inR v_1 160) <| some (gI M 167 v_1.toNatClampNeg))
set_option maxRecDepth 100000 in
set_option maxHeartbeats 4000000 in
theorem c_X9_growerNow {l : Launch} {G : va_G} {cy : Nat → ClassId} {B nT : Nat} {M : Mem} {a1 : Int32} {out : Int32} (h : f_X9_growerNow M a1 = some out) : Met l yX9_growerNow (wsU yX9_growerNow cX9_growerNow 3 (some .int)) rmX9_growerNow (va_Pc [.ref (B + 119), .int a1] (PU G B cy nT M)) (Qi G B cy nT out M) 0 0 (FB B) := by
  refine r_met (by decide +kernel) RX9 rfl (Nat.le_of_ble_eq_true rfl) ?_
  intro p e s m args below meth c ls X hP hl
  have hl : lv_has ls 3 [(0, .ref (B + 119)), (1, .int a1)] := hl
  have hS : va_S (FB B) s.heap s.heap [] := va_S.rf
  obtain ⟨hx, hb, hr, hml, hown, hts, hKn, hlk⟩ := id X
  unfold f_X9_growerNow at h
  refine lv_bipush (v := 40) hx hb dX9_growerNow_0 (by decide) ?_
  refine lv_aload_n hx hb dX9_growerNow_2 rfl (lv_at hl 0 rfl) ?_
  refine gf_X9_267 X hP dX9_growerNow_3 ?_
  refine lv_imul hx hb dX9_growerNow_6 ?_
  refine lv_iload_n hx hb dX9_growerNow_7 rfl (lv_at hl 1 rfl) ?_
  refine lv_iadd hx hb dX9_growerNow_8 ?_
  obtain ⟨v_1, e_1, h⟩ := lt_el h
  refine r_topi e_1 ?_
  refine lv_istore_n (lv' := [(2, .int v_1), (0, .ref (B + 119)), (1, .int a1)]) hx hb dX9_growerNow_9 rfl hl (by decide) rfl (fun ls hl => ?_)
  refine lv_aload_n hx hb dX9_growerNow_10 rfl (lv_at hl 1 rfl) ?_
  refine gf_X9_145 X hP dX9_growerNow_11 ?_
  refine lv_iload_n hx hb dX9_growerNow_14 rfl (lv_at hl 0 rfl) ?_
  obtain ⟨g_1, h⟩ := gd_el h
  refine r_zald X hP kq_163 g_1 dX9_growerNow_15 ?_
  refine lv_if_eq (tgt := 28) hx hb dX9_growerNow_16 (by decide) (fun hc => ?_) (fun hc => ?_)
  · replace h := if_elp h hc
    refine lv_aload_n hx hb dX9_growerNow_28 rfl (lv_at hl 1 rfl) ?_
    refine gf_X9_20 X hP dX9_growerNow_29 ?_
    refine lv_iload_n hx hb dX9_growerNow_32 rfl (lv_at hl 2 rfl) ?_
    obtain ⟨g_2, h⟩ := gd_el h
    refine r_iald X hP kq_123 g_2 dX9_growerNow_33 ?_
    exact r_iret X hP hS (pr0 h) rfl dX9_growerNow_34
  · replace h := if_eln h hc
    refine lv_aload_n hx hb dX9_growerNow_19 rfl (lv_at hl 1 rfl) ?_
    refine gf_X9_157 X hP dX9_growerNow_20 ?_
    refine lv_iload_n hx hb dX9_growerNow_23 rfl (lv_at hl 0 rfl) ?_
    obtain ⟨g_3, h⟩ := gd_el h
    refine r_iald X hP kq_167 g_3 dX9_growerNow_24 ?_
    refine lv_goto (tgt := 34) hx hb dX9_growerNow_25 (by decide) ?_
    exact r_iret X hP hS (pr0 h) rfl dX9_growerNow_34
abbrev rmX9_write : Room := { frames := 0, cells := 0, slots := 0, locals := 0 }
def f_X9_write (M : Mem) (a1 : Int32) (a2 : Int32) (a3 : Int64) (a5 : Int32) (a6 : Int32) : Option (Mem) :=
  lt ((40 * (gI M 119 46)) + a1) fun v_1 => gd (inR v_1 160) <| lt (sB M 163 v_1.toNatClampNeg (iB 1)) fun M_1 => gd (inR v_1 160) <| lt (sI M_1 164 v_1.toNatClampNeg a2) fun M_2 => gd (inR v_1 160) <| lt (sL M_2 165 v_1.toNatClampNeg a3) fun M_3 => gd (inR v_1 160) <| lt (sI M_3 166 v_1.toNatClampNeg a5) fun M_4 => gd (inR v_1 160) <| lt (sI M_4 167 v_1.toNatClampNeg a6) fun M_5 => some M_5
set_option maxRecDepth 100000 in
set_option maxHeartbeats 4000000 in
theorem c_X9_write {l : Launch} {G : va_G} {cy : Nat → ClassId} {B nT : Nat} {M : Mem} {a1 : Int32} {a2 : Int32} {a3 : Int64} {a5 : Int32} {a6 : Int32} {out : Mem} (h : f_X9_write M a1 a2 a3 a5 a6 = some out) : Met l yX9_write (wsU yX9_write cX9_write 8 none) rmX9_write (va_Pc [.ref (B + 119), .int a1, .int a2, .long a3, .int a5, .int a6] (PU G B cy nT M)) (Qv G B cy nT out) 0 0 (FB B) := by
  refine r_met (by decide +kernel) RX9 rfl (Nat.le_of_ble_eq_true rfl) ?_
  intro p e s m args below meth c ls X hP hl
  have hl : lv_has ls 8 [(0, .ref (B + 119)), (1, .int a1), (2, .int a2), (3, .long a3), (5, .int a5), (6, .int a6)] := hl
  have hS : va_S (FB B) s.heap s.heap [] := va_S.rf
  obtain ⟨hx, hb, hr, hml, hown, hts, hKn, hlk⟩ := id X
  unfold f_X9_write at h
  refine lv_bipush (v := 40) hx hb dX9_write_0 (by decide) ?_
  refine lv_aload_n hx hb dX9_write_2 rfl (lv_at hl 0 rfl) ?_
  refine gf_X9_267 X hP dX9_write_3 ?_
  refine lv_imul hx hb dX9_write_6 ?_
  refine lv_iload_n hx hb dX9_write_7 rfl (lv_at hl 1 rfl) ?_
  refine lv_iadd hx hb dX9_write_8 ?_
  obtain ⟨v_1, e_1, h⟩ := lt_el h
  refine r_topi e_1 ?_
  refine lv_istore (lv' := [(7, .int v_1), (0, .ref (B + 119)), (1, .int a1), (2, .int a2), (3, .long a3), (5, .int a5), (6, .int a6)]) hx hb dX9_write_9 hl (by decide) rfl (fun ls hl => ?_)
  refine lv_aload_n hx hb dX9_write_11 rfl (lv_at hl 1 rfl) ?_
  refine gf_X9_145 X hP dX9_write_12 ?_
  refine lv_iload hx hb dX9_write_15 (lv_at hl 0 rfl) ?_
  refine lv_iconst (v := 1) hx hb dX9_write_17 (by decide) ?_
  obtain ⟨g_1, h⟩ := gd_el h
  obtain ⟨M_1, e_2, h⟩ := lt_el h
  refine r_zast X hP hS kq_163 g_1 e_2 dX9_write_18 (fun H locs hP hS => ?_)
  refine lv_aload_n hx hb dX9_write_19 rfl (lv_at hl 1 rfl) ?_
  refine gf_X9_148 X hP dX9_write_20 ?_
  refine lv_iload hx hb dX9_write_23 (lv_at hl 0 rfl) ?_
  refine lv_iload_n hx hb dX9_write_25 rfl (lv_at hl 3 rfl) ?_
  obtain ⟨g_2, h⟩ := gd_el h
  obtain ⟨M_2, e_3, h⟩ := lt_el h
  refine r_iast X hP hS kq_164 g_2 e_3 dX9_write_26 (fun H locs hP hS => ?_)
  refine lv_aload_n hx hb dX9_write_27 rfl (lv_at hl 1 rfl) ?_
  refine gf_X9_151 X hP dX9_write_28 ?_
  refine lv_iload hx hb dX9_write_31 (lv_at hl 0 rfl) ?_
  refine lv_lload_n hx hb dX9_write_33 rfl (lv_at hl 4 rfl) ?_
  obtain ⟨g_3, h⟩ := gd_el h
  obtain ⟨M_3, e_4, h⟩ := lt_el h
  refine r_last X hP hS kq_165 g_3 e_4 dX9_write_34 (fun H locs hP hS => ?_)
  refine lv_aload_n hx hb dX9_write_35 rfl (lv_at hl 1 rfl) ?_
  refine gf_X9_154 X hP dX9_write_36 ?_
  refine lv_iload hx hb dX9_write_39 (lv_at hl 0 rfl) ?_
  refine lv_iload hx hb dX9_write_41 (lv_at hl 5 rfl) ?_
  obtain ⟨g_4, h⟩ := gd_el h
  obtain ⟨M_4, e_5, h⟩ := lt_el h
  refine r_iast X hP hS kq_166 g_4 e_5 dX9_write_43 (fun H locs hP hS => ?_)
  refine lv_aload_n hx hb dX9_write_44 rfl (lv_at hl 1 rfl) ?_
  refine gf_X9_157 X hP dX9_write_45 ?_
  refine lv_iload hx hb dX9_write_48 (lv_at hl 0 rfl) ?_
  refine lv_iload hx hb dX9_write_50 (lv_at hl 6 rfl) ?_
  obtain ⟨g_5, h⟩ := gd_el h
  obtain ⟨M_5, e_6, h⟩ := lt_el h
  refine r_iast X hP hS kq_167 g_5 e_6 dX9_write_52 (fun H locs hP hS => ?_)
  exact r_vret X hP hS (pr0 h) dX9_write_53
abbrev rmX9_is : Room := { frames := 1, cells := 0, slots := 0, locals := 22 }
def f_X9_is_30 (M : Mem) (s0 : Int32) : Option (Bool × Mem) :=
  lt (sI M 119 78 s0) fun M_1 => if (gI M_1 119 78) = 0 then (some (true, M_1)) else (some (false, M_1))
set_option maxRecDepth 100000 in
set_option maxHeartbeats 4000000 in
theorem w_X9_is_30 (X : Cx p s m args meth c cX9_is RX9 4 (some .boolean) G cy) {out : Bool × Mem} {M : Mem} {s0 : Int32} (hP : Pic G B cy nT M H) (hS : va_S (FB B) s.heap H locs) (hl : lv_has ls 4 [(0, .ref (B + 119))]) (h : f_X9_is_30 M s0 = some out) : W p l e rmX9_is s m args below meth c H locs 0 0 (MQ below (Qi G B cy nT (bI out.1) out.2) args s 0 0 (FB B)) (F0 m 30 ls [.int s0, .ref (B + 119)]) := by
  obtain ⟨hx, hb, hr, hml, hown, hts, hKn, hlk⟩ := id X
  unfold f_X9_is_30 at h
  obtain ⟨M_1, e_1, h⟩ := lt_el h
  refine pf_X9_278 X hP hS e_1 dX9_is_30 (fun H locs hP hS => ?_)
  refine lv_aload_n hx hb dX9_is_33 rfl (lv_at hl 0 rfl) ?_
  refine gf_X9_278 X hP dX9_is_34 ?_
  refine lv_if_ne (tgt := 44) hx hb dX9_is_37 (by decide) (fun hc => ?_) (fun hc => ?_)
  · replace h := if_eln h hc
    refine lv_iconst (v := 0) hx hb dX9_is_44 (by decide) ?_
    exact r_zret X hP hS rfl (prb h) (pr2 h) dX9_is_45
  · replace h := if_elp h hc
    refine lv_iconst (v := 1) hx hb dX9_is_40 (by decide) ?_
    refine lv_goto (tgt := 45) hx hb dX9_is_41 (by decide) ?_
    exact r_zret X hP hS rfl (prb h) (pr2 h) dX9_is_45
def f_X9_is (M : Mem) (a1 : Int32) (a2 : Int32) : Option (Bool × Mem) :=
  Option.bind (f_X9_look M a1) fun r_1 => Option.bind (f_X9_holdsNow r_1 a1) fun r_2 => if r_2 = 0 then (f_X9_is_30 r_1 1) else (if r_2 = a2 then (f_X9_is_30 r_1 0) else (f_X9_is_30 r_1 3))
set_option maxRecDepth 100000 in
set_option maxHeartbeats 4000000 in
theorem c_X9_is {l : Launch} {G : va_G} {cy : Nat → ClassId} {B nT : Nat} {M : Mem} {a1 : Int32} {a2 : Int32} {out : Bool × Mem} (h : f_X9_is M a1 a2 = some out) : Met l yX9_is (wsU yX9_is cX9_is 4 (some .boolean)) rmX9_is (va_Pc [.ref (B + 119), .int a1, .int a2] (PU G B cy nT M)) (Qi G B cy nT (bI out.1) out.2) 0 0 (FB B) := by
  refine r_met (by decide +kernel) RX9 rfl (Nat.le_of_ble_eq_true rfl) ?_
  intro p e s m args below meth c ls X hP hl
  have hl : lv_has ls 4 [(0, .ref (B + 119)), (1, .int a1), (2, .int a2)] := hl
  have hS : va_S (FB B) s.heap s.heap [] := va_S.rf
  obtain ⟨hx, hb, hr, hml, hown, hts, hKn, hlk⟩ := id X
  unfold f_X9_is at h
  refine lv_aload_n hx hb dX9_is_0 rfl (lv_at hl 0 rfl) ?_
  refine lv_iload_n hx hb dX9_is_1 rfl (lv_at hl 1 rfl) ?_
  obtain ⟨r_1, h_1, h⟩ := bd_el h
  refine cl_v (rn_V (C := RX9) (ci := 9) X hP (c_X9_look h_1) kq_119 rfl k_748 k_749 k_915 k_9 k_750 rfl hd_X9_look (n := 1) ⟨⟨rfl, rfl⟩, Nat.le_of_ble_eq_true rfl, Nat.le_of_ble_eq_true rfl⟩ (As := [.int a1]) (rest := []) rfl hl.1 rfl (Nat.le_of_ble_eq_true rfl) dX9_is_2 ⟨Nat.zero_le _, Nat.zero_le _⟩) hS (fun H locs hP hS => ?_)
  refine lv_aload_n hx hb dX9_is_5 rfl (lv_at hl 0 rfl) ?_
  refine lv_iload_n hx hb dX9_is_6 rfl (lv_at hl 1 rfl) ?_
  obtain ⟨r_2, h_2, h⟩ := bd_el h
  refine cl_i (rn_V (C := RX9) (ci := 9) X hP (c_X9_holdsNow h_2) kq_119 rfl k_751 k_752 k_916 k_9 k_753 rfl hd_X9_holdsNow (n := 1) ⟨⟨rfl, rfl⟩, Nat.le_of_ble_eq_true rfl, Nat.le_of_ble_eq_true rfl⟩ (As := [.int a1]) (rest := []) rfl hl.1 rfl (Nat.le_of_ble_eq_true rfl) dX9_is_7 ⟨Nat.zero_le _, Nat.zero_le _⟩) hS (fun H locs hP hS => ?_)
  refine lv_istore_n (lv' := [(3, .int r_2), (0, .ref (B + 119)), (1, .int a1), (2, .int a2)]) hx hb dX9_is_10 rfl hl (by decide) rfl (fun ls hl => ?_)
  refine lv_aload_n hx hb dX9_is_11 rfl (lv_at hl 1 rfl) ?_
  refine lv_iload_n hx hb dX9_is_12 rfl (lv_at hl 0 rfl) ?_
  refine lv_if_ne (tgt := 20) hx hb dX9_is_13 (by decide) (fun hc => ?_) (fun hc => ?_)
  · replace h := if_eln h hc
    refine lv_iload_n hx hb dX9_is_20 rfl (lv_at hl 0 rfl) ?_
    refine lv_iload_n hx hb dX9_is_21 rfl (lv_at hl 3 rfl) ?_
    refine lv_icmp_ne (tgt := 29) hx hb dX9_is_22 (by decide) (fun hc => ?_) (fun hc => ?_)
    · replace h := if_eln h hc
      refine lv_iconst (v := 3) hx hb dX9_is_29 (by decide) ?_
      exact w_X9_is_30 X hP hS (lv_sub hl [1] rfl) h
    · replace h := if_elp h hc
      refine lv_iconst (v := 0) hx hb dX9_is_25 (by decide) ?_
      refine lv_goto (tgt := 30) hx hb dX9_is_26 (by decide) ?_
      exact w_X9_is_30 X hP hS (lv_sub hl [1] rfl) h
  · replace h := if_elp h hc
    refine lv_iconst (v := 1) hx hb dX9_is_16 (by decide) ?_
    refine lv_goto (tgt := 30) hx hb dX9_is_17 (by decide) ?_
    exact w_X9_is_30 X hP hS (lv_sub hl [1] rfl) h
abbrev rmX9_addsUp : Room := { frames := 0, cells := 0, slots := 0, locals := 0 }
def f_X9_addsUp (a0 : Int64) (a2 : Int64) : Option (Bool) :=
  if a2 < 0 then (if a0 < ((-9223372036854775808) - a2) then (some false) else (some true)) else (if (9223372036854775807 - a2) < a0 then (some false) else (some true))
set_option maxRecDepth 100000 in
set_option maxHeartbeats 4000000 in
theorem c_X9_addsUp {l : Launch} {G : va_G} {cy : Nat → ClassId} {B nT : Nat} {M : Mem} {a0 : Int64} {a2 : Int64} {out : Bool} (h : f_X9_addsUp a0 a2 = some out) : Met l yX9_addsUp (wsU yX9_addsUp cX9_addsUp 4 (some .boolean)) rmX9_addsUp (va_Pc [.long a0, .long a2] (PU G B cy nT M)) (Qi G B cy nT (bI out) M) 0 0 (FB B) := by
  refine r_met (by decide +kernel) RX9 rfl (Nat.le_of_ble_eq_true rfl) ?_
  intro p e s m args below meth c ls X hP hl
  have hl : lv_has ls 4 [(0, .long a0), (2, .long a2)] := hl
  have hS : va_S (FB B) s.heap s.heap [] := va_S.rf
  obtain ⟨hx, hb, hr, hml, hown, hts, hKn, hlk⟩ := id X
  unfold f_X9_addsUp at h
  refine lv_lload_n hx hb dX9_addsUp_0 rfl (lv_at hl 1 rfl) ?_
  refine lv_lconst (v := 0) hx hb dX9_addsUp_1 rfl ?_
  refine W.lcmp hx hb dX9_addsUp_2 ?_
  refine lv_if_lt (tgt := 24) hx hb dX9_addsUp_3 (by decide) (fun hc => ?_) (fun hc => ?_)
  · replace h := if_elp h (lc_lt.mp hc)
    refine lv_lload_n hx hb dX9_addsUp_24 rfl (lv_at hl 0 rfl) ?_
    refine lv_ldc2 (v := (-9223372036854775808)) hx hb hown (hts _ k_767) dX9_addsUp_25 ?_
    refine lv_lload_n hx hb dX9_addsUp_28 rfl (lv_at hl 1 rfl) ?_
    refine lv_lsub hx hb dX9_addsUp_29 ?_
    refine W.lcmp hx hb dX9_addsUp_30 ?_
    refine lv_if_lt (tgt := 38) hx hb dX9_addsUp_31 (by decide) (fun hc => ?_) (fun hc => ?_)
    · replace h := if_elp h (lc_lt.mp hc)
      refine lv_iconst (v := 0) hx hb dX9_addsUp_38 (by decide) ?_
      exact r_zret X hP hS rfl (prz h) rfl dX9_addsUp_39
    · replace h := if_eln h (fun z => hc (lc_lt.mpr z))
      refine lv_iconst (v := 1) hx hb dX9_addsUp_34 (by decide) ?_
      refine lv_goto (tgt := 39) hx hb dX9_addsUp_35 (by decide) ?_
      exact r_zret X hP hS rfl (prz h) rfl dX9_addsUp_39
  · replace h := if_eln h (fun z => hc (lc_lt.mpr z))
    refine lv_lload_n hx hb dX9_addsUp_6 rfl (lv_at hl 0 rfl) ?_
    refine lv_ldc2 (v := 9223372036854775807) hx hb hown (hts _ k_766) dX9_addsUp_7 ?_
    refine lv_lload_n hx hb dX9_addsUp_10 rfl (lv_at hl 1 rfl) ?_
    refine lv_lsub hx hb dX9_addsUp_11 ?_
    refine W.lcmp hx hb dX9_addsUp_12 ?_
    refine lv_if_gt (tgt := 20) hx hb dX9_addsUp_13 (by decide) (fun hc => ?_) (fun hc => ?_)
    · replace h := if_elp h (lc_gt.mp hc)
      refine lv_iconst (v := 0) hx hb dX9_addsUp_20 (by decide) ?_
      refine lv_goto (tgt := 39) hx hb dX9_addsUp_21 (by decide) ?_
      exact r_zret X hP hS rfl (prz h) rfl dX9_addsUp_39
    · replace h := if_eln h (fun z => hc (lc_gt.mpr z))
      refine lv_iconst (v := 1) hx hb dX9_addsUp_16 (by decide) ?_
      refine lv_goto (tgt := 39) hx hb dX9_addsUp_17 (by decide) ?_
      exact r_zret X hP hS rfl (prz h) rfl dX9_addsUp_39
abbrev rmX9_timesUp : Room := { frames := 0, cells := 0, slots := 0, locals := 0 }
def f_X9_timesUp_48 (v0 : Int64) (v2 : Int64) : Option (Bool) :=
  gd (v2 != 0) <| if ((v0 * v2) / v2) = v0 then (some true) else (some false)
set_option maxRecDepth 100000 in
set_option maxHeartbeats 4000000 in
theorem w_X9_timesUp_48 (X : Cx p s m args meth c cX9_timesUp RX9 4 (some .boolean) G cy) {M : Mem} {out : Bool} {v0 : Int64} {v2 : Int64} (hP : Pic G B cy nT M H) (hS : va_S (FB B) s.heap H locs) (hl : lv_has ls 4 [(0, .long v0), (2, .long v2)]) (h : f_X9_timesUp_48 v0 v2 = some out) : W p l e rmX9_timesUp s m args below meth c H locs 0 0 (MQ below (Qi G B cy nT (bI out) M) args s 0 0 (FB B)) (F0 m 48 ls []) := by
  obtain ⟨hx, hb, hr, hml, hown, hts, hKn, hlk⟩ := id X
  unfold f_X9_timesUp_48 at h
  refine lv_lload_n hx hb dX9_timesUp_48 rfl (lv_at hl 0 rfl) ?_
  refine lv_lload_n hx hb dX9_timesUp_49 rfl (lv_at hl 1 rfl) ?_
  refine lv_lmul hx hb dX9_timesUp_50 ?_
  refine lv_lload_n hx hb dX9_timesUp_51 rfl (lv_at hl 1 rfl) ?_
  obtain ⟨g_1, h⟩ := gd_el h
  refine lv_ldiv hx hb dX9_timesUp_52 (bne_iff_ne.mp g_1) ?_
  refine lv_lload_n hx hb dX9_timesUp_53 rfl (lv_at hl 0 rfl) ?_
  refine W.lcmp hx hb dX9_timesUp_54 ?_
  refine lv_if_ne (tgt := 62) hx hb dX9_timesUp_55 (by decide) (fun hc => ?_) (fun hc => ?_)
  · replace h := if_eln h (fun z => hc (lc_eq.mpr z))
    refine lv_iconst (v := 0) hx hb dX9_timesUp_62 (by decide) ?_
    exact r_zret X hP hS rfl (prz h) rfl dX9_timesUp_63
  · replace h := if_elp h (lc_eq.mp hc)
    refine lv_iconst (v := 1) hx hb dX9_timesUp_58 (by decide) ?_
    refine lv_goto (tgt := 63) hx hb dX9_timesUp_59 (by decide) ?_
    exact r_zret X hP hS rfl (prz h) rfl dX9_timesUp_63
def f_X9_timesUp_30 (v0 : Int64) (v2 : Int64) : Option (Bool) :=
  if v2 = (-9223372036854775808) then (if v0 = (-1) then (some false) else (f_X9_timesUp_48 v0 v2)) else (f_X9_timesUp_48 v0 v2)
set_option maxRecDepth 100000 in
set_option maxHeartbeats 4000000 in
theorem w_X9_timesUp_30 (X : Cx p s m args meth c cX9_timesUp RX9 4 (some .boolean) G cy) {M : Mem} {out : Bool} {v0 : Int64} {v2 : Int64} (hP : Pic G B cy nT M H) (hS : va_S (FB B) s.heap H locs) (hl : lv_has ls 4 [(0, .long v0), (2, .long v2)]) (h : f_X9_timesUp_30 v0 v2 = some out) : W p l e rmX9_timesUp s m args below meth c H locs 0 0 (MQ below (Qi G B cy nT (bI out) M) args s 0 0 (FB B)) (F0 m 30 ls []) := by
  obtain ⟨hx, hb, hr, hml, hown, hts, hKn, hlk⟩ := id X
  unfold f_X9_timesUp_30 at h
  refine lv_lload_n hx hb dX9_timesUp_30 rfl (lv_at hl 1 rfl) ?_
  refine lv_ldc2 (v := (-9223372036854775808)) hx hb hown (hts _ k_767) dX9_timesUp_31 ?_
  refine W.lcmp hx hb dX9_timesUp_34 ?_
  refine lv_if_ne (tgt := 48) hx hb dX9_timesUp_35 (by decide) (fun hc => ?_) (fun hc => ?_)
  · replace h := if_eln h (fun z => hc (lc_eq.mpr z))
    exact w_X9_timesUp_48 X hP hS (lv_sub hl [0, 1] rfl) h
  · replace h := if_elp h (lc_eq.mp hc)
    refine lv_lload_n hx hb dX9_timesUp_38 rfl (lv_at hl 0 rfl) ?_
    refine lv_ldc2 (v := (-1)) hx hb hown (hts _ k_771) dX9_timesUp_39 ?_
    refine W.lcmp hx hb dX9_timesUp_42 ?_
    refine lv_if_ne (tgt := 48) hx hb dX9_timesUp_43 (by decide) (fun hc => ?_) (fun hc => ?_)
    · replace h := if_eln h (fun z => hc (lc_eq.mpr z))
      exact w_X9_timesUp_48 X hP hS (lv_sub hl [0, 1] rfl) h
    · replace h := if_elp h (lc_eq.mp hc)
      refine lv_iconst (v := 0) hx hb dX9_timesUp_46 (by decide) ?_
      exact r_zret X hP hS rfl (prz h) rfl dX9_timesUp_47
def f_X9_timesUp (a0 : Int64) (a2 : Int64) : Option (Bool) :=
  if a0 = 0 then (some true) else (if a2 = 0 then (some true) else (if a0 = (-9223372036854775808) then (if a2 = (-1) then (some false) else (f_X9_timesUp_30 a0 a2)) else (f_X9_timesUp_30 a0 a2)))
set_option maxRecDepth 100000 in
set_option maxHeartbeats 4000000 in
theorem c_X9_timesUp {l : Launch} {G : va_G} {cy : Nat → ClassId} {B nT : Nat} {M : Mem} {a0 : Int64} {a2 : Int64} {out : Bool} (h : f_X9_timesUp a0 a2 = some out) : Met l yX9_timesUp (wsU yX9_timesUp cX9_timesUp 4 (some .boolean)) rmX9_timesUp (va_Pc [.long a0, .long a2] (PU G B cy nT M)) (Qi G B cy nT (bI out) M) 0 0 (FB B) := by
  refine r_met (by decide +kernel) RX9 rfl (Nat.le_of_ble_eq_true rfl) ?_
  intro p e s m args below meth c ls X hP hl
  have hl : lv_has ls 4 [(0, .long a0), (2, .long a2)] := hl
  have hS : va_S (FB B) s.heap s.heap [] := va_S.rf
  obtain ⟨hx, hb, hr, hml, hown, hts, hKn, hlk⟩ := id X
  unfold f_X9_timesUp at h
  refine lv_lload_n hx hb dX9_timesUp_0 rfl (lv_at hl 0 rfl) ?_
  refine lv_lconst (v := 0) hx hb dX9_timesUp_1 rfl ?_
  refine W.lcmp hx hb dX9_timesUp_2 ?_
  refine lv_if_eq (tgt := 12) hx hb dX9_timesUp_3 (by decide) (fun hc => ?_) (fun hc => ?_)
  · replace h := if_elp h (lc_eq.mp hc)
    refine lv_iconst (v := 1) hx hb dX9_timesUp_12 (by decide) ?_
    exact r_zret X hP hS rfl (prz h) rfl dX9_timesUp_13
  · replace h := if_eln h (fun z => hc (lc_eq.mpr z))
    refine lv_lload_n hx hb dX9_timesUp_6 rfl (lv_at hl 1 rfl) ?_
    refine lv_lconst (v := 0) hx hb dX9_timesUp_7 rfl ?_
    refine W.lcmp hx hb dX9_timesUp_8 ?_
    refine lv_if_ne (tgt := 14) hx hb dX9_timesUp_9 (by decide) (fun hc => ?_) (fun hc => ?_)
    · replace h := if_eln h (fun z => hc (lc_eq.mpr z))
      refine lv_lload_n hx hb dX9_timesUp_14 rfl (lv_at hl 0 rfl) ?_
      refine lv_ldc2 (v := (-9223372036854775808)) hx hb hown (hts _ k_767) dX9_timesUp_15 ?_
      refine W.lcmp hx hb dX9_timesUp_18 ?_
      refine lv_if_ne (tgt := 30) hx hb dX9_timesUp_19 (by decide) (fun hc => ?_) (fun hc => ?_)
      · replace h := if_eln h (fun z => hc (lc_eq.mpr z))
        exact w_X9_timesUp_30 X hP hS (lv_sub hl [0, 1] rfl) h
      · replace h := if_elp h (lc_eq.mp hc)
        refine lv_lload_n hx hb dX9_timesUp_22 rfl (lv_at hl 1 rfl) ?_
        refine lv_ldc2 (v := (-1)) hx hb hown (hts _ k_771) dX9_timesUp_23 ?_
        refine W.lcmp hx hb dX9_timesUp_26 ?_
        refine lv_if_eq (tgt := 46) hx hb dX9_timesUp_27 (by decide) (fun hc => ?_) (fun hc => ?_)
        · replace h := if_elp h (lc_eq.mp hc)
          refine lv_iconst (v := 0) hx hb dX9_timesUp_46 (by decide) ?_
          exact r_zret X hP hS rfl (prz h) rfl dX9_timesUp_47
        · replace h := if_eln h (fun z => hc (lc_eq.mpr z))
          exact w_X9_timesUp_30 X hP hS (lv_sub hl [0, 1] rfl) h
    · replace h := if_elp h (lc_eq.mp hc)
      refine lv_iconst (v := 1) hx hb dX9_timesUp_12 (by decide) ?_
      exact r_zret X hP hS rfl (prz h) rfl dX9_timesUp_13
abbrev rmX9_picture : Room := { frames := 0, cells := 0, slots := 0, locals := 0 }
def f_X9_picture_2 : Nat → Mem → Int32 → Int32 → Option (Mem)
  | 0, _, _, _ => none
  | n + 1, M, v1, v2 => if 40 ≤ v2 then (some M) else (gd (inR ((40 * (gI M 119 46)) + v2) 160) <| gd (inR ((40 * v1) + v2) 240) <| lt (sB M 183 ((40 * v1) + v2).toNatClampNeg (iB (bI (gB M 163 ((40 * (gI M 119 46)) + v2).toNatClampNeg)))) fun M_1 => gd (inR ((40 * (gI M_1 119 46)) + v2) 160) <| gd (inR ((40 * v1) + v2) 240) <| lt (sI M_1 184 ((40 * v1) + v2).toNatClampNeg (gI M_1 164 ((40 * (gI M_1 119 46)) + v2).toNatClampNeg)) fun M_2 => gd (inR ((40 * (gI M_2 119 46)) + v2) 160) <| gd (inR ((40 * v1) + v2) 240) <| lt (sL M_2 185 ((40 * v1) + v2).toNatClampNeg (gL M_2 165 ((40 * (gI M_2 119 46)) + v2).toNatClampNeg)) fun M_3 => gd (inR ((40 * (gI M_3 119 46)) + v2) 160) <| gd (inR ((40 * v1) + v2) 240) <| lt (sI M_3 186 ((40 * v1) + v2).toNatClampNeg (gI M_3 166 ((40 * (gI M_3 119 46)) + v2).toNatClampNeg)) fun M_4 => gd (inR ((40 * (gI M_4 119 46)) + v2) 160) <| gd (inR ((40 * v1) + v2) 240) <| lt (sI M_4 187 ((40 * v1) + v2).toNatClampNeg (gI M_4 167 ((40 * (gI M_4 119 46)) + v2).toNatClampNeg)) fun M_5 => lt (v2 + 1) fun v_1 => (f_X9_picture_2 n) M_5 v1 v_1)
set_option maxRecDepth 100000 in
set_option maxHeartbeats 4000000 in
theorem w_X9_picture_2 (X : Cx p s m args meth c cX9_picture RX9 3 none G cy) {out : Mem} : ∀ n : Nat, ∀ (H : Heap) (locs : List Loc) (ls : Array Slot) (M : Mem) (v1 : Int32) (v2 : Int32), Pic G B cy nT M H → va_S (FB B) s.heap H locs → lv_has ls 3 [(0, .ref (B + 119)), (1, .int v1), (2, .int v2)] → f_X9_picture_2 n M v1 v2 = some out → W p l e rmX9_picture s m args below meth c H locs 0 0 (MQ below (Qv G B cy nT out) args s 0 0 (FB B)) (F0 m 2 ls []) := by
  obtain ⟨hx, hb, hr, hml, hown, hts, hKn, hlk⟩ := id X
  intro n
  induction n with
  | zero =>
    intro H locs ls M v1 v2 hP hS hl h
    cases h
  | succ n ih =>
    intro H locs ls M v1 v2 hP hS hl h
    rw [f_X9_picture_2] at h
    refine lv_iload_n hx hb dX9_picture_2 rfl (lv_at hl 2 rfl) ?_
    refine lv_bipush (v := 40) hx hb dX9_picture_3 (by decide) ?_
    refine lv_icmp_ge (tgt := 139) hx hb dX9_picture_5 (by decide) (fun hc => ?_) (fun hc => ?_)
    · replace h := if_elp h hc
      exact r_vret X hP hS (pr0 h) dX9_picture_139
    · replace h := if_eln h hc
      refine lv_aload_n hx hb dX9_picture_8 rfl (lv_at hl 0 rfl) ?_
      refine gf_X9_205 X hP dX9_picture_9 ?_
      refine lv_bipush (v := 40) hx hb dX9_picture_12 (by decide) ?_
      refine lv_iload_n hx hb dX9_picture_14 rfl (lv_at hl 1 rfl) ?_
      refine lv_imul hx hb dX9_picture_15 ?_
      refine lv_iload_n hx hb dX9_picture_16 rfl (lv_at hl 2 rfl) ?_
      refine lv_iadd hx hb dX9_picture_17 ?_
      refine lv_aload_n hx hb dX9_picture_18 rfl (lv_at hl 0 rfl) ?_
      refine gf_X9_145 X hP dX9_picture_19 ?_
      refine lv_bipush (v := 40) hx hb dX9_picture_22 (by decide) ?_
      refine lv_aload_n hx hb dX9_picture_24 rfl (lv_at hl 0 rfl) ?_
      refine gf_X9_267 X hP dX9_picture_25 ?_
      refine lv_imul hx hb dX9_picture_28 ?_
      refine lv_iload_n hx hb dX9_picture_29 rfl (lv_at hl 2 rfl) ?_
      refine lv_iadd hx hb dX9_picture_30 ?_
      obtain ⟨g_1, h⟩ := gd_el h
      refine r_zald X hP kq_163 g_1 dX9_picture_31 ?_
      obtain ⟨g_2, h⟩ := gd_el h
      obtain ⟨M_1, e_1, h⟩ := lt_el h
      refine r_zast X hP hS kq_183 g_2 e_1 dX9_picture_32 (fun H locs hP hS => ?_)
      refine lv_aload_n hx hb dX9_picture_33 rfl (lv_at hl 0 rfl) ?_
      refine gf_X9_208 X hP dX9_picture_34 ?_
      refine lv_bipush (v := 40) hx hb dX9_picture_37 (by decide) ?_
      refine lv_iload_n hx hb dX9_picture_39 rfl (lv_at hl 1 rfl) ?_
      refine lv_imul hx hb dX9_picture_40 ?_
      refine lv_iload_n hx hb dX9_picture_41 rfl (lv_at hl 2 rfl) ?_
      refine lv_iadd hx hb dX9_picture_42 ?_
      refine lv_aload_n hx hb dX9_picture_43 rfl (lv_at hl 0 rfl) ?_
      refine gf_X9_148 X hP dX9_picture_44 ?_
      refine lv_bipush (v := 40) hx hb dX9_picture_47 (by decide) ?_
      refine lv_aload_n hx hb dX9_picture_49 rfl (lv_at hl 0 rfl) ?_
      refine gf_X9_267 X hP dX9_picture_50 ?_
      refine lv_imul hx hb dX9_picture_53 ?_
      refine lv_iload_n hx hb dX9_picture_54 rfl (lv_at hl 2 rfl) ?_
      refine lv_iadd hx hb dX9_picture_55 ?_
      obtain ⟨g_3, h⟩ := gd_el h
      refine r_iald X hP kq_164 g_3 dX9_picture_56 ?_
      obtain ⟨g_4, h⟩ := gd_el h
      obtain ⟨M_2, e_2, h⟩ := lt_el h
      refine r_iast X hP hS kq_184 g_4 e_2 dX9_picture_57 (fun H locs hP hS => ?_)
      refine lv_aload_n hx hb dX9_picture_58 rfl (lv_at hl 0 rfl) ?_
      refine gf_X9_211 X hP dX9_picture_59 ?_
      refine lv_bipush (v := 40) hx hb dX9_picture_62 (by decide) ?_
      refine lv_iload_n hx hb dX9_picture_64 rfl (lv_at hl 1 rfl) ?_
      refine lv_imul hx hb dX9_picture_65 ?_
      refine lv_iload_n hx hb dX9_picture_66 rfl (lv_at hl 2 rfl) ?_
      refine lv_iadd hx hb dX9_picture_67 ?_
      refine lv_aload_n hx hb dX9_picture_68 rfl (lv_at hl 0 rfl) ?_
      refine gf_X9_151 X hP dX9_picture_69 ?_
      refine lv_bipush (v := 40) hx hb dX9_picture_72 (by decide) ?_
      refine lv_aload_n hx hb dX9_picture_74 rfl (lv_at hl 0 rfl) ?_
      refine gf_X9_267 X hP dX9_picture_75 ?_
      refine lv_imul hx hb dX9_picture_78 ?_
      refine lv_iload_n hx hb dX9_picture_79 rfl (lv_at hl 2 rfl) ?_
      refine lv_iadd hx hb dX9_picture_80 ?_
      obtain ⟨g_5, h⟩ := gd_el h
      refine r_lald X hP kq_165 g_5 dX9_picture_81 ?_
      obtain ⟨g_6, h⟩ := gd_el h
      obtain ⟨M_3, e_3, h⟩ := lt_el h
      refine r_last X hP hS kq_185 g_6 e_3 dX9_picture_82 (fun H locs hP hS => ?_)
      refine lv_aload_n hx hb dX9_picture_83 rfl (lv_at hl 0 rfl) ?_
      refine gf_X9_214 X hP dX9_picture_84 ?_
      refine lv_bipush (v := 40) hx hb dX9_picture_87 (by decide) ?_
      refine lv_iload_n hx hb dX9_picture_89 rfl (lv_at hl 1 rfl) ?_
      refine lv_imul hx hb dX9_picture_90 ?_
      refine lv_iload_n hx hb dX9_picture_91 rfl (lv_at hl 2 rfl) ?_
      refine lv_iadd hx hb dX9_picture_92 ?_
      refine lv_aload_n hx hb dX9_picture_93 rfl (lv_at hl 0 rfl) ?_
      refine gf_X9_154 X hP dX9_picture_94 ?_
      refine lv_bipush (v := 40) hx hb dX9_picture_97 (by decide) ?_
      refine lv_aload_n hx hb dX9_picture_99 rfl (lv_at hl 0 rfl) ?_
      refine gf_X9_267 X hP dX9_picture_100 ?_
      refine lv_imul hx hb dX9_picture_103 ?_
      refine lv_iload_n hx hb dX9_picture_104 rfl (lv_at hl 2 rfl) ?_
      refine lv_iadd hx hb dX9_picture_105 ?_
      obtain ⟨g_7, h⟩ := gd_el h
      refine r_iald X hP kq_166 g_7 dX9_picture_106 ?_
      obtain ⟨g_8, h⟩ := gd_el h
      obtain ⟨M_4, e_4, h⟩ := lt_el h
      refine r_iast X hP hS kq_186 g_8 e_4 dX9_picture_107 (fun H locs hP hS => ?_)
      refine lv_aload_n hx hb dX9_picture_108 rfl (lv_at hl 0 rfl) ?_
      refine gf_X9_217 X hP dX9_picture_109 ?_
      refine lv_bipush (v := 40) hx hb dX9_picture_112 (by decide) ?_
      refine lv_iload_n hx hb dX9_picture_114 rfl (lv_at hl 1 rfl) ?_
      refine lv_imul hx hb dX9_picture_115 ?_
      refine lv_iload_n hx hb dX9_picture_116 rfl (lv_at hl 2 rfl) ?_
      refine lv_iadd hx hb dX9_picture_117 ?_
      refine lv_aload_n hx hb dX9_picture_118 rfl (lv_at hl 0 rfl) ?_
      refine gf_X9_157 X hP dX9_picture_119 ?_
      refine lv_bipush (v := 40) hx hb dX9_picture_122 (by decide) ?_
      refine lv_aload_n hx hb dX9_picture_124 rfl (lv_at hl 0 rfl) ?_
      refine gf_X9_267 X hP dX9_picture_125 ?_
      refine lv_imul hx hb dX9_picture_128 ?_
      refine lv_iload_n hx hb dX9_picture_129 rfl (lv_at hl 2 rfl) ?_
      refine lv_iadd hx hb dX9_picture_130 ?_
      obtain ⟨g_9, h⟩ := gd_el h
      refine r_iald X hP kq_167 g_9 dX9_picture_131 ?_
      obtain ⟨g_10, h⟩ := gd_el h
      obtain ⟨M_5, e_5, h⟩ := lt_el h
      refine r_iast X hP hS kq_187 g_10 e_5 dX9_picture_132 (fun H locs hP hS => ?_)
      obtain ⟨v_1, e_6, h⟩ := lt_el h
      refine lv_iinc (v := v_1) (lv' := [(2, .int v_1), (0, .ref (B + 119)), (1, .int v1)]) hx hb dX9_picture_133 hl (k := 2) rfl (by rw [e_6]; rfl) (by decide) rfl (fun ls hl => ?_)
      refine lv_goto (tgt := 2) hx hb dX9_picture_136 (by decide) ?_
      exact ih _ _ _ _ _ _ hP hS (lv_sub hl [1, 2, 0] rfl) h
def f_X9_picture (M : Mem) (a1 : Int32) : Option (Mem) :=
  f_X9_picture_2 FU M a1 0
set_option maxRecDepth 100000 in
set_option maxHeartbeats 4000000 in
theorem c_X9_picture {l : Launch} {G : va_G} {cy : Nat → ClassId} {B nT : Nat} {M : Mem} {a1 : Int32} {out : Mem} (h : f_X9_picture M a1 = some out) : Met l yX9_picture (wsU yX9_picture cX9_picture 3 none) rmX9_picture (va_Pc [.ref (B + 119), .int a1] (PU G B cy nT M)) (Qv G B cy nT out) 0 0 (FB B) := by
  refine r_met (by decide +kernel) RX9 rfl (Nat.le_of_ble_eq_true rfl) ?_
  intro p e s m args below meth c ls X hP hl
  have hl : lv_has ls 3 [(0, .ref (B + 119)), (1, .int a1)] := hl
  have hS : va_S (FB B) s.heap s.heap [] := va_S.rf
  obtain ⟨hx, hb, hr, hml, hown, hts, hKn, hlk⟩ := id X
  unfold f_X9_picture at h
  refine lv_iconst (v := 0) hx hb dX9_picture_0 (by decide) ?_
  refine lv_istore_n (lv' := [(2, .int 0), (0, .ref (B + 119)), (1, .int a1)]) hx hb dX9_picture_1 rfl hl (by decide) rfl (fun ls hl => ?_)
  exact w_X9_picture_2 X FU _ _ _ _ _ _ hP hS (lv_sub hl [1, 2, 0] rfl) h
abbrev rmX9_enter : Room := { frames := 1, cells := 0, slots := 0, locals := 22 }
def f_X9_enter_128 (M : Mem) : Option (Mem) :=
  gd (inR (gI M 119 46) 4) <| gd (inR (gI M 119 46) 4) <| lt (sI M 176 (gI M 119 46).toNatClampNeg ((gI M 176 (gI M 119 46).toNatClampNeg) + 1)) fun M_1 => some M_1
set_option maxRecDepth 100000 in
set_option maxHeartbeats 4000000 in
theorem w_X9_enter_128 (X : Cx p s m args meth c cX9_enter RX9 4 none G cy) {out : Mem} {M : Mem} (hP : Pic G B cy nT M H) (hS : va_S (FB B) s.heap H locs) (hl : lv_has ls 4 [(0, .ref (B + 119))]) (h : f_X9_enter_128 M = some out) : W p l e rmX9_enter s m args below meth c H locs 0 0 (MQ below (Qv G B cy nT out) args s 0 0 (FB B)) (F0 m 128 ls []) := by
  obtain ⟨hx, hb, hr, hml, hown, hts, hKn, hlk⟩ := id X
  unfold f_X9_enter_128 at h
  refine lv_aload_n hx hb dX9_enter_128 rfl (lv_at hl 0 rfl) ?_
  refine gf_X9_184 X hP dX9_enter_129 ?_
  refine lv_aload_n hx hb dX9_enter_132 rfl (lv_at hl 0 rfl) ?_
  refine gf_X9_267 X hP dX9_enter_133 ?_
  refine lv_dup2_11 hx hb dX9_enter_136 rfl rfl ?_
  obtain ⟨g_1, h⟩ := gd_el h
  refine r_iald X hP kq_176 g_1 dX9_enter_137 ?_
  refine lv_iconst (v := 1) hx hb dX9_enter_138 (by decide) ?_
  refine lv_iadd hx hb dX9_enter_139 ?_
  obtain ⟨g_2, h⟩ := gd_el h
  obtain ⟨M_1, e_1, h⟩ := lt_el h
  refine r_iast X hP hS kq_176 g_2 e_1 dX9_enter_140 (fun H locs hP hS => ?_)
  exact r_vret X hP hS (pr0 h) dX9_enter_141
def f_X9_enter (M : Mem) (a1 : Int32) (a2 : Int32) : Option (Mem) :=
  gd (inR (gI M 119 46) 4) <| lt (gI M 176 (gI M 119 46).toNatClampNeg) fun v_1 => gd (inR ((6 * (gI M 119 46)) + v_1) 24) <| lt (sI M 177 ((6 * (gI M 119 46)) + v_1).toNatClampNeg a1) fun M_1 => gd (inR ((6 * (gI M_1 119 46)) + v_1) 24) <| lt (sI M_1 178 ((6 * (gI M_1 119 46)) + v_1).toNatClampNeg 0) fun M_2 => gd (inR ((6 * (gI M_2 119 46)) + v_1) 24) <| lt (sI M_2 179 ((6 * (gI M_2 119 46)) + v_1).toNatClampNeg a2) fun M_3 => gd (inR ((6 * (gI M_3 119 46)) + v_1) 24) <| lt (sL M_3 180 ((6 * (gI M_3 119 46)) + v_1).toNatClampNeg (gL M_3 119 47)) fun M_4 => gd (inR (gI M_4 119 46) 4) <| gd (inR ((6 * (gI M_4 119 46)) + v_1) 24) <| lt (sI M_4 181 ((6 * (gI M_4 119 46)) + v_1).toNatClampNeg (gI M_4 170 (gI M_4 119 46).toNatClampNeg)) fun M_5 => gd (inR (gI M_5 119 46) 4) <| gd (inR ((6 * (gI M_5 119 46)) + v_1) 24) <| lt (sI M_5 182 ((6 * (gI M_5 119 46)) + v_1).toNatClampNeg (gI M_5 172 (gI M_5 119 46).toNatClampNeg)) fun M_6 => if a2 ≤ 0 then (f_X9_enter_128 M_6) else (Option.bind (f_X9_picture M_6 v_1) fun r_1 => f_X9_enter_128 r_1)
set_option maxRecDepth 100000 in
set_option maxHeartbeats 4000000 in
theorem c_X9_enter {l : Launch} {G : va_G} {cy : Nat → ClassId} {B nT : Nat} {M : Mem} {a1 : Int32} {a2 : Int32} {out : Mem} (h : f_X9_enter M a1 a2 = some out) : Met l yX9_enter (wsU yX9_enter cX9_enter 4 none) rmX9_enter (va_Pc [.ref (B + 119), .int a1, .int a2] (PU G B cy nT M)) (Qv G B cy nT out) 0 0 (FB B) := by
  refine r_met (by decide +kernel) RX9 rfl (Nat.le_of_ble_eq_true rfl) ?_
  intro p e s m args below meth c ls X hP hl
  have hl : lv_has ls 4 [(0, .ref (B + 119)), (1, .int a1), (2, .int a2)] := hl
  have hS : va_S (FB B) s.heap s.heap [] := va_S.rf
  obtain ⟨hx, hb, hr, hml, hown, hts, hKn, hlk⟩ := id X
  unfold f_X9_enter at h
  refine lv_aload_n hx hb dX9_enter_0 rfl (lv_at hl 0 rfl) ?_
  refine gf_X9_184 X hP dX9_enter_1 ?_
  refine lv_aload_n hx hb dX9_enter_4 rfl (lv_at hl 0 rfl) ?_
  refine gf_X9_267 X hP dX9_enter_5 ?_
  obtain ⟨g_1, h⟩ := gd_el h
  refine r_iald X hP kq_176 g_1 dX9_enter_8 ?_
  obtain ⟨v_1, e_1, h⟩ := lt_el h
  refine r_topi e_1 ?_
  refine lv_istore_n (lv' := [(3, .int v_1), (0, .ref (B + 119)), (1, .int a1), (2, .int a2)]) hx hb dX9_enter_9 rfl hl (by decide) rfl (fun ls hl => ?_)
  refine lv_aload_n hx hb dX9_enter_10 rfl (lv_at hl 1 rfl) ?_
  refine gf_X9_187 X hP dX9_enter_11 ?_
  refine lv_bipush (v := 6) hx hb dX9_enter_14 (by decide) ?_
  refine lv_aload_n hx hb dX9_enter_16 rfl (lv_at hl 1 rfl) ?_
  refine gf_X9_267 X hP dX9_enter_17 ?_
  refine lv_imul hx hb dX9_enter_20 ?_
  refine lv_iload_n hx hb dX9_enter_21 rfl (lv_at hl 0 rfl) ?_
  refine lv_iadd hx hb dX9_enter_22 ?_
  refine lv_iload_n hx hb dX9_enter_23 rfl (lv_at hl 2 rfl) ?_
  obtain ⟨g_2, h⟩ := gd_el h
  obtain ⟨M_1, e_2, h⟩ := lt_el h
  refine r_iast X hP hS kq_177 g_2 e_2 dX9_enter_24 (fun H locs hP hS => ?_)
  refine lv_aload_n hx hb dX9_enter_25 rfl (lv_at hl 1 rfl) ?_
  refine gf_X9_190 X hP dX9_enter_26 ?_
  refine lv_bipush (v := 6) hx hb dX9_enter_29 (by decide) ?_
  refine lv_aload_n hx hb dX9_enter_31 rfl (lv_at hl 1 rfl) ?_
  refine gf_X9_267 X hP dX9_enter_32 ?_
  refine lv_imul hx hb dX9_enter_35 ?_
  refine lv_iload_n hx hb dX9_enter_36 rfl (lv_at hl 0 rfl) ?_
  refine lv_iadd hx hb dX9_enter_37 ?_
  refine lv_iconst (v := 0) hx hb dX9_enter_38 (by decide) ?_
  obtain ⟨g_3, h⟩ := gd_el h
  obtain ⟨M_2, e_3, h⟩ := lt_el h
  refine r_iast X hP hS kq_178 g_3 e_3 dX9_enter_39 (fun H locs hP hS => ?_)
  refine lv_aload_n hx hb dX9_enter_40 rfl (lv_at hl 1 rfl) ?_
  refine gf_X9_193 X hP dX9_enter_41 ?_
  refine lv_bipush (v := 6) hx hb dX9_enter_44 (by decide) ?_
  refine lv_aload_n hx hb dX9_enter_46 rfl (lv_at hl 1 rfl) ?_
  refine gf_X9_267 X hP dX9_enter_47 ?_
  refine lv_imul hx hb dX9_enter_50 ?_
  refine lv_iload_n hx hb dX9_enter_51 rfl (lv_at hl 0 rfl) ?_
  refine lv_iadd hx hb dX9_enter_52 ?_
  refine lv_iload_n hx hb dX9_enter_53 rfl (lv_at hl 3 rfl) ?_
  obtain ⟨g_4, h⟩ := gd_el h
  obtain ⟨M_3, e_4, h⟩ := lt_el h
  refine r_iast X hP hS kq_179 g_4 e_4 dX9_enter_54 (fun H locs hP hS => ?_)
  refine lv_aload_n hx hb dX9_enter_55 rfl (lv_at hl 1 rfl) ?_
  refine gf_X9_196 X hP dX9_enter_56 ?_
  refine lv_bipush (v := 6) hx hb dX9_enter_59 (by decide) ?_
  refine lv_aload_n hx hb dX9_enter_61 rfl (lv_at hl 1 rfl) ?_
  refine gf_X9_267 X hP dX9_enter_62 ?_
  refine lv_imul hx hb dX9_enter_65 ?_
  refine lv_iload_n hx hb dX9_enter_66 rfl (lv_at hl 0 rfl) ?_
  refine lv_iadd hx hb dX9_enter_67 ?_
  refine lv_aload_n hx hb dX9_enter_68 rfl (lv_at hl 1 rfl) ?_
  refine gf_X9_287 X hP dX9_enter_69 ?_
  obtain ⟨g_5, h⟩ := gd_el h
  obtain ⟨M_4, e_5, h⟩ := lt_el h
  refine r_last X hP hS kq_180 g_5 e_5 dX9_enter_72 (fun H locs hP hS => ?_)
  refine lv_aload_n hx hb dX9_enter_73 rfl (lv_at hl 1 rfl) ?_
  refine gf_X9_199 X hP dX9_enter_74 ?_
  refine lv_bipush (v := 6) hx hb dX9_enter_77 (by decide) ?_
  refine lv_aload_n hx hb dX9_enter_79 rfl (lv_at hl 1 rfl) ?_
  refine gf_X9_267 X hP dX9_enter_80 ?_
  refine lv_imul hx hb dX9_enter_83 ?_
  refine lv_iload_n hx hb dX9_enter_84 rfl (lv_at hl 0 rfl) ?_
  refine lv_iadd hx hb dX9_enter_85 ?_
  refine lv_aload_n hx hb dX9_enter_86 rfl (lv_at hl 1 rfl) ?_
  refine gf_X9_166 X hP dX9_enter_87 ?_
  refine lv_aload_n hx hb dX9_enter_90 rfl (lv_at hl 1 rfl) ?_
  refine gf_X9_267 X hP dX9_enter_91 ?_
  obtain ⟨g_6, h⟩ := gd_el h
  refine r_iald X hP kq_170 g_6 dX9_enter_94 ?_
  obtain ⟨g_7, h⟩ := gd_el h
  obtain ⟨M_5, e_6, h⟩ := lt_el h
  refine r_iast X hP hS kq_181 g_7 e_6 dX9_enter_95 (fun H locs hP hS => ?_)
  refine lv_aload_n hx hb dX9_enter_96 rfl (lv_at hl 1 rfl) ?_
  refine gf_X9_202 X hP dX9_enter_97 ?_
  refine lv_bipush (v := 6) hx hb dX9_enter_100 (by decide) ?_
  refine lv_aload_n hx hb dX9_enter_102 rfl (lv_at hl 1 rfl) ?_
  refine gf_X9_267 X hP dX9_enter_103 ?_
  refine lv_imul hx hb dX9_enter_106 ?_
  refine lv_iload_n hx hb dX9_enter_107 rfl (lv_at hl 0 rfl) ?_
  refine lv_iadd hx hb dX9_enter_108 ?_
  refine lv_aload_n hx hb dX9_enter_109 rfl (lv_at hl 1 rfl) ?_
  refine gf_X9_172 X hP dX9_enter_110 ?_
  refine lv_aload_n hx hb dX9_enter_113 rfl (lv_at hl 1 rfl) ?_
  refine gf_X9_267 X hP dX9_enter_114 ?_
  obtain ⟨g_8, h⟩ := gd_el h
  refine r_iald X hP kq_172 g_8 dX9_enter_117 ?_
  obtain ⟨g_9, h⟩ := gd_el h
  obtain ⟨M_6, e_7, h⟩ := lt_el h
  refine r_iast X hP hS kq_182 g_9 e_7 dX9_enter_118 (fun H locs hP hS => ?_)
  refine lv_iload_n hx hb dX9_enter_119 rfl (lv_at hl 3 rfl) ?_
  refine lv_if_le (tgt := 128) hx hb dX9_enter_120 (by decide) (fun hc => ?_) (fun hc => ?_)
  · replace h := if_elp h hc
    exact w_X9_enter_128 X hP hS (lv_sub hl [1] rfl) h
  · replace h := if_eln h hc
    refine lv_aload_n hx hb dX9_enter_123 rfl (lv_at hl 1 rfl) ?_
    refine lv_iload_n hx hb dX9_enter_124 rfl (lv_at hl 0 rfl) ?_
    obtain ⟨r_1, h_1, h⟩ := bd_el h
    refine cl_v (rn_V (C := RX9) (ci := 9) X hP (c_X9_picture h_1) kq_119 rfl k_736 k_737 k_911 k_9 k_738 rfl hd_X9_picture (n := 1) ⟨⟨rfl, rfl⟩, Nat.le_of_ble_eq_true rfl, Nat.le_of_ble_eq_true rfl⟩ (As := [.int v_1]) (rest := []) rfl hl.1 rfl (Nat.le_of_ble_eq_true rfl) dX9_enter_125 ⟨Nat.zero_le _, Nat.zero_le _⟩) hS (fun H locs hP hS => ?_)
    exact w_X9_enter_128 X hP hS (lv_sub hl [1] rfl) h
abbrev rmX9_undo : Room := { frames := 0, cells := 0, slots := 0, locals := 0 }
def f_X9_undo_25 : Nat → Mem → Int32 → Int32 → Option (Mem)
  | 0, _, _, _ => none
  | n + 1, M, v1, v2 => if 40 ≤ v2 then (gd (inR ((6 * (gI M 119 46)) + v1) 24) <| gd (inR (gI M 119 46) 4) <| lt (sI M 170 (gI M 119 46).toNatClampNeg (gI M 181 ((6 * (gI M 119 46)) + v1).toNatClampNeg)) fun M_1 => gd (inR ((6 * (gI M_1 119 46)) + v1) 24) <| gd (inR (gI M_1 119 46) 4) <| lt (sI M_1 172 (gI M_1 119 46).toNatClampNeg (gI M_1 182 ((6 * (gI M_1 119 46)) + v1).toNatClampNeg)) fun M_2 => some M_2) else (gd (inR ((40 * v1) + v2) 240) <| gd (inR ((40 * (gI M 119 46)) + v2) 160) <| lt (sB M 163 ((40 * (gI M 119 46)) + v2).toNatClampNeg (iB (bI (gB M 183 ((40 * v1) + v2).toNatClampNeg)))) fun M_3 => gd (inR ((40 * v1) + v2) 240) <| gd (inR ((40 * (gI M_3 119 46)) + v2) 160) <| lt (sI M_3 164 ((40 * (gI M_3 119 46)) + v2).toNatClampNeg (gI M_3 184 ((40 * v1) + v2).toNatClampNeg)) fun M_4 => gd (inR ((40 * v1) + v2) 240) <| gd (inR ((40 * (gI M_4 119 46)) + v2) 160) <| lt (sL M_4 165 ((40 * (gI M_4 119 46)) + v2).toNatClampNeg (gL M_4 185 ((40 * v1) + v2).toNatClampNeg)) fun M_5 => gd (inR ((40 * v1) + v2) 240) <| gd (inR ((40 * (gI M_5 119 46)) + v2) 160) <| lt (sI M_5 166 ((40 * (gI M_5 119 46)) + v2).toNatClampNeg (gI M_5 186 ((40 * v1) + v2).toNatClampNeg)) fun M_6 => gd (inR ((40 * v1) + v2) 240) <| gd (inR ((40 * (gI M_6 119 46)) + v2) 160) <| lt (sI M_6 167 ((40 * (gI M_6 119 46)) + v2).toNatClampNeg (gI M_6 187 ((40 * v1) + v2).toNatClampNeg)) fun M_7 => lt (v2 + 1) fun v_1 => (f_X9_undo_25 n) M_7 v1 v_1)
set_option maxRecDepth 100000 in
set_option maxHeartbeats 4000000 in
theorem w_X9_undo_25 (X : Cx p s m args meth c cX9_undo RX9 3 none G cy) {out : Mem} : ∀ n : Nat, ∀ (H : Heap) (locs : List Loc) (ls : Array Slot) (M : Mem) (v1 : Int32) (v2 : Int32), Pic G B cy nT M H → va_S (FB B) s.heap H locs → lv_has ls 3 [(0, .ref (B + 119)), (1, .int v1), (2, .int v2)] → f_X9_undo_25 n M v1 v2 = some out → W p l e rmX9_undo s m args below meth c H locs 0 0 (MQ below (Qv G B cy nT out) args s 0 0 (FB B)) (F0 m 25 ls []) := by
  obtain ⟨hx, hb, hr, hml, hown, hts, hKn, hlk⟩ := id X
  intro n
  induction n with
  | zero =>
    intro H locs ls M v1 v2 hP hS hl h
    cases h
  | succ n ih =>
    intro H locs ls M v1 v2 hP hS hl h
    rw [f_X9_undo_25] at h
    refine lv_iload_n hx hb dX9_undo_25 rfl (lv_at hl 2 rfl) ?_
    refine lv_bipush (v := 40) hx hb dX9_undo_26 (by decide) ?_
    refine lv_icmp_ge (tgt := 162) hx hb dX9_undo_28 (by decide) (fun hc => ?_) (fun hc => ?_)
    · replace h := if_elp h hc
      refine lv_aload_n hx hb dX9_undo_162 rfl (lv_at hl 0 rfl) ?_
      refine gf_X9_166 X hP dX9_undo_163 ?_
      refine lv_aload_n hx hb dX9_undo_166 rfl (lv_at hl 0 rfl) ?_
      refine gf_X9_267 X hP dX9_undo_167 ?_
      refine lv_aload_n hx hb dX9_undo_170 rfl (lv_at hl 0 rfl) ?_
      refine gf_X9_199 X hP dX9_undo_171 ?_
      refine lv_bipush (v := 6) hx hb dX9_undo_174 (by decide) ?_
      refine lv_aload_n hx hb dX9_undo_176 rfl (lv_at hl 0 rfl) ?_
      refine gf_X9_267 X hP dX9_undo_177 ?_
      refine lv_imul hx hb dX9_undo_180 ?_
      refine lv_iload_n hx hb dX9_undo_181 rfl (lv_at hl 1 rfl) ?_
      refine lv_iadd hx hb dX9_undo_182 ?_
      obtain ⟨g_1, h⟩ := gd_el h
      refine r_iald X hP kq_181 g_1 dX9_undo_183 ?_
      obtain ⟨g_2, h⟩ := gd_el h
      obtain ⟨M_1, e_1, h⟩ := lt_el h
      refine r_iast X hP hS kq_170 g_2 e_1 dX9_undo_184 (fun H locs hP hS => ?_)
      refine lv_aload_n hx hb dX9_undo_185 rfl (lv_at hl 0 rfl) ?_
      refine gf_X9_172 X hP dX9_undo_186 ?_
      refine lv_aload_n hx hb dX9_undo_189 rfl (lv_at hl 0 rfl) ?_
      refine gf_X9_267 X hP dX9_undo_190 ?_
      refine lv_aload_n hx hb dX9_undo_193 rfl (lv_at hl 0 rfl) ?_
      refine gf_X9_202 X hP dX9_undo_194 ?_
      refine lv_bipush (v := 6) hx hb dX9_undo_197 (by decide) ?_
      refine lv_aload_n hx hb dX9_undo_199 rfl (lv_at hl 0 rfl) ?_
      refine gf_X9_267 X hP dX9_undo_200 ?_
      refine lv_imul hx hb dX9_undo_203 ?_
      refine lv_iload_n hx hb dX9_undo_204 rfl (lv_at hl 1 rfl) ?_
      refine lv_iadd hx hb dX9_undo_205 ?_
      obtain ⟨g_3, h⟩ := gd_el h
      refine r_iald X hP kq_182 g_3 dX9_undo_206 ?_
      obtain ⟨g_4, h⟩ := gd_el h
      obtain ⟨M_2, e_2, h⟩ := lt_el h
      refine r_iast X hP hS kq_172 g_4 e_2 dX9_undo_207 (fun H locs hP hS => ?_)
      exact r_vret X hP hS (pr0 h) dX9_undo_208
    · replace h := if_eln h hc
      refine lv_aload_n hx hb dX9_undo_31 rfl (lv_at hl 0 rfl) ?_
      refine gf_X9_145 X hP dX9_undo_32 ?_
      refine lv_bipush (v := 40) hx hb dX9_undo_35 (by decide) ?_
      refine lv_aload_n hx hb dX9_undo_37 rfl (lv_at hl 0 rfl) ?_
      refine gf_X9_267 X hP dX9_undo_38 ?_
      refine lv_imul hx hb dX9_undo_41 ?_
      refine lv_iload_n hx hb dX9_undo_42 rfl (lv_at hl 2 rfl) ?_
      refine lv_iadd hx hb dX9_undo_43 ?_
      refine lv_aload_n hx hb dX9_undo_44 rfl (lv_at hl 0 rfl) ?_
      refine gf_X9_205 X hP dX9_undo_45 ?_
      refine lv_bipush (v := 40) hx hb dX9_undo_48 (by decide) ?_
      refine lv_iload_n hx hb dX9_undo_50 rfl (lv_at hl 1 rfl) ?_
      refine lv_imul hx hb dX9_undo_51 ?_
      refine lv_iload_n hx hb dX9_undo_52 rfl (lv_at hl 2 rfl) ?_
      refine lv_iadd hx hb dX9_undo_53 ?_
      obtain ⟨g_5, h⟩ := gd_el h
      refine r_zald X hP kq_183 g_5 dX9_undo_54 ?_
      obtain ⟨g_6, h⟩ := gd_el h
      obtain ⟨M_3, e_3, h⟩ := lt_el h
      refine r_zast X hP hS kq_163 g_6 e_3 dX9_undo_55 (fun H locs hP hS => ?_)
      refine lv_aload_n hx hb dX9_undo_56 rfl (lv_at hl 0 rfl) ?_
      refine gf_X9_148 X hP dX9_undo_57 ?_
      refine lv_bipush (v := 40) hx hb dX9_undo_60 (by decide) ?_
      refine lv_aload_n hx hb dX9_undo_62 rfl (lv_at hl 0 rfl) ?_
      refine gf_X9_267 X hP dX9_undo_63 ?_
      refine lv_imul hx hb dX9_undo_66 ?_
      refine lv_iload_n hx hb dX9_undo_67 rfl (lv_at hl 2 rfl) ?_
      refine lv_iadd hx hb dX9_undo_68 ?_
      refine lv_aload_n hx hb dX9_undo_69 rfl (lv_at hl 0 rfl) ?_
      refine gf_X9_208 X hP dX9_undo_70 ?_
      refine lv_bipush (v := 40) hx hb dX9_undo_73 (by decide) ?_
      refine lv_iload_n hx hb dX9_undo_75 rfl (lv_at hl 1 rfl) ?_
      refine lv_imul hx hb dX9_undo_76 ?_
      refine lv_iload_n hx hb dX9_undo_77 rfl (lv_at hl 2 rfl) ?_
      refine lv_iadd hx hb dX9_undo_78 ?_
      obtain ⟨g_7, h⟩ := gd_el h
      refine r_iald X hP kq_184 g_7 dX9_undo_79 ?_
      obtain ⟨g_8, h⟩ := gd_el h
      obtain ⟨M_4, e_4, h⟩ := lt_el h
      refine r_iast X hP hS kq_164 g_8 e_4 dX9_undo_80 (fun H locs hP hS => ?_)
      refine lv_aload_n hx hb dX9_undo_81 rfl (lv_at hl 0 rfl) ?_
      refine gf_X9_151 X hP dX9_undo_82 ?_
      refine lv_bipush (v := 40) hx hb dX9_undo_85 (by decide) ?_
      refine lv_aload_n hx hb dX9_undo_87 rfl (lv_at hl 0 rfl) ?_
      refine gf_X9_267 X hP dX9_undo_88 ?_
      refine lv_imul hx hb dX9_undo_91 ?_
      refine lv_iload_n hx hb dX9_undo_92 rfl (lv_at hl 2 rfl) ?_
      refine lv_iadd hx hb dX9_undo_93 ?_
      refine lv_aload_n hx hb dX9_undo_94 rfl (lv_at hl 0 rfl) ?_
      refine gf_X9_211 X hP dX9_undo_95 ?_
      refine lv_bipush (v := 40) hx hb dX9_undo_98 (by decide) ?_
      refine lv_iload_n hx hb dX9_undo_100 rfl (lv_at hl 1 rfl) ?_
      refine lv_imul hx hb dX9_undo_101 ?_
      refine lv_iload_n hx hb dX9_undo_102 rfl (lv_at hl 2 rfl) ?_
      refine lv_iadd hx hb dX9_undo_103 ?_
      obtain ⟨g_9, h⟩ := gd_el h
      refine r_lald X hP kq_185 g_9 dX9_undo_104 ?_
      obtain ⟨g_10, h⟩ := gd_el h
      obtain ⟨M_5, e_5, h⟩ := lt_el h
      refine r_last X hP hS kq_165 g_10 e_5 dX9_undo_105 (fun H locs hP hS => ?_)
      refine lv_aload_n hx hb dX9_undo_106 rfl (lv_at hl 0 rfl) ?_
      refine gf_X9_154 X hP dX9_undo_107 ?_
      refine lv_bipush (v := 40) hx hb dX9_undo_110 (by decide) ?_
      refine lv_aload_n hx hb dX9_undo_112 rfl (lv_at hl 0 rfl) ?_
      refine gf_X9_267 X hP dX9_undo_113 ?_
      refine lv_imul hx hb dX9_undo_116 ?_
      refine lv_iload_n hx hb dX9_undo_117 rfl (lv_at hl 2 rfl) ?_
      refine lv_iadd hx hb dX9_undo_118 ?_
      refine lv_aload_n hx hb dX9_undo_119 rfl (lv_at hl 0 rfl) ?_
      refine gf_X9_214 X hP dX9_undo_120 ?_
      refine lv_bipush (v := 40) hx hb dX9_undo_123 (by decide) ?_
      refine lv_iload_n hx hb dX9_undo_125 rfl (lv_at hl 1 rfl) ?_
      refine lv_imul hx hb dX9_undo_126 ?_
      refine lv_iload_n hx hb dX9_undo_127 rfl (lv_at hl 2 rfl) ?_
      refine lv_iadd hx hb dX9_undo_128 ?_
      obtain ⟨g_11, h⟩ := gd_el h
      refine r_iald X hP kq_186 g_11 dX9_undo_129 ?_
      obtain ⟨g_12, h⟩ := gd_el h
      obtain ⟨M_6, e_6, h⟩ := lt_el h
      refine r_iast X hP hS kq_166 g_12 e_6 dX9_undo_130 (fun H locs hP hS => ?_)
      refine lv_aload_n hx hb dX9_undo_131 rfl (lv_at hl 0 rfl) ?_
      refine gf_X9_157 X hP dX9_undo_132 ?_
      refine lv_bipush (v := 40) hx hb dX9_undo_135 (by decide) ?_
      refine lv_aload_n hx hb dX9_undo_137 rfl (lv_at hl 0 rfl) ?_
      refine gf_X9_267 X hP dX9_undo_138 ?_
      refine lv_imul hx hb dX9_undo_141 ?_
      refine lv_iload_n hx hb dX9_undo_142 rfl (lv_at hl 2 rfl) ?_
      refine lv_iadd hx hb dX9_undo_143 ?_
      refine lv_aload_n hx hb dX9_undo_144 rfl (lv_at hl 0 rfl) ?_
      refine gf_X9_217 X hP dX9_undo_145 ?_
      refine lv_bipush (v := 40) hx hb dX9_undo_148 (by decide) ?_
      refine lv_iload_n hx hb dX9_undo_150 rfl (lv_at hl 1 rfl) ?_
      refine lv_imul hx hb dX9_undo_151 ?_
      refine lv_iload_n hx hb dX9_undo_152 rfl (lv_at hl 2 rfl) ?_
      refine lv_iadd hx hb dX9_undo_153 ?_
      obtain ⟨g_13, h⟩ := gd_el h
      refine r_iald X hP kq_187 g_13 dX9_undo_154 ?_
      obtain ⟨g_14, h⟩ := gd_el h
      obtain ⟨M_7, e_7, h⟩ := lt_el h
      refine r_iast X hP hS kq_167 g_14 e_7 dX9_undo_155 (fun H locs hP hS => ?_)
      obtain ⟨v_1, e_8, h⟩ := lt_el h
      refine lv_iinc (v := v_1) (lv' := [(2, .int v_1), (0, .ref (B + 119)), (1, .int v1)]) hx hb dX9_undo_156 hl (k := 2) rfl (by rw [e_8]; rfl) (by decide) rfl (fun ls hl => ?_)
      refine lv_goto (tgt := 25) hx hb dX9_undo_159 (by decide) ?_
      exact ih _ _ _ _ _ _ hP hS (lv_sub hl [1, 2, 0] rfl) h
def f_X9_undo (M : Mem) : Option (Mem) :=
  gd (inR (gI M 119 46) 4) <| gd (inR (gI M 119 46) 4) <| lt (sI M 176 (gI M 119 46).toNatClampNeg ((gI M 176 (gI M 119 46).toNatClampNeg) - 1)) fun M_1 => gd (inR (gI M_1 119 46) 4) <| lt (gI M_1 176 (gI M_1 119 46).toNatClampNeg) fun v_1 => f_X9_undo_25 FU M_1 v_1 0
set_option maxRecDepth 100000 in
set_option maxHeartbeats 4000000 in
theorem c_X9_undo {l : Launch} {G : va_G} {cy : Nat → ClassId} {B nT : Nat} {M : Mem} {out : Mem} (h : f_X9_undo M = some out) : Met l yX9_undo (wsU yX9_undo cX9_undo 3 none) rmX9_undo (va_Pc [.ref (B + 119)] (PU G B cy nT M)) (Qv G B cy nT out) 0 0 (FB B) := by
  refine r_met (by decide +kernel) RX9 rfl (Nat.le_of_ble_eq_true rfl) ?_
  intro p e s m args below meth c ls X hP hl
  have hl : lv_has ls 3 [(0, .ref (B + 119))] := hl
  have hS : va_S (FB B) s.heap s.heap [] := va_S.rf
  obtain ⟨hx, hb, hr, hml, hown, hts, hKn, hlk⟩ := id X
  unfold f_X9_undo at h
  refine lv_aload_n hx hb dX9_undo_0 rfl (lv_at hl 0 rfl) ?_
  refine gf_X9_184 X hP dX9_undo_1 ?_
  refine lv_aload_n hx hb dX9_undo_4 rfl (lv_at hl 0 rfl) ?_
  refine gf_X9_267 X hP dX9_undo_5 ?_
  refine lv_dup2_11 hx hb dX9_undo_8 rfl rfl ?_
  obtain ⟨g_1, h⟩ := gd_el h
  refine r_iald X hP kq_176 g_1 dX9_undo_9 ?_
  refine lv_iconst (v := 1) hx hb dX9_undo_10 (by decide) ?_
  refine lv_isub hx hb dX9_undo_11 ?_
  obtain ⟨g_2, h⟩ := gd_el h
  obtain ⟨M_1, e_1, h⟩ := lt_el h
  refine r_iast X hP hS kq_176 g_2 e_1 dX9_undo_12 (fun H locs hP hS => ?_)
  refine lv_aload_n hx hb dX9_undo_13 rfl (lv_at hl 0 rfl) ?_
  refine gf_X9_184 X hP dX9_undo_14 ?_
  refine lv_aload_n hx hb dX9_undo_17 rfl (lv_at hl 0 rfl) ?_
  refine gf_X9_267 X hP dX9_undo_18 ?_
  obtain ⟨g_3, h⟩ := gd_el h
  refine r_iald X hP kq_176 g_3 dX9_undo_21 ?_
  obtain ⟨v_1, e_2, h⟩ := lt_el h
  refine r_topi e_2 ?_
  refine lv_istore_n (lv' := [(1, .int v_1), (0, .ref (B + 119))]) hx hb dX9_undo_22 rfl hl (by decide) rfl (fun ls hl => ?_)
  refine lv_iconst (v := 0) hx hb dX9_undo_23 (by decide) ?_
  refine lv_istore_n (lv' := [(2, .int 0), (1, .int v_1), (0, .ref (B + 119))]) hx hb dX9_undo_24 rfl hl (by decide) rfl (fun ls hl => ?_)
  exact w_X9_undo_25 X FU _ _ _ _ _ _ hP hS (lv_sub hl [2, 1, 0] rfl) h
end METHS

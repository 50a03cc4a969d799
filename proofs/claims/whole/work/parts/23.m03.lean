section METHS
variable {p : Program} {l : Launch} {e : Env} {s : State} {m : MethodId} {args : Array Value} {below : List Frame} {meth : Method} {c : Code} {H : Heap} {locs : List Loc} {G : va_G} {cy : Nat → ClassId} {B nT : Nat} {ls : Array Slot}
abbrev rmX8_holds : Room := { frames := 1, cells := 0, slots := 0, locals := 21 }
def f_X8_holds (M : Mem) (a1 : Int32) : Option (Int32) :=
  Option.bind (f_X8_isCell (Int32.toInt64 a1)) fun r_1 => if (bI r_1) = 0 then (some (-2)) else (gd (inR a1 40) <| some (gI M (2 + 1) a1.toNatClampNeg))
set_option maxRecDepth 100000 in
set_option maxHeartbeats 4000000 in
theorem c_X8_holds {l : Launch} {G : va_G} {cy : Nat → ClassId} {B nT : Nat} {M : Mem} {a1 : Int32} {out : Int32} (h : f_X8_holds M a1 = some out) : Met l yX8_holds (wsU yX8_holds cX8_holds 2 (some .int)) rmX8_holds (va_Pc [.ref (B + 0), .int a1] (PU G B cy nT M)) (Qi G B cy nT out M) 0 0 (FB B) := by
  refine r_met (by decide +kernel) RX8 rfl (Nat.le_of_ble_eq_true rfl) ?_
  intro p e s m args below meth c ls X hP hl
  have hl : lv_has ls 2 [(0, .ref (B + 0)), (1, .int a1)] := hl
  have hS : va_S (FB B) s.heap s.heap [] := va_S.rf
  obtain ⟨hx, hb, hr, hml, hown, hts, hKn, hlk⟩ := id X
  unfold f_X8_holds at h
  refine lv_iload_n hx hb dX8_holds_0 rfl (lv_at hl 1 rfl) ?_
  refine lv_i2l (v := (Int32.toInt64 a1)) hx hb dX8_holds_1 rfl ?_
  obtain ⟨r_1, h_1, h⟩ := bd_el h
  refine cl_i (rn_S X hP (c_X8_isCell h_1) k_186 k_187 k_1 k_188 hd_X8_isCell (n := 1) ⟨⟨rfl, rfl⟩, Nat.le_of_ble_eq_true rfl, Nat.le_of_ble_eq_true rfl⟩ (As := [.long (Int32.toInt64 a1)]) (rest := []) rfl hl.1 rfl (Nat.le_of_ble_eq_true rfl) dX8_holds_2 ⟨Nat.zero_le _, Nat.zero_le _⟩) hS (fun H locs hP hS => ?_)
  refine lv_if_eq (tgt := 23) hx hb dX8_holds_5 (by decide) (fun hc => ?_) (fun hc => ?_)
  · replace h := if_elp h hc
    refine lv_bipush (v := (-2)) hx hb dX8_holds_23 (by decide) ?_
    exact r_iret X hP hS (pr0 h) rfl dX8_holds_25
  · replace h := if_eln h hc
    refine lv_aload_n hx hb dX8_holds_8 rfl (lv_at hl 0 rfl) ?_
    refine gf_X8_10 X hP dX8_holds_9 ?_
    refine gf_X8_74 X hP dX8_holds_12 ?_
    refine gf_X8_93 X hP (kC_0 isC_2) dX8_holds_15 ?_
    refine lv_iload_n hx hb dX8_holds_18 rfl (lv_at hl 1 rfl) ?_
    obtain ⟨g_1, h⟩ := gd_el h
    refine r_iald X hP (kC_1 isC_2) g_1 dX8_holds_19 ?_
    refine lv_goto (tgt := 25) hx hb dX8_holds_20 (by decide) ?_
    exact r_iret X hP hS (pr0 h) rfl dX8_holds_25
abbrev rmX8_value : Room := { frames := 1, cells := 0, slots := 0, locals := 21 }
def f_X8_value (M : Mem) (a1 : Int32) : Option (Int64) :=
  Option.bind (f_X8_isCell (Int32.toInt64 a1)) fun r_1 => if (bI r_1) = 0 then (some 0) else (gd (inR a1 40) <| some (gL M (2 + 2) a1.toNatClampNeg))
set_option maxRecDepth 100000 in
set_option maxHeartbeats 4000000 in
theorem c_X8_value {l : Launch} {G : va_G} {cy : Nat → ClassId} {B nT : Nat} {M : Mem} {a1 : Int32} {out : Int64} (h : f_X8_value M a1 = some out) : Met l yX8_value (wsU yX8_value cX8_value 2 (some .long)) rmX8_value (va_Pc [.ref (B + 0), .int a1] (PU G B cy nT M)) (Ql G B cy nT out M) 0 0 (FB B) := by
  refine r_met (by decide +kernel) RX8 rfl (Nat.le_of_ble_eq_true rfl) ?_
  intro p e s m args below meth c ls X hP hl
  have hl : lv_has ls 2 [(0, .ref (B + 0)), (1, .int a1)] := hl
  have hS : va_S (FB B) s.heap s.heap [] := va_S.rf
  obtain ⟨hx, hb, hr, hml, hown, hts, hKn, hlk⟩ := id X
  unfold f_X8_value at h
  refine lv_iload_n hx hb dX8_value_0 rfl (lv_at hl 1 rfl) ?_
  refine lv_i2l (v := (Int32.toInt64 a1)) hx hb dX8_value_1 rfl ?_
  obtain ⟨r_1, h_1, h⟩ := bd_el h
  refine cl_i (rn_S X hP (c_X8_isCell h_1) k_186 k_187 k_1 k_188 hd_X8_isCell (n := 1) ⟨⟨rfl, rfl⟩, Nat.le_of_ble_eq_true rfl, Nat.le_of_ble_eq_true rfl⟩ (As := [.long (Int32.toInt64 a1)]) (rest := []) rfl hl.1 rfl (Nat.le_of_ble_eq_true rfl) dX8_value_2 ⟨Nat.zero_le _, Nat.zero_le _⟩) hS (fun H locs hP hS => ?_)
  refine lv_if_eq (tgt := 23) hx hb dX8_value_5 (by decide) (fun hc => ?_) (fun hc => ?_)
  · replace h := if_elp h hc
    refine lv_lconst (v := 0) hx hb dX8_value_23 rfl ?_
    exact r_lret X hP hS (pr0 h) rfl dX8_value_24
  · replace h := if_eln h hc
    refine lv_aload_n hx hb dX8_value_8 rfl (lv_at hl 0 rfl) ?_
    refine gf_X8_10 X hP dX8_value_9 ?_
    refine gf_X8_74 X hP dX8_value_12 ?_
    refine gf_X8_96 X hP (kC_0 isC_2) dX8_value_15 ?_
    refine lv_iload_n hx hb dX8_value_18 rfl (lv_at hl 1 rfl) ?_
    obtain ⟨g_1, h⟩ := gd_el h
    refine r_lald X hP (kC_2 isC_2) g_1 dX8_value_19 ?_
    refine lv_goto (tgt := 24) hx hb dX8_value_20 (by decide) ?_
    exact r_lret X hP hS (pr0 h) rfl dX8_value_24
abbrev rmX8_cell : Room := { frames := 1, cells := 0, slots := 0, locals := 21 }
def f_X8_cell (M : Mem) (a1 : Int32) (a2 : Int32) : Option (Int32) :=
  Option.bind (f_X8_isCell (Int32.toInt64 a1)) fun r_1 => if (bI r_1) = 0 then (some (-2)) else (if a2 = 0 then (gd (inR a1 40) <| some (gI M 7 a1.toNatClampNeg)) else if a2 = 1 then (gd (inR a1 40) <| some (gI M 8 a1.toNatClampNeg)) else if a2 = 2 then (gd (inR a1 40) <| some (gI M (2 + 3) a1.toNatClampNeg)) else if a2 = 3 then (gd (inR a1 40) <| some (gI M (2 + 4) a1.toNatClampNeg)) else some (-2))
set_option maxRecDepth 100000 in
set_option maxHeartbeats 4000000 in
theorem c_X8_cell {l : Launch} {G : va_G} {cy : Nat → ClassId} {B nT : Nat} {M : Mem} {a1 : Int32} {a2 : Int32} {out : Int32} (h : f_X8_cell M a1 a2 = some out) : Met l yX8_cell (wsU yX8_cell cX8_cell 3 (some .int)) rmX8_cell (va_Pc [.ref (B + 0), .int a1, .int a2] (PU G B cy nT M)) (Qi G B cy nT out M) 0 0 (FB B) := by
  refine r_met (by decide +kernel) RX8 rfl (Nat.le_of_ble_eq_true rfl) ?_
  intro p e s m args below meth c ls X hP hl
  have hl : lv_has ls 3 [(0, .ref (B + 0)), (1, .int a1), (2, .int a2)] := hl
  have hS : va_S (FB B) s.heap s.heap [] := va_S.rf
  obtain ⟨hx, hb, hr, hml, hown, hts, hKn, hlk⟩ := id X
  unfold f_X8_cell at h
  refine lv_iload_n hx hb dX8_cell_0 rfl (lv_at hl 1 rfl) ?_
  refine lv_i2l (v := (Int32.toInt64 a1)) hx hb dX8_cell_1 rfl ?_
  obtain ⟨r_1, h_1, h⟩ := bd_el h
  refine cl_i (rn_S X hP (c_X8_isCell h_1) k_186 k_187 k_1 k_188 hd_X8_isCell (n := 1) ⟨⟨rfl, rfl⟩, Nat.le_of_ble_eq_true rfl, Nat.le_of_ble_eq_true rfl⟩ (As := [.long (Int32.toInt64 a1)]) (rest := []) rfl hl.1 rfl (Nat.le_of_ble_eq_true rfl) dX8_cell_2 ⟨Nat.zero_le _, Nat.zero_le _⟩) hS (fun H locs hP hS => ?_)
  refine lv_if_ne (tgt := 11) hx hb dX8_cell_5 (by decide) (fun hc => ?_) (fun hc => ?_)
  · replace h := if_eln h hc
    refine lv_iload_n hx hb dX8_cell_11 rfl (lv_at hl 2 rfl) ?_
    by_cases h_2 : a2 = 0
    · replace h := if_elp h h_2
      refine lv_tableIn (off := 32) (tgt := 44) hx hb dX8_cell_12 (by rw [h_2]; decide) (by rw [h_2]; decide) (by rw [h_2]; rfl) (by decide) ?_
      refine lv_aload_n hx hb dX8_cell_44 rfl (lv_at hl 0 rfl) ?_
      refine gf_X8_10 X hP dX8_cell_45 ?_
      refine gf_X8_100 X hP dX8_cell_48 ?_
      refine lv_iload_n hx hb dX8_cell_51 rfl (lv_at hl 1 rfl) ?_
      obtain ⟨g_1, h⟩ := gd_el h
      refine r_iald X hP kq_7 g_1 dX8_cell_52 ?_
      exact r_iret X hP hS (pr0 h) rfl dX8_cell_53
    · replace h := if_eln h h_2
      by_cases h_3 : a2 = 1
      · replace h := if_elp h h_3
        refine lv_tableIn (off := 42) (tgt := 54) hx hb dX8_cell_12 (by rw [h_3]; decide) (by rw [h_3]; decide) (by rw [h_3]; rfl) (by decide) ?_
        refine lv_aload_n hx hb dX8_cell_54 rfl (lv_at hl 0 rfl) ?_
        refine gf_X8_10 X hP dX8_cell_55 ?_
        refine gf_X8_103 X hP dX8_cell_58 ?_
        refine lv_iload_n hx hb dX8_cell_61 rfl (lv_at hl 1 rfl) ?_
        obtain ⟨g_2, h⟩ := gd_el h
        refine r_iald X hP kq_8 g_2 dX8_cell_62 ?_
        exact r_iret X hP hS (pr0 h) rfl dX8_cell_63
      · replace h := if_eln h h_3
        by_cases h_4 : a2 = 2
        · replace h := if_elp h h_4
          refine lv_tableIn (off := 52) (tgt := 64) hx hb dX8_cell_12 (by rw [h_4]; decide) (by rw [h_4]; decide) (by rw [h_4]; rfl) (by decide) ?_
          refine lv_aload_n hx hb dX8_cell_64 rfl (lv_at hl 0 rfl) ?_
          refine gf_X8_10 X hP dX8_cell_65 ?_
          refine gf_X8_74 X hP dX8_cell_68 ?_
          refine gf_X8_106 X hP (kC_0 isC_2) dX8_cell_71 ?_
          refine lv_iload_n hx hb dX8_cell_74 rfl (lv_at hl 1 rfl) ?_
          obtain ⟨g_3, h⟩ := gd_el h
          refine r_iald X hP (kC_3 isC_2) g_3 dX8_cell_75 ?_
          exact r_iret X hP hS (pr0 h) rfl dX8_cell_76
        · replace h := if_eln h h_4
          by_cases h_5 : a2 = 3
          · replace h := if_elp h h_5
            refine lv_tableIn (off := 65) (tgt := 77) hx hb dX8_cell_12 (by rw [h_5]; decide) (by rw [h_5]; decide) (by rw [h_5]; rfl) (by decide) ?_
            refine lv_aload_n hx hb dX8_cell_77 rfl (lv_at hl 0 rfl) ?_
            refine gf_X8_10 X hP dX8_cell_78 ?_
            refine gf_X8_74 X hP dX8_cell_81 ?_
            refine gf_X8_109 X hP (kC_0 isC_2) dX8_cell_84 ?_
            refine lv_iload_n hx hb dX8_cell_87 rfl (lv_at hl 1 rfl) ?_
            obtain ⟨g_4, h⟩ := gd_el h
            refine r_iald X hP (kC_4 isC_2) g_4 dX8_cell_88 ?_
            exact r_iret X hP hS (pr0 h) rfl dX8_cell_89
          · replace h := if_eln h h_5
            refine lv_tableOut (tgt := 90) hx hb dX8_cell_12 (by have z0 := lv_neT (a := 0) h_2 rfl; have z1 := lv_neT (a := 1) h_3 rfl; have z2 := lv_neT (a := 2) h_4 rfl; have z3 := lv_neT (a := 3) h_5 rfl; omega) (by decide) ?_
            refine lv_bipush (v := (-2)) hx hb dX8_cell_90 (by decide) ?_
            exact r_iret X hP hS (pr0 h) rfl dX8_cell_92
  · replace h := if_elp h hc
    refine lv_bipush (v := (-2)) hx hb dX8_cell_8 (by decide) ?_
    exact r_iret X hP hS (pr0 h) rfl dX8_cell_10
abbrev rmX8_history : Room := { frames := 1, cells := 0, slots := 0, locals := 21 }
def f_X8_history_33 (M : Mem) (v1 : Int32) (v2 : Int32) (s0 : Int32) : Option (Int32) :=
  if s0 = 0 then (some (-1)) else (gd (inR ((v1 * 12) + v2) 480) <| some (gI M 9 ((v1 * 12) + v2).toNatClampNeg))
set_option maxRecDepth 100000 in
set_option maxHeartbeats 4000000 in
theorem w_X8_history_33 (X : Cx p s m args meth c cX8_history RX8 4 (some .int) G cy) {M : Mem} {out : Int32} {v1 : Int32} {v2 : Int32} {s0 : Int32} (hP : Pic G B cy nT M H) (hS : va_S (FB B) s.heap H locs) (hl : lv_has ls 4 [(0, .ref (B + 0)), (1, .int v1), (2, .int v2)]) (h : f_X8_history_33 M v1 v2 s0 = some out) : W p l e rmX8_history s m args below meth c H locs 0 0 (MQ below (Qi G B cy nT out M) args s 0 0 (FB B)) (F0 m 33 ls [.int s0]) := by
  obtain ⟨hx, hb, hr, hml, hown, hts, hKn, hlk⟩ := id X
  unfold f_X8_history_33 at h
  refine lv_istore_n (lv' := [(3, .int s0), (0, .ref (B + 0)), (1, .int v1), (2, .int v2)]) hx hb dX8_history_33 rfl hl (by decide) rfl (fun ls hl => ?_)
  refine lv_iload_n hx hb dX8_history_34 rfl (lv_at hl 0 rfl) ?_
  refine lv_if_eq (tgt := 55) hx hb dX8_history_35 (by decide) (fun hc => ?_) (fun hc => ?_)
  · replace h := if_elp h hc
    refine lv_iconst (v := (-1)) hx hb dX8_history_55 (by decide) ?_
    exact r_iret X hP hS (pr0 h) rfl dX8_history_56
  · replace h := if_eln h hc
    refine lv_aload_n hx hb dX8_history_38 rfl (lv_at hl 1 rfl) ?_
    refine gf_X8_10 X hP dX8_history_39 ?_
    refine gf_X8_115 X hP dX8_history_42 ?_
    refine lv_iload_n hx hb dX8_history_45 rfl (lv_at hl 2 rfl) ?_
    refine lv_bipush (v := 12) hx hb dX8_history_46 (by decide) ?_
    refine lv_imul hx hb dX8_history_48 ?_
    refine lv_iload_n hx hb dX8_history_49 rfl (lv_at hl 3 rfl) ?_
    refine lv_iadd hx hb dX8_history_50 ?_
    obtain ⟨g_1, h⟩ := gd_el h
    refine r_iald X hP kq_9 g_1 dX8_history_51 ?_
    refine lv_goto (tgt := 56) hx hb dX8_history_52 (by decide) ?_
    exact r_iret X hP hS (pr0 h) rfl dX8_history_56
def f_X8_history_32 (M : Mem) (v1 : Int32) (v2 : Int32) : Option (Int32) :=
  f_X8_history_33 M v1 v2 0
set_option maxRecDepth 100000 in
set_option maxHeartbeats 4000000 in
theorem w_X8_history_32 (X : Cx p s m args meth c cX8_history RX8 4 (some .int) G cy) {M : Mem} {out : Int32} {v1 : Int32} {v2 : Int32} (hP : Pic G B cy nT M H) (hS : va_S (FB B) s.heap H locs) (hl : lv_has ls 4 [(0, .ref (B + 0)), (1, .int v1), (2, .int v2)]) (h : f_X8_history_32 M v1 v2 = some out) : W p l e rmX8_history s m args below meth c H locs 0 0 (MQ below (Qi G B cy nT out M) args s 0 0 (FB B)) (F0 m 32 ls []) := by
  obtain ⟨hx, hb, hr, hml, hown, hts, hKn, hlk⟩ := id X
  unfold f_X8_history_32 at h
  refine lv_iconst (v := 0) hx hb dX8_history_32 (by decide) ?_
  exact w_X8_history_33 X hP hS (lv_sub hl [0, 1, 2] rfl) h
def f_X8_history (M : Mem) (a1 : Int32) (a2 : Int32) : Option (Int32) :=
  Option.bind (f_X8_isCell (Int32.toInt64 a1)) fun r_1 => if (bI r_1) = 0 then (some (-2)) else (if a2 < 0 then (f_X8_history_32 M a1 a2) else (gd (inR a1 40) <| if (gI M 10 a1.toNatClampNeg) ≤ a2 then (f_X8_history_32 M a1 a2) else (f_X8_history_33 M a1 a2 1)))
set_option maxRecDepth 100000 in
set_option maxHeartbeats 4000000 in
theorem c_X8_history {l : Launch} {G : va_G} {cy : Nat → ClassId} {B nT : Nat} {M : Mem} {a1 : Int32} {a2 : Int32} {out : Int32} (h : f_X8_history M a1 a2 = some out) : Met l yX8_history (wsU yX8_history cX8_history 4 (some .int)) rmX8_history (va_Pc [.ref (B + 0), .int a1, .int a2] (PU G B cy nT M)) (Qi G B cy nT out M) 0 0 (FB B) := by
  refine r_met (by decide +kernel) RX8 rfl (Nat.le_of_ble_eq_true rfl) ?_
  intro p e s m args below meth c ls X hP hl
  have hl : lv_has ls 4 [(0, .ref (B + 0)), (1, .int a1), (2, .int a2)] := hl
  have hS : va_S (FB B) s.heap s.heap [] := va_S.rf
  obtain ⟨hx, hb, hr, hml, hown, hts, hKn, hlk⟩ := id X
  unfold f_X8_history at h
  refine lv_iload_n hx hb dX8_history_0 rfl (lv_at hl 1 rfl) ?_
  refine lv_i2l (v := (Int32.toInt64 a1)) hx hb dX8_history_1 rfl ?_
  obtain ⟨r_1, h_1, h⟩ := bd_el h
  refine cl_i (rn_S X hP (c_X8_isCell h_1) k_186 k_187 k_1 k_188 hd_X8_isCell (n := 1) ⟨⟨rfl, rfl⟩, Nat.le_of_ble_eq_true rfl, Nat.le_of_ble_eq_true rfl⟩ (As := [.long (Int32.toInt64 a1)]) (rest := []) rfl hl.1 rfl (Nat.le_of_ble_eq_true rfl) dX8_history_2 ⟨Nat.zero_le _, Nat.zero_le _⟩) hS (fun H locs hP hS => ?_)
  refine lv_if_ne (tgt := 11) hx hb dX8_history_5 (by decide) (fun hc => ?_) (fun hc => ?_)
  · replace h := if_eln h hc
    refine lv_iload_n hx hb dX8_history_11 rfl (lv_at hl 2 rfl) ?_
    refine lv_if_lt (tgt := 32) hx hb dX8_history_12 (by decide) (fun hc => ?_) (fun hc => ?_)
    · replace h := if_elp h hc
      exact w_X8_history_32 X hP hS (lv_sub hl [0, 1, 2] rfl) h
    · replace h := if_eln h hc
      refine lv_iload_n hx hb dX8_history_15 rfl (lv_at hl 2 rfl) ?_
      refine lv_aload_n hx hb dX8_history_16 rfl (lv_at hl 0 rfl) ?_
      refine gf_X8_10 X hP dX8_history_17 ?_
      refine gf_X8_112 X hP dX8_history_20 ?_
      refine lv_iload_n hx hb dX8_history_23 rfl (lv_at hl 1 rfl) ?_
      obtain ⟨g_1, h⟩ := gd_el h
      refine r_iald X hP kq_10 g_1 dX8_history_24 ?_
      refine lv_icmp_ge (tgt := 32) hx hb dX8_history_25 (by decide) (fun hc => ?_) (fun hc => ?_)
      · replace h := if_elp h hc
        exact w_X8_history_32 X hP hS (lv_sub hl [0, 1, 2] rfl) h
      · replace h := if_eln h hc
        refine lv_iconst (v := 1) hx hb dX8_history_28 (by decide) ?_
        refine lv_goto (tgt := 33) hx hb dX8_history_29 (by decide) ?_
        exact w_X8_history_33 X hP hS (lv_sub hl [0, 1, 2] rfl) h
  · replace h := if_elp h hc
    refine lv_bipush (v := (-2)) hx hb dX8_history_8 (by decide) ?_
    exact r_iret X hP hS (pr0 h) rfl dX8_history_10
abbrev rmX8_stock : Room := { frames := 1, cells := 0, slots := 0, locals := 24 }
def f_X8_stock_23 (M : Mem) (v1 : Int32) (v2 : Int32) : Option (Int64) :=
  if v1 = 1 then (Option.bind (f_X8_isGrower v2) fun r_1 => if (bI r_1) = 0 then (some (-2)) else (Option.bind (f_X1_gramsOfGrower 2 M v2) fun r_2 => some r_2)) else (some (-2))
set_option maxRecDepth 100000 in
set_option maxHeartbeats 4000000 in
theorem w_X8_stock_23 (X : Cx p s m args meth c cX8_stock RX8 3 (some .long) G cy) {M : Mem} {out : Int64} {v1 : Int32} {v2 : Int32} (hP : Pic G B cy nT M H) (hS : va_S (FB B) s.heap H locs) (hl : lv_has ls 3 [(0, .ref (B + 0)), (1, .int v1), (2, .int v2)]) (h : f_X8_stock_23 M v1 v2 = some out) : W p l e rmX8_stock s m args below meth c H locs 0 0 (MQ below (Ql G B cy nT out M) args s 0 0 (FB B)) (F0 m 23 ls []) := by
  obtain ⟨hx, hb, hr, hml, hown, hts, hKn, hlk⟩ := id X
  unfold f_X8_stock_23 at h
  refine lv_iload_n hx hb dX8_stock_23 rfl (lv_at hl 1 rfl) ?_
  refine lv_iconst (v := 1) hx hb dX8_stock_24 (by decide) ?_
  refine lv_icmp_ne (tgt := 47) hx hb dX8_stock_25 (by decide) (fun hc => ?_) (fun hc => ?_)
  · replace h := if_eln h hc
    refine lv_ldc2 (v := (-2)) hx hb hown (hts _ k_249) dX8_stock_47 ?_
    exact r_lret X hP hS (pr0 h) rfl dX8_stock_50
  · replace h := if_elp h hc
    refine lv_iload_n hx hb dX8_stock_28 rfl (lv_at hl 2 rfl) ?_
    obtain ⟨r_1, h_1, h⟩ := bd_el h
    refine cl_i (rn_S X hP (c_X8_isGrower h_1) k_213 k_214 k_1 k_215 hd_X8_isGrower (n := 1) ⟨⟨rfl, rfl⟩, Nat.le_of_ble_eq_true rfl, Nat.le_of_ble_eq_true rfl⟩ (As := [.int v2]) (rest := []) rfl hl.1 rfl (Nat.le_of_ble_eq_true rfl) dX8_stock_29 ⟨Nat.zero_le _, Nat.zero_le _⟩) hS (fun H locs hP hS => ?_)
    refine lv_if_eq (tgt := 47) hx hb dX8_stock_32 (by decide) (fun hc => ?_) (fun hc => ?_)
    · replace h := if_elp h hc
      refine lv_ldc2 (v := (-2)) hx hb hown (hts _ k_249) dX8_stock_47 ?_
      exact r_lret X hP hS (pr0 h) rfl dX8_stock_50
    · replace h := if_eln h hc
      refine lv_aload_n hx hb dX8_stock_35 rfl (lv_at hl 0 rfl) ?_
      refine gf_X8_10 X hP dX8_stock_36 ?_
      refine gf_X8_74 X hP dX8_stock_39 ?_
      refine lv_iload_n hx hb dX8_stock_42 rfl (lv_at hl 2 rfl) ?_
      obtain ⟨r_2, h_2, h⟩ := bd_el h
      refine cl_l (rn_V (C := RX1) (ci := 1) X hP (c_X1_gramsOfGrower isC_2 h_2) (kC_0 isC_2) rfl k_245 k_246 k_247 k_3 k_248 rfl hd_X1_gramsOfGrower (n := 1) ⟨⟨rfl, rfl⟩, Nat.le_of_ble_eq_true rfl, Nat.le_of_ble_eq_true rfl⟩ (As := [.int v2]) (rest := []) rfl hl.1 rfl (Nat.le_of_ble_eq_true rfl) dX8_stock_43 ⟨Nat.zero_le _, Nat.zero_le _⟩) hS (fun H locs hP hS => ?_)
      exact r_lret X hP hS (pr0 h) rfl dX8_stock_46
def f_X8_stock (M : Mem) (a1 : Int32) (a2 : Int32) : Option (Int64) :=
  if a1 = 0 then (Option.bind (f_X8_isKind a2) fun r_1 => if (bI r_1) = 0 then (f_X8_stock_23 M a1 a2) else (Option.bind (f_X1_gramsOfKind 2 M a2) fun r_2 => some r_2)) else (f_X8_stock_23 M a1 a2)
set_option maxRecDepth 100000 in
set_option maxHeartbeats 4000000 in
theorem c_X8_stock {l : Launch} {G : va_G} {cy : Nat → ClassId} {B nT : Nat} {M : Mem} {a1 : Int32} {a2 : Int32} {out : Int64} (h : f_X8_stock M a1 a2 = some out) : Met l yX8_stock (wsU yX8_stock cX8_stock 3 (some .long)) rmX8_stock (va_Pc [.ref (B + 0), .int a1, .int a2] (PU G B cy nT M)) (Ql G B cy nT out M) 0 0 (FB B) := by
  refine r_met (by decide +kernel) RX8 rfl (Nat.le_of_ble_eq_true rfl) ?_
  intro p e s m args below meth c ls X hP hl
  have hl : lv_has ls 3 [(0, .ref (B + 0)), (1, .int a1), (2, .int a2)] := hl
  have hS : va_S (FB B) s.heap s.heap [] := va_S.rf
  obtain ⟨hx, hb, hr, hml, hown, hts, hKn, hlk⟩ := id X
  unfold f_X8_stock at h
  refine lv_iload_n hx hb dX8_stock_0 rfl (lv_at hl 1 rfl) ?_
  refine lv_if_ne (tgt := 23) hx hb dX8_stock_1 (by decide) (fun hc => ?_) (fun hc => ?_)
  · replace h := if_eln h hc
    exact w_X8_stock_23 X hP hS (lv_sub hl [0, 1, 2] rfl) h
  · replace h := if_elp h hc
    refine lv_iload_n hx hb dX8_stock_4 rfl (lv_at hl 2 rfl) ?_
    obtain ⟨r_1, h_1, h⟩ := bd_el h
    refine cl_i (rn_S X hP (c_X8_isKind h_1) k_210 k_211 k_1 k_212 hd_X8_isKind (n := 1) ⟨⟨rfl, rfl⟩, Nat.le_of_ble_eq_true rfl, Nat.le_of_ble_eq_true rfl⟩ (As := [.int a2]) (rest := []) rfl hl.1 rfl (Nat.le_of_ble_eq_true rfl) dX8_stock_5 ⟨Nat.zero_le _, Nat.zero_le _⟩) hS (fun H locs hP hS => ?_)
    refine lv_if_eq (tgt := 23) hx hb dX8_stock_8 (by decide) (fun hc => ?_) (fun hc => ?_)
    · replace h := if_elp h hc
      exact w_X8_stock_23 X hP hS (lv_sub hl [0, 1, 2] rfl) h
    · replace h := if_eln h hc
      refine lv_aload_n hx hb dX8_stock_11 rfl (lv_at hl 0 rfl) ?_
      refine gf_X8_10 X hP dX8_stock_12 ?_
      refine gf_X8_74 X hP dX8_stock_15 ?_
      refine lv_iload_n hx hb dX8_stock_18 rfl (lv_at hl 2 rfl) ?_
      obtain ⟨r_2, h_2, h⟩ := bd_el h
      refine cl_l (rn_V (C := RX1) (ci := 1) X hP (c_X1_gramsOfKind isC_2 h_2) (kC_0 isC_2) rfl k_241 k_242 k_243 k_3 k_244 rfl hd_X1_gramsOfKind (n := 1) ⟨⟨rfl, rfl⟩, Nat.le_of_ble_eq_true rfl, Nat.le_of_ble_eq_true rfl⟩ (As := [.int a2]) (rest := []) rfl hl.1 rfl (Nat.le_of_ble_eq_true rfl) dX8_stock_19 ⟨Nat.zero_le _, Nat.zero_le _⟩) hS (fun H locs hP hS => ?_)
      exact r_lret X hP hS (pr0 h) rfl dX8_stock_22
abbrev rmX8_step : Room := { frames := 2, cells := 0, slots := 0, locals := 43 }
def f_X8_step (M : Mem) (a1 : Int32) (a2 : Int32) (a3 : Int32) (a4 : Int32) : Option (Int32 × Mem) :=
  Option.bind (f_X8_isTrade a1) fun r_1 => if (bI r_1) = 0 then (some ((-2), M)) else (Option.bind (f_X7_fits a2 a3 a4) fun r_2 => if (bI r_2) = 0 then (some ((-2), M)) else (gd (inR a1 16) <| if (gI M 12 a1.toNatClampNeg) < 24 then (Option.bind (f_X7_append M a1 a2 a3 a4) fun r_3 => some (r_3.1, r_3.2)) else (some ((-3), M))))
set_option maxRecDepth 100000 in
set_option maxHeartbeats 4000000 in
theorem c_X8_step {l : Launch} {G : va_G} {cy : Nat → ClassId} {B nT : Nat} {M : Mem} {a1 : Int32} {a2 : Int32} {a3 : Int32} {a4 : Int32} {out : Int32 × Mem} (h : f_X8_step M a1 a2 a3 a4 = some out) : Met l yX8_step (wsU yX8_step cX8_step 5 (some .int)) rmX8_step (va_Pc [.ref (B + 0), .int a1, .int a2, .int a3, .int a4] (PU G B cy nT M)) (Qi G B cy nT out.1 out.2) 0 0 (FB B) := by
  refine r_met (by decide +kernel) RX8 rfl (Nat.le_of_ble_eq_true rfl) ?_
  intro p e s m args below meth c ls X hP hl
  have hl : lv_has ls 5 [(0, .ref (B + 0)), (1, .int a1), (2, .int a2), (3, .int a3), (4, .int a4)] := hl
  have hS : va_S (FB B) s.heap s.heap [] := va_S.rf
  obtain ⟨hx, hb, hr, hml, hown, hts, hKn, hlk⟩ := id X
  unfold f_X8_step at h
  refine lv_iload_n hx hb dX8_step_0 rfl (lv_at hl 1 rfl) ?_
  obtain ⟨r_1, h_1, h⟩ := bd_el h
  refine cl_i (rn_S X hP (c_X8_isTrade h_1) k_254 k_255 k_1 k_256 hd_X8_isTrade (n := 1) ⟨⟨rfl, rfl⟩, Nat.le_of_ble_eq_true rfl, Nat.le_of_ble_eq_true rfl⟩ (As := [.int a1]) (rest := []) rfl hl.1 rfl (Nat.le_of_ble_eq_true rfl) dX8_step_1 ⟨Nat.zero_le _, Nat.zero_le _⟩) hS (fun H locs hP hS => ?_)
  refine lv_if_eq (tgt := 17) hx hb dX8_step_4 (by decide) (fun hc => ?_) (fun hc => ?_)
  · replace h := if_elp h hc
    refine lv_bipush (v := (-2)) hx hb dX8_step_17 (by decide) ?_
    exact r_iret X hP hS (pr1 h) (pr2 h) dX8_step_19
  · replace h := if_eln h hc
    refine lv_iload_n hx hb dX8_step_7 rfl (lv_at hl 2 rfl) ?_
    refine lv_iload_n hx hb dX8_step_8 rfl (lv_at hl 3 rfl) ?_
    refine lv_iload hx hb dX8_step_9 (lv_at hl 4 rfl) ?_
    obtain ⟨r_2, h_2, h⟩ := bd_el h
    refine cl_i (rn_S X hP (c_X7_fits h_2) k_257 k_258 k_4 k_259 hd_X7_fits (n := 3) ⟨⟨rfl, rfl⟩, Nat.le_of_ble_eq_true rfl, Nat.le_of_ble_eq_true rfl⟩ (As := [.int a2, .int a3, .int a4]) (rest := []) rfl hl.1 rfl (Nat.le_of_ble_eq_true rfl) dX8_step_11 ⟨Nat.zero_le _, Nat.zero_le _⟩) hS (fun H locs hP hS => ?_)
    refine lv_if_ne (tgt := 20) hx hb dX8_step_14 (by decide) (fun hc => ?_) (fun hc => ?_)
    · replace h := if_eln h hc
      refine lv_aload_n hx hb dX8_step_20 rfl (lv_at hl 0 rfl) ?_
      refine gf_X8_19 X hP dX8_step_21 ?_
      refine gf_X8_134 X hP dX8_step_24 ?_
      refine lv_iload_n hx hb dX8_step_27 rfl (lv_at hl 1 rfl) ?_
      obtain ⟨g_1, h⟩ := gd_el h
      refine r_iald X hP kq_12 g_1 dX8_step_28 ?_
      refine lv_bipush (v := 24) hx hb dX8_step_29 (by decide) ?_
      refine lv_icmp_lt (tgt := 37) hx hb dX8_step_31 (by decide) (fun hc => ?_) (fun hc => ?_)
      · replace h := if_elp h hc
        refine lv_aload_n hx hb dX8_step_37 rfl (lv_at hl 0 rfl) ?_
        refine gf_X8_19 X hP dX8_step_38 ?_
        refine lv_iload_n hx hb dX8_step_41 rfl (lv_at hl 1 rfl) ?_
        refine lv_iload_n hx hb dX8_step_42 rfl (lv_at hl 2 rfl) ?_
        refine lv_iload_n hx hb dX8_step_43 rfl (lv_at hl 3 rfl) ?_
        refine lv_iload hx hb dX8_step_44 (lv_at hl 4 rfl) ?_
        obtain ⟨r_3, h_3, h⟩ := bd_el h
        refine cl_i (rn_V (C := RX7) (ci := 7) X hP (c_X7_append h_3) kq_11 rfl k_262 k_263 k_264 k_4 k_265 rfl hd_X7_append (n := 4) ⟨⟨rfl, rfl⟩, Nat.le_of_ble_eq_true rfl, Nat.le_of_ble_eq_true rfl⟩ (As := [.int a1, .int a2, .int a3, .int a4]) (rest := []) rfl hl.1 rfl (Nat.le_of_ble_eq_true rfl) dX8_step_46 ⟨Nat.zero_le _, Nat.zero_le _⟩) hS (fun H locs hP hS => ?_)
        exact r_iret X hP hS (pr1 h) (pr2 h) dX8_step_49
      · replace h := if_eln h hc
        refine lv_bipush (v := (-3)) hx hb dX8_step_34 (by decide) ?_
        exact r_iret X hP hS (pr1 h) (pr2 h) dX8_step_36
    · replace h := if_elp h hc
      refine lv_bipush (v := (-2)) hx hb dX8_step_17 (by decide) ?_
      exact r_iret X hP hS (pr1 h) (pr2 h) dX8_step_19
abbrev rmX8_drop : Room := { frames := 1, cells := 0, slots := 0, locals := 20 }
def f_X8_drop (M : Mem) (a1 : Int32) : Option (Int32 × Mem) :=
  Option.bind (f_X8_isTrade a1) fun r_1 => if (bI r_1) = 0 then (some ((-2), M)) else (gd (inR a1 16) <| lt (gI M 12 a1.toNatClampNeg) fun v_1 => gd (inR a1 16) <| lt (sI M 12 a1.toNatClampNeg 0) fun M_1 => some (v_1, M_1))
set_option maxRecDepth 100000 in
set_option maxHeartbeats 4000000 in
theorem c_X8_drop {l : Launch} {G : va_G} {cy : Nat → ClassId} {B nT : Nat} {M : Mem} {a1 : Int32} {out : Int32 × Mem} (h : f_X8_drop M a1 = some out) : Met l yX8_drop (wsU yX8_drop cX8_drop 3 (some .int)) rmX8_drop (va_Pc [.ref (B + 0), .int a1] (PU G B cy nT M)) (Qi G B cy nT out.1 out.2) 0 0 (FB B) := by
  refine r_met (by decide +kernel) RX8 rfl (Nat.le_of_ble_eq_true rfl) ?_
  intro p e s m args below meth c ls X hP hl
  have hl : lv_has ls 3 [(0, .ref (B + 0)), (1, .int a1)] := hl
  have hS : va_S (FB B) s.heap s.heap [] := va_S.rf
  obtain ⟨hx, hb, hr, hml, hown, hts, hKn, hlk⟩ := id X
  unfold f_X8_drop at h
  refine lv_iload_n hx hb dX8_drop_0 rfl (lv_at hl 1 rfl) ?_
  obtain ⟨r_1, h_1, h⟩ := bd_el h
  refine cl_i (rn_S X hP (c_X8_isTrade h_1) k_254 k_255 k_1 k_256 hd_X8_isTrade (n := 1) ⟨⟨rfl, rfl⟩, Nat.le_of_ble_eq_true rfl, Nat.le_of_ble_eq_true rfl⟩ (As := [.int a1]) (rest := []) rfl hl.1 rfl (Nat.le_of_ble_eq_true rfl) dX8_drop_1 ⟨Nat.zero_le _, Nat.zero_le _⟩) hS (fun H locs hP hS => ?_)
  refine lv_if_ne (tgt := 10) hx hb dX8_drop_4 (by decide) (fun hc => ?_) (fun hc => ?_)
  · replace h := if_eln h hc
    refine lv_aload_n hx hb dX8_drop_10 rfl (lv_at hl 0 rfl) ?_
    refine gf_X8_19 X hP dX8_drop_11 ?_
    refine gf_X8_134 X hP dX8_drop_14 ?_
    refine lv_iload_n hx hb dX8_drop_17 rfl (lv_at hl 1 rfl) ?_
    obtain ⟨g_1, h⟩ := gd_el h
    refine r_iald X hP kq_12 g_1 dX8_drop_18 ?_
    obtain ⟨v_1, e_1, h⟩ := lt_el h
    refine r_topi e_1 ?_
    refine lv_istore_n (lv' := [(2, .int v_1), (0, .ref (B + 0)), (1, .int a1)]) hx hb dX8_drop_19 rfl hl (by decide) rfl (fun ls hl => ?_)
    refine lv_aload_n hx hb dX8_drop_20 rfl (lv_at hl 1 rfl) ?_
    refine gf_X8_19 X hP dX8_drop_21 ?_
    refine gf_X8_134 X hP dX8_drop_24 ?_
    refine lv_iload_n hx hb dX8_drop_27 rfl (lv_at hl 2 rfl) ?_
    refine lv_iconst (v := 0) hx hb dX8_drop_28 (by decide) ?_
    obtain ⟨g_2, h⟩ := gd_el h
    obtain ⟨M_1, e_2, h⟩ := lt_el h
    refine r_iast X hP hS kq_12 g_2 e_2 dX8_drop_29 (fun H locs hP hS => ?_)
    refine lv_iload_n hx hb dX8_drop_30 rfl (lv_at hl 0 rfl) ?_
    exact r_iret X hP hS (pr1 h) (pr2 h) dX8_drop_31
  · replace h := if_elp h hc
    refine lv_bipush (v := (-2)) hx hb dX8_drop_7 (by decide) ?_
    exact r_iret X hP hS (pr1 h) (pr2 h) dX8_drop_9
abbrev rmX8_clash : Room := { frames := 1, cells := 0, slots := 0, locals := 20 }
def f_X8_clash (M : Mem) (a1 : Int32) (a2 : Int32) : Option (Int32 × Mem) :=
  Option.bind (f_X8_isTrade a1) fun r_1 => if (bI r_1) = 0 then (some ((-2), M)) else (if a2 < 0 then (some ((-2), M)) else (if a2 ≤ 10 then (gd (inR a1 16) <| lt (gI M 13 a1.toNatClampNeg) fun v_1 => gd (inR a1 16) <| lt (sI M 13 a1.toNatClampNeg a2) fun M_1 => some (v_1, M_1)) else (some ((-2), M))))
set_option maxRecDepth 100000 in
set_option maxHeartbeats 4000000 in
theorem c_X8_clash {l : Launch} {G : va_G} {cy : Nat → ClassId} {B nT : Nat} {M : Mem} {a1 : Int32} {a2 : Int32} {out : Int32 × Mem} (h : f_X8_clash M a1 a2 = some out) : Met l yX8_clash (wsU yX8_clash cX8_clash 4 (some .int)) rmX8_clash (va_Pc [.ref (B + 0), .int a1, .int a2] (PU G B cy nT M)) (Qi G B cy nT out.1 out.2) 0 0 (FB B) := by
  refine r_met (by decide +kernel) RX8 rfl (Nat.le_of_ble_eq_true rfl) ?_
  intro p e s m args below meth c ls X hP hl
  have hl : lv_has ls 4 [(0, .ref (B + 0)), (1, .int a1), (2, .int a2)] := hl
  have hS : va_S (FB B) s.heap s.heap [] := va_S.rf
  obtain ⟨hx, hb, hr, hml, hown, hts, hKn, hlk⟩ := id X
  unfold f_X8_clash at h
  refine lv_iload_n hx hb dX8_clash_0 rfl (lv_at hl 1 rfl) ?_
  obtain ⟨r_1, h_1, h⟩ := bd_el h
  refine cl_i (rn_S X hP (c_X8_isTrade h_1) k_254 k_255 k_1 k_256 hd_X8_isTrade (n := 1) ⟨⟨rfl, rfl⟩, Nat.le_of_ble_eq_true rfl, Nat.le_of_ble_eq_true rfl⟩ (As := [.int a1]) (rest := []) rfl hl.1 rfl (Nat.le_of_ble_eq_true rfl) dX8_clash_1 ⟨Nat.zero_le _, Nat.zero_le _⟩) hS (fun H locs hP hS => ?_)
  refine lv_if_eq (tgt := 17) hx hb dX8_clash_4 (by decide) (fun hc => ?_) (fun hc => ?_)
  · replace h := if_elp h hc
    refine lv_bipush (v := (-2)) hx hb dX8_clash_17 (by decide) ?_
    exact r_iret X hP hS (pr1 h) (pr2 h) dX8_clash_19
  · replace h := if_eln h hc
    refine lv_iload_n hx hb dX8_clash_7 rfl (lv_at hl 2 rfl) ?_
    refine lv_if_lt (tgt := 17) hx hb dX8_clash_8 (by decide) (fun hc => ?_) (fun hc => ?_)
    · replace h := if_elp h hc
      refine lv_bipush (v := (-2)) hx hb dX8_clash_17 (by decide) ?_
      exact r_iret X hP hS (pr1 h) (pr2 h) dX8_clash_19
    · replace h := if_eln h hc
      refine lv_iload_n hx hb dX8_clash_11 rfl (lv_at hl 2 rfl) ?_
      refine lv_bipush (v := 10) hx hb dX8_clash_12 (by decide) ?_
      refine lv_icmp_le (tgt := 20) hx hb dX8_clash_14 (by decide) (fun hc => ?_) (fun hc => ?_)
      · replace h := if_elp h hc
        refine lv_aload_n hx hb dX8_clash_20 rfl (lv_at hl 0 rfl) ?_
        refine gf_X8_19 X hP dX8_clash_21 ?_
        refine gf_X8_141 X hP dX8_clash_24 ?_
        refine lv_iload_n hx hb dX8_clash_27 rfl (lv_at hl 1 rfl) ?_
        obtain ⟨g_1, h⟩ := gd_el h
        refine r_iald X hP kq_13 g_1 dX8_clash_28 ?_
        obtain ⟨v_1, e_1, h⟩ := lt_el h
        refine r_topi e_1 ?_
        refine lv_istore_n (lv' := [(3, .int v_1), (0, .ref (B + 0)), (1, .int a1), (2, .int a2)]) hx hb dX8_clash_29 rfl hl (by decide) rfl (fun ls hl => ?_)
        refine lv_aload_n hx hb dX8_clash_30 rfl (lv_at hl 1 rfl) ?_
        refine gf_X8_19 X hP dX8_clash_31 ?_
        refine gf_X8_141 X hP dX8_clash_34 ?_
        refine lv_iload_n hx hb dX8_clash_37 rfl (lv_at hl 2 rfl) ?_
        refine lv_iload_n hx hb dX8_clash_38 rfl (lv_at hl 3 rfl) ?_
        obtain ⟨g_2, h⟩ := gd_el h
        obtain ⟨M_1, e_2, h⟩ := lt_el h
        refine r_iast X hP hS kq_13 g_2 e_2 dX8_clash_39 (fun H locs hP hS => ?_)
        refine lv_iload_n hx hb dX8_clash_40 rfl (lv_at hl 0 rfl) ?_
        exact r_iret X hP hS (pr1 h) (pr2 h) dX8_clash_41
      · replace h := if_eln h hc
        refine lv_bipush (v := (-2)) hx hb dX8_clash_17 (by decide) ?_
        exact r_iret X hP hS (pr1 h) (pr2 h) dX8_clash_19
abbrev rmX8_rule : Room := { frames := 2, cells := 0, slots := 0, locals := 43 }
def f_X8_rule (M : Mem) (a1 : Int32) (a2 : Int32) (a3 : Int32) (a4 : Int64) : Option (Int32 × Mem) :=
  Option.bind (f_X4_fits a1 a2 a3) fun r_1 => if (bI r_1) = 0 then (some ((-2), M)) else (if (gI M 17 4) < 10 then (Option.bind (f_X4_append M a1 a2 a3 a4) fun r_2 => some (r_2.1, r_2.2)) else (some ((-3), M)))
set_option maxRecDepth 100000 in
set_option maxHeartbeats 4000000 in
theorem c_X8_rule {l : Launch} {G : va_G} {cy : Nat → ClassId} {B nT : Nat} {M : Mem} {a1 : Int32} {a2 : Int32} {a3 : Int32} {a4 : Int64} {out : Int32 × Mem} (h : f_X8_rule M a1 a2 a3 a4 = some out) : Met l yX8_rule (wsU yX8_rule cX8_rule 6 (some .int)) rmX8_rule (va_Pc [.ref (B + 0), .int a1, .int a2, .int a3, .long a4] (PU G B cy nT M)) (Qi G B cy nT out.1 out.2) 0 0 (FB B) := by
  refine r_met (by decide +kernel) RX8 rfl (Nat.le_of_ble_eq_true rfl) ?_
  intro p e s m args below meth c ls X hP hl
  have hl : lv_has ls 6 [(0, .ref (B + 0)), (1, .int a1), (2, .int a2), (3, .int a3), (4, .long a4)] := hl
  have hS : va_S (FB B) s.heap s.heap [] := va_S.rf
  obtain ⟨hx, hb, hr, hml, hown, hts, hKn, hlk⟩ := id X
  unfold f_X8_rule at h
  refine lv_iload_n hx hb dX8_rule_0 rfl (lv_at hl 1 rfl) ?_
  refine lv_iload_n hx hb dX8_rule_1 rfl (lv_at hl 2 rfl) ?_
  refine lv_iload_n hx hb dX8_rule_2 rfl (lv_at hl 3 rfl) ?_
  obtain ⟨r_1, h_1, h⟩ := bd_el h
  refine cl_i (rn_S X hP (c_X4_fits h_1) k_278 k_279 k_5 k_280 hd_X4_fits (n := 3) ⟨⟨rfl, rfl⟩, Nat.le_of_ble_eq_true rfl, Nat.le_of_ble_eq_true rfl⟩ (As := [.int a1, .int a2, .int a3]) (rest := []) rfl hl.1 rfl (Nat.le_of_ble_eq_true rfl) dX8_rule_3 ⟨Nat.zero_le _, Nat.zero_le _⟩) hS (fun H locs hP hS => ?_)
  refine lv_if_ne (tgt := 12) hx hb dX8_rule_6 (by decide) (fun hc => ?_) (fun hc => ?_)
  · replace h := if_eln h hc
    refine lv_aload_n hx hb dX8_rule_12 rfl (lv_at hl 0 rfl) ?_
    refine gf_X8_26 X hP dX8_rule_13 ?_
    refine gf_X8_145 X hP dX8_rule_16 ?_
    refine lv_bipush (v := 10) hx hb dX8_rule_19 (by decide) ?_
    refine lv_icmp_lt (tgt := 27) hx hb dX8_rule_21 (by decide) (fun hc => ?_) (fun hc => ?_)
    · replace h := if_elp h hc
      refine lv_aload_n hx hb dX8_rule_27 rfl (lv_at hl 0 rfl) ?_
      refine gf_X8_26 X hP dX8_rule_28 ?_
      refine lv_iload_n hx hb dX8_rule_31 rfl (lv_at hl 1 rfl) ?_
      refine lv_iload_n hx hb dX8_rule_32 rfl (lv_at hl 2 rfl) ?_
      refine lv_iload_n hx hb dX8_rule_33 rfl (lv_at hl 3 rfl) ?_
      refine lv_lload hx hb dX8_rule_34 (lv_at hl 4 rfl) ?_
      obtain ⟨r_2, h_2, h⟩ := bd_el h
      refine cl_i (rn_V (C := RX4) (ci := 4) X hP (c_X4_append h_2) kq_17 rfl k_284 k_285 k_286 k_5 k_287 rfl hd_X4_append (n := 4) ⟨⟨rfl, rfl⟩, Nat.le_of_ble_eq_true rfl, Nat.le_of_ble_eq_true rfl⟩ (As := [.int a1, .int a2, .int a3, .long a4]) (rest := []) rfl hl.1 rfl (Nat.le_of_ble_eq_true rfl) dX8_rule_36 ⟨Nat.zero_le _, Nat.zero_le _⟩) hS (fun H locs hP hS => ?_)
      exact r_iret X hP hS (pr1 h) (pr2 h) dX8_rule_39
    · replace h := if_eln h hc
      refine lv_bipush (v := (-3)) hx hb dX8_rule_24 (by decide) ?_
      exact r_iret X hP hS (pr1 h) (pr2 h) dX8_rule_26
  · replace h := if_elp h hc
    refine lv_bipush (v := (-2)) hx hb dX8_rule_9 (by decide) ?_
    exact r_iret X hP hS (pr1 h) (pr2 h) dX8_rule_11
abbrev rmX8_window : Room := { frames := 0, cells := 0, slots := 0, locals := 0 }
def f_X8_window (M : Mem) (a1 : Int32) : Option (Int32 × Mem) :=
  if a1 < 1 then (some ((-2), M)) else (if a1 ≤ 4 then (lt (gI M 0 12) fun v_1 => lt (sI M 0 12 a1) fun M_1 => some (v_1, M_1)) else (some ((-2), M)))
set_option maxRecDepth 100000 in
set_option maxHeartbeats 4000000 in
theorem c_X8_window {l : Launch} {G : va_G} {cy : Nat → ClassId} {B nT : Nat} {M : Mem} {a1 : Int32} {out : Int32 × Mem} (h : f_X8_window M a1 = some out) : Met l yX8_window (wsU yX8_window cX8_window 3 (some .int)) rmX8_window (va_Pc [.ref (B + 0), .int a1] (PU G B cy nT M)) (Qi G B cy nT out.1 out.2) 0 0 (FB B) := by
  refine r_met (by decide +kernel) RX8 rfl (Nat.le_of_ble_eq_true rfl) ?_
  intro p e s m args below meth c ls X hP hl
  have hl : lv_has ls 3 [(0, .ref (B + 0)), (1, .int a1)] := hl
  have hS : va_S (FB B) s.heap s.heap [] := va_S.rf
  obtain ⟨hx, hb, hr, hml, hown, hts, hKn, hlk⟩ := id X
  unfold f_X8_window at h
  refine lv_iload_n hx hb dX8_window_0 rfl (lv_at hl 1 rfl) ?_
  refine lv_iconst (v := 1) hx hb dX8_window_1 (by decide) ?_
  refine lv_icmp_lt (tgt := 10) hx hb dX8_window_2 (by decide) (fun hc => ?_) (fun hc => ?_)
  · replace h := if_elp h hc
    refine lv_bipush (v := (-2)) hx hb dX8_window_10 (by decide) ?_
    exact r_iret X hP hS (pr1 h) (pr2 h) dX8_window_12
  · replace h := if_eln h hc
    refine lv_iload_n hx hb dX8_window_5 rfl (lv_at hl 1 rfl) ?_
    refine lv_iconst (v := 4) hx hb dX8_window_6 (by decide) ?_
    refine lv_icmp_le (tgt := 13) hx hb dX8_window_7 (by decide) (fun hc => ?_) (fun hc => ?_)
    · replace h := if_elp h hc
      refine lv_aload_n hx hb dX8_window_13 rfl (lv_at hl 0 rfl) ?_
      refine gf_X8_66 X hP dX8_window_14 ?_
      obtain ⟨v_1, e_1, h⟩ := lt_el h
      refine r_topi e_1 ?_
      refine lv_istore_n (lv' := [(2, .int v_1), (0, .ref (B + 0)), (1, .int a1)]) hx hb dX8_window_17 rfl hl (by decide) rfl (fun ls hl => ?_)
      refine lv_aload_n hx hb dX8_window_18 rfl (lv_at hl 1 rfl) ?_
      refine lv_iload_n hx hb dX8_window_19 rfl (lv_at hl 2 rfl) ?_
      obtain ⟨M_1, e_2, h⟩ := lt_el h
      refine pf_X8_66 X hP hS e_2 dX8_window_20 (fun H locs hP hS => ?_)
      refine lv_iload_n hx hb dX8_window_23 rfl (lv_at hl 0 rfl) ?_
      exact r_iret X hP hS (pr1 h) (pr2 h) dX8_window_24
    · replace h := if_eln h hc
      refine lv_bipush (v := (-2)) hx hb dX8_window_10 (by decide) ?_
      exact r_iret X hP hS (pr1 h) (pr2 h) dX8_window_12
abbrev rmX8_isTicket : Room := { frames := 0, cells := 0, slots := 0, locals := 0 }
def f_X8_isTicket (M : Mem) (a1 : Int32) : Option (Bool) :=
  if a1 < 0 then (some false) else (if (gI M 0 8) ≤ a1 then (some false) else (some true))
set_option maxRecDepth 100000 in
set_option maxHeartbeats 4000000 in
theorem c_X8_isTicket {l : Launch} {G : va_G} {cy : Nat → ClassId} {B nT : Nat} {M : Mem} {a1 : Int32} {out : Bool} (h : f_X8_isTicket M a1 = some out) : Met l yX8_isTicket (wsU yX8_isTicket cX8_isTicket 2 (some .boolean)) rmX8_isTicket (va_Pc [.ref (B + 0), .int a1] (PU G B cy nT M)) (Qi G B cy nT (bI out) M) 0 0 (FB B) := by
  refine r_met (by decide +kernel) RX8 rfl (Nat.le_of_ble_eq_true rfl) ?_
  intro p e s m args below meth c ls X hP hl
  have hl : lv_has ls 2 [(0, .ref (B + 0)), (1, .int a1)] := hl
  have hS : va_S (FB B) s.heap s.heap [] := va_S.rf
  obtain ⟨hx, hb, hr, hml, hown, hts, hKn, hlk⟩ := id X
  unfold f_X8_isTicket at h
  refine lv_iload_n hx hb dX8_isTicket_0 rfl (lv_at hl 1 rfl) ?_
  refine lv_if_lt (tgt := 16) hx hb dX8_isTicket_1 (by decide) (fun hc => ?_) (fun hc => ?_)
  · replace h := if_elp h hc
    refine lv_iconst (v := 0) hx hb dX8_isTicket_16 (by decide) ?_
    exact r_zret X hP hS rfl (prz h) rfl dX8_isTicket_17
  · replace h := if_eln h hc
    refine lv_iload_n hx hb dX8_isTicket_4 rfl (lv_at hl 1 rfl) ?_
    refine lv_aload_n hx hb dX8_isTicket_5 rfl (lv_at hl 0 rfl) ?_
    refine gf_X8_151 X hP dX8_isTicket_6 ?_
    refine lv_icmp_ge (tgt := 16) hx hb dX8_isTicket_9 (by decide) (fun hc => ?_) (fun hc => ?_)
    · replace h := if_elp h hc
      refine lv_iconst (v := 0) hx hb dX8_isTicket_16 (by decide) ?_
      exact r_zret X hP hS rfl (prz h) rfl dX8_isTicket_17
    · replace h := if_eln h hc
      refine lv_iconst (v := 1) hx hb dX8_isTicket_12 (by decide) ?_
      refine lv_goto (tgt := 17) hx hb dX8_isTicket_13 (by decide) ?_
      exact r_zret X hP hS rfl (prz h) rfl dX8_isTicket_17
abbrev rmX8_ticket : Room := { frames := 1, cells := 0, slots := 0, locals := 21 }
def f_X8_ticket (nT : Nat) (M : Mem) (a1 : Int32) (a2 : Int32) : Option (Int32) :=
  Option.bind (f_X8_isTicket M a1) fun r_1 => if (bI r_1) = 0 then (some (-2)) else (gd (inR a1 20) <| gd (decide (a1.toNatClampNeg < nT)) <| if a2 = 0 then (some (gI M (189 + 4 * a1.toNatClampNeg) 1)) else if a2 = 1 then (some (gI M (189 + 4 * a1.toNatClampNeg) 0)) else if a2 = 2 then (some (gI M (189 + 4 * a1.toNatClampNeg) 2)) else if a2 = 3 then (some (gI M (189 + 4 * a1.toNatClampNeg) 4)) else if a2 = 4 then (some (gI M (189 + 4 * a1.toNatClampNeg) 5)) else if a2 = 5 then (some (gI M (189 + 4 * a1.toNatClampNeg) 6)) else if a2 = 6 then (some (gI M (189 + 4 * a1.toNatClampNeg) 3)) else some (-2))
set_option maxRecDepth 100000 in
set_option maxHeartbeats 4000000 in
theorem c_X8_ticket {l : Launch} {G : va_G} {cy : Nat → ClassId} {B nT : Nat} {M : Mem} {a1 : Int32} {a2 : Int32} {out : Int32} (h : f_X8_ticket nT M a1 a2 = some out) : Met l yX8_ticket (wsU yX8_ticket cX8_ticket 4 (some .int)) rmX8_ticket (va_Pc [.ref (B + 0), .int a1, .int a2] (PU G B cy nT M)) (Qi G B cy nT out M) 0 0 (FB B) := by
  refine r_met (by decide +kernel) RX8 rfl (Nat.le_of_ble_eq_true rfl) ?_
  intro p e s m args below meth c ls X hP hl
  have hl : lv_has ls 4 [(0, .ref (B + 0)), (1, .int a1), (2, .int a2)] := hl
  have hS : va_S (FB B) s.heap s.heap [] := va_S.rf
  obtain ⟨hx, hb, hr, hml, hown, hts, hKn, hlk⟩ := id X
  unfold f_X8_ticket at h
  refine lv_aload_n hx hb dX8_ticket_0 rfl (lv_at hl 0 rfl) ?_
  refine lv_iload_n hx hb dX8_ticket_1 rfl (lv_at hl 1 rfl) ?_
  obtain ⟨r_1, h_1, h⟩ := bd_el h
  refine cl_i (rn_V (C := RX8) (ci := 8) X hP (c_X8_isTicket h_1) kq_0 rfl k_490 k_491 k_904 k_1 k_492 rfl hd_X8_isTicket (n := 1) ⟨⟨rfl, rfl⟩, Nat.le_of_ble_eq_true rfl, Nat.le_of_ble_eq_true rfl⟩ (As := [.int a1]) (rest := []) rfl hl.1 rfl (Nat.le_of_ble_eq_true rfl) dX8_ticket_2 ⟨Nat.zero_le _, Nat.zero_le _⟩) hS (fun H locs hP hS => ?_)
  refine lv_if_ne (tgt := 11) hx hb dX8_ticket_5 (by decide) (fun hc => ?_) (fun hc => ?_)
  · replace h := if_eln h hc
    refine lv_aload_n hx hb dX8_ticket_11 rfl (lv_at hl 0 rfl) ?_
    refine gf_X8_39 X hP dX8_ticket_12 ?_
    refine lv_iload_n hx hb dX8_ticket_15 rfl (lv_at hl 1 rfl) ?_
    obtain ⟨g_1, h⟩ := gd_el h
    obtain ⟨g_2, h⟩ := gd_el h
    refine r_aaT X hP g_1 g_2 dX8_ticket_16 ?_
    have h_2 := okT_of g_2
    refine lv_astore_n (lv' := [(3, .ref (B + (189 + 4 * a1.toNatClampNeg))), (0, .ref (B + 0)), (1, .int a1), (2, .int a2)]) hx hb dX8_ticket_17 rfl hl (by decide) rfl (fun ls hl => ?_)
    refine lv_iload_n hx hb dX8_ticket_18 rfl (lv_at hl 3 rfl) ?_
    by_cases h_3 : a2 = 0
    · replace h := if_elp h h_3
      refine lv_tableIn (off := 41) (tgt := 60) hx hb dX8_ticket_19 (by rw [h_3]; decide) (by rw [h_3]; decide) (by rw [h_3]; rfl) (by decide) ?_
      refine lv_aload_n hx hb dX8_ticket_60 rfl (lv_at hl 0 rfl) ?_
      refine gf_X8_167 X hP (kT_0 h_2) dX8_ticket_61 ?_
      exact r_iret X hP hS (pr0 h) rfl dX8_ticket_64
    · replace h := if_eln h h_3
      by_cases h_4 : a2 = 1
      · replace h := if_elp h h_4
        refine lv_tableIn (off := 46) (tgt := 65) hx hb dX8_ticket_19 (by rw [h_4]; decide) (by rw [h_4]; decide) (by rw [h_4]; rfl) (by decide) ?_
        refine lv_aload_n hx hb dX8_ticket_65 rfl (lv_at hl 0 rfl) ?_
        refine gf_X8_170 X hP (kT_0 h_2) dX8_ticket_66 ?_
        exact r_iret X hP hS (pr0 h) rfl dX8_ticket_69
      · replace h := if_eln h h_4
        by_cases h_5 : a2 = 2
        · replace h := if_elp h h_5
          refine lv_tableIn (off := 51) (tgt := 70) hx hb dX8_ticket_19 (by rw [h_5]; decide) (by rw [h_5]; decide) (by rw [h_5]; rfl) (by decide) ?_
          refine lv_aload_n hx hb dX8_ticket_70 rfl (lv_at hl 0 rfl) ?_
          refine gf_X8_173 X hP (kT_0 h_2) dX8_ticket_71 ?_
          exact r_iret X hP hS (pr0 h) rfl dX8_ticket_74
        · replace h := if_eln h h_5
          by_cases h_6 : a2 = 3
          · replace h := if_elp h h_6
            refine lv_tableIn (off := 56) (tgt := 75) hx hb dX8_ticket_19 (by rw [h_6]; decide) (by rw [h_6]; decide) (by rw [h_6]; rfl) (by decide) ?_
            refine lv_aload_n hx hb dX8_ticket_75 rfl (lv_at hl 0 rfl) ?_
            refine gf_X8_176 X hP (kT_0 h_2) dX8_ticket_76 ?_
            exact r_iret X hP hS (pr0 h) rfl dX8_ticket_79
          · replace h := if_eln h h_6
            by_cases h_7 : a2 = 4
            · replace h := if_elp h h_7
              refine lv_tableIn (off := 61) (tgt := 80) hx hb dX8_ticket_19 (by rw [h_7]; decide) (by rw [h_7]; decide) (by rw [h_7]; rfl) (by decide) ?_
              refine lv_aload_n hx hb dX8_ticket_80 rfl (lv_at hl 0 rfl) ?_
              refine gf_X8_179 X hP (kT_0 h_2) dX8_ticket_81 ?_
              exact r_iret X hP hS (pr0 h) rfl dX8_ticket_84
            · replace h := if_eln h h_7
              by_cases h_8 : a2 = 5
              · replace h := if_elp h h_8
                refine lv_tableIn (off := 66) (tgt := 85) hx hb dX8_ticket_19 (by rw [h_8]; decide) (by rw [h_8]; decide) (by rw [h_8]; rfl) (by decide) ?_
                refine lv_aload_n hx hb dX8_ticket_85 rfl (lv_at hl 0 rfl) ?_
                refine gf_X8_182 X hP (kT_0 h_2) dX8_ticket_86 ?_
                exact r_iret X hP hS (pr0 h) rfl dX8_ticket_89
              · replace h := if_eln h h_8
                by_cases h_9 : a2 = 6
                · replace h := if_elp h h_9
                  refine lv_tableIn (off := 71) (tgt := 90) hx hb dX8_ticket_19 (by rw [h_9]; decide) (by rw [h_9]; decide) (by rw [h_9]; rfl) (by decide) ?_
                  refine lv_aload_n hx hb dX8_ticket_90 rfl (lv_at hl 0 rfl) ?_
                  refine gf_X8_185 X hP (kT_0 h_2) dX8_ticket_91 ?_
                  exact r_iret X hP hS (pr0 h) rfl dX8_ticket_94
                · replace h := if_eln h h_9
                  refine lv_tableOut (tgt := 95) hx hb dX8_ticket_19 (by have z0 := lv_neT (a := 0) h_3 rfl; have z1 := lv_neT (a := 1) h_4 rfl; have z2 := lv_neT (a := 2) h_5 rfl; have z3 := lv_neT (a := 3) h_6 rfl; have z4 := lv_neT (a := 4) h_7 rfl; have z5 := lv_neT (a := 5) h_8 rfl; have z6 := lv_neT (a := 6) h_9 rfl; omega) (by decide) ?_
                  refine lv_bipush (v := (-2)) hx hb dX8_ticket_95 (by decide) ?_
                  exact r_iret X hP hS (pr0 h) rfl dX8_ticket_97
  · replace h := if_elp h hc
    refine lv_bipush (v := (-2)) hx hb dX8_ticket_8 (by decide) ?_
    exact r_iret X hP hS (pr0 h) rfl dX8_ticket_10
abbrev rmX8_answer : Room := { frames := 1, cells := 0, slots := 0, locals := 21 }
def f_X8_answer_42 (nT : Nat) (M : Mem) (v2 : Int32) (r3 : Nat) (s0 : Int32) : Option (Int64) :=
  if s0 = 0 then (some 0) else (gd (inR v2 8) <| some (gL M (r3 + 3) v2.toNatClampNeg))
set_option maxRecDepth 100000 in
set_option maxHeartbeats 4000000 in
theorem w_X8_answer_42 (X : Cx p s m args meth c cX8_answer RX8 5 (some .long) G cy) {M : Mem} {out : Int64} {v2 : Int32} {r3 : Nat} {s0 : Int32} (hr3 : okT nT r3) (hP : Pic G B cy nT M H) (hS : va_S (FB B) s.heap H locs) (hl : lv_has ls 5 [(2, .int v2), (3, .ref (B + r3))]) (h : f_X8_answer_42 nT M v2 r3 s0 = some out) : W p l e rmX8_answer s m args below meth c H locs 0 0 (MQ below (Ql G B cy nT out M) args s 0 0 (FB B)) (F0 m 42 ls [.int s0]) := by
  obtain ⟨hx, hb, hr, hml, hown, hts, hKn, hlk⟩ := id X
  unfold f_X8_answer_42 at h
  refine lv_istore (lv' := [(4, .int s0), (2, .int v2), (3, .ref (B + r3))]) hx hb dX8_answer_42 hl (by decide) rfl (fun ls hl => ?_)
  refine lv_iload hx hb dX8_answer_44 (lv_at hl 0 rfl) ?_
  refine lv_if_eq (tgt := 58) hx hb dX8_answer_46 (by decide) (fun hc => ?_) (fun hc => ?_)
  · replace h := if_elp h hc
    refine lv_lconst (v := 0) hx hb dX8_answer_58 rfl ?_
    exact r_lret X hP hS (pr0 h) rfl dX8_answer_59
  · replace h := if_eln h hc
    refine lv_aload_n hx hb dX8_answer_49 rfl (lv_at hl 2 rfl) ?_
    refine gf_X8_191 X hP (kT_0 hr3) dX8_answer_50 ?_
    refine lv_iload_n hx hb dX8_answer_53 rfl (lv_at hl 1 rfl) ?_
    obtain ⟨g_1, h⟩ := gd_el h
    refine r_lald X hP (kT_3 hr3) g_1 dX8_answer_54 ?_
    refine lv_goto (tgt := 59) hx hb dX8_answer_55 (by decide) ?_
    exact r_lret X hP hS (pr0 h) rfl dX8_answer_59
def f_X8_answer_41 (nT : Nat) (M : Mem) (v2 : Int32) (r3 : Nat) : Option (Int64) :=
  f_X8_answer_42 nT M v2 r3 0
set_option maxRecDepth 100000 in
set_option maxHeartbeats 4000000 in
theorem w_X8_answer_41 (X : Cx p s m args meth c cX8_answer RX8 5 (some .long) G cy) {M : Mem} {out : Int64} {v2 : Int32} {r3 : Nat} (hr3 : okT nT r3) (hP : Pic G B cy nT M H) (hS : va_S (FB B) s.heap H locs) (hl : lv_has ls 5 [(2, .int v2), (3, .ref (B + r3))]) (h : f_X8_answer_41 nT M v2 r3 = some out) : W p l e rmX8_answer s m args below meth c H locs 0 0 (MQ below (Ql G B cy nT out M) args s 0 0 (FB B)) (F0 m 41 ls []) := by
  obtain ⟨hx, hb, hr, hml, hown, hts, hKn, hlk⟩ := id X
  unfold f_X8_answer_41 at h
  refine lv_iconst (v := 0) hx hb dX8_answer_41 (by decide) ?_
  exact w_X8_answer_42 X hr3 hP hS (lv_sub hl [0, 1] rfl) h
def f_X8_answer (nT : Nat) (M : Mem) (a1 : Int32) (a2 : Int32) : Option (Int64) :=
  Option.bind (f_X8_isTicket M a1) fun r_1 => if (bI r_1) = 0 then (some 0) else (gd (inR a1 20) <| gd (decide (a1.toNatClampNeg < nT)) <| if (gI M (189 + 4 * a1.toNatClampNeg) 1) = 1 then (if a2 < 0 then (f_X8_answer_41 nT M a2 (189 + 4 * a1.toNatClampNeg)) else (if (gI M (189 + 4 * a1.toNatClampNeg) 16) ≤ a2 then (f_X8_answer_41 nT M a2 (189 + 4 * a1.toNatClampNeg)) else (f_X8_answer_42 nT M a2 (189 + 4 * a1.toNatClampNeg) 1))) else (f_X8_answer_41 nT M a2 (189 + 4 * a1.toNatClampNeg)))
set_option maxRecDepth 100000 in
set_option maxHeartbeats 4000000 in
theorem c_X8_answer {l : Launch} {G : va_G} {cy : Nat → ClassId} {B nT : Nat} {M : Mem} {a1 : Int32} {a2 : Int32} {out : Int64} (h : f_X8_answer nT M a1 a2 = some out) : Met l yX8_answer (wsU yX8_answer cX8_answer 5 (some .long)) rmX8_answer (va_Pc [.ref (B + 0), .int a1, .int a2] (PU G B cy nT M)) (Ql G B cy nT out M) 0 0 (FB B) := by
  refine r_met (by decide +kernel) RX8 rfl (Nat.le_of_ble_eq_true rfl) ?_
  intro p e s m args below meth c ls X hP hl
  have hl : lv_has ls 5 [(0, .ref (B + 0)), (1, .int a1), (2, .int a2)] := hl
  have hS : va_S (FB B) s.heap s.heap [] := va_S.rf
  obtain ⟨hx, hb, hr, hml, hown, hts, hKn, hlk⟩ := id X
  unfold f_X8_answer at h
  refine lv_aload_n hx hb dX8_answer_0 rfl (lv_at hl 0 rfl) ?_
  refine lv_iload_n hx hb dX8_answer_1 rfl (lv_at hl 1 rfl) ?_
  obtain ⟨r_1, h_1, h⟩ := bd_el h
  refine cl_i (rn_V (C := RX8) (ci := 8) X hP (c_X8_isTicket h_1) kq_0 rfl k_490 k_491 k_904 k_1 k_492 rfl hd_X8_isTicket (n := 1) ⟨⟨rfl, rfl⟩, Nat.le_of_ble_eq_true rfl, Nat.le_of_ble_eq_true rfl⟩ (As := [.int a1]) (rest := []) rfl hl.1 rfl (Nat.le_of_ble_eq_true rfl) dX8_answer_2 ⟨Nat.zero_le _, Nat.zero_le _⟩) hS (fun H locs hP hS => ?_)
  refine lv_if_ne (tgt := 10) hx hb dX8_answer_5 (by decide) (fun hc => ?_) (fun hc => ?_)
  · replace h := if_eln h hc
    refine lv_aload_n hx hb dX8_answer_10 rfl (lv_at hl 0 rfl) ?_
    refine gf_X8_39 X hP dX8_answer_11 ?_
    refine lv_iload_n hx hb dX8_answer_14 rfl (lv_at hl 1 rfl) ?_
    obtain ⟨g_1, h⟩ := gd_el h
    obtain ⟨g_2, h⟩ := gd_el h
    refine r_aaT X hP g_1 g_2 dX8_answer_15 ?_
    have h_2 := okT_of g_2
    refine lv_astore_n (lv' := [(3, .ref (B + (189 + 4 * a1.toNatClampNeg))), (0, .ref (B + 0)), (1, .int a1), (2, .int a2)]) hx hb dX8_answer_16 rfl hl (by decide) rfl (fun ls hl => ?_)
    refine lv_aload_n hx hb dX8_answer_17 rfl (lv_at hl 0 rfl) ?_
    refine gf_X8_167 X hP (kT_0 h_2) dX8_answer_18 ?_
    refine lv_iconst (v := 1) hx hb dX8_answer_21 (by decide) ?_
    refine lv_icmp_ne (tgt := 41) hx hb dX8_answer_22 (by decide) (fun hc => ?_) (fun hc => ?_)
    · replace h := if_eln h hc
      exact w_X8_answer_41 X h_2 hP hS (lv_sub hl [3, 0] rfl) h
    · replace h := if_elp h hc
      refine lv_iload_n hx hb dX8_answer_25 rfl (lv_at hl 3 rfl) ?_
      refine lv_if_lt (tgt := 41) hx hb dX8_answer_26 (by decide) (fun hc => ?_) (fun hc => ?_)
      · replace h := if_elp h hc
        exact w_X8_answer_41 X h_2 hP hS (lv_sub hl [3, 0] rfl) h
      · replace h := if_eln h hc
        refine lv_iload_n hx hb dX8_answer_29 rfl (lv_at hl 3 rfl) ?_
        refine lv_aload_n hx hb dX8_answer_30 rfl (lv_at hl 0 rfl) ?_
        refine gf_X8_188 X hP (kT_0 h_2) dX8_answer_31 ?_
        refine lv_icmp_ge (tgt := 41) hx hb dX8_answer_34 (by decide) (fun hc => ?_) (fun hc => ?_)
        · replace h := if_elp h hc
          exact w_X8_answer_41 X h_2 hP hS (lv_sub hl [3, 0] rfl) h
        · replace h := if_eln h hc
          refine lv_iconst (v := 1) hx hb dX8_answer_37 (by decide) ?_
          refine lv_goto (tgt := 42) hx hb dX8_answer_38 (by decide) ?_
          exact w_X8_answer_42 X h_2 hP hS (lv_sub hl [3, 0] rfl) h
  · replace h := if_elp h hc
    refine lv_lconst (v := 0) hx hb dX8_answer_8 rfl ?_
    exact r_lret X hP hS (pr0 h) rfl dX8_answer_9
abbrev rmX8_tried : Room := { frames := 1, cells := 0, slots := 0, locals := 21 }
def f_X8_tried (nT : Nat) (M : Mem) (a1 : Int32) (a2 : Int32) : Option (Int32) :=
  Option.bind (f_X8_isTicket M a1) fun r_1 => if (bI r_1) = 0 then (some (-2)) else (if a2 < 0 then (some (-2)) else (if a2 ≤ 3 then (gd (inR a1 20) <| gd (decide (a1.toNatClampNeg < nT)) <| if (gI M (189 + 4 * a1.toNatClampNeg) 9) = 0 then (some (-1)) else (if a2 = 0 then (some (gI M (189 + 4 * a1.toNatClampNeg) 10)) else if a2 = 1 then (Option.bind (f_J13_bitCount_95d88 (gL M (189 + 4 * a1.toNatClampNeg) 11)) fun r_2 => some r_2) else if a2 = 2 then (some (gI M (189 + 4 * a1.toNatClampNeg) 12)) else some (gI M (189 + 4 * a1.toNatClampNeg) 13))) else (some (-2))))
set_option maxRecDepth 100000 in
set_option maxHeartbeats 4000000 in
theorem c_X8_tried {l : Launch} {G : va_G} {cy : Nat → ClassId} {B nT : Nat} {M : Mem} {a1 : Int32} {a2 : Int32} {out : Int32} (h : f_X8_tried nT M a1 a2 = some out) : Met l yX8_tried (wsU yX8_tried cX8_tried 4 (some .int)) rmX8_tried (va_Pc [.ref (B + 0), .int a1, .int a2] (PU G B cy nT M)) (Qi G B cy nT out M) 0 0 (FB B) := by
  refine r_met (by decide +kernel) RX8 rfl (Nat.le_of_ble_eq_true rfl) ?_
  intro p e s m args below meth c ls X hP hl
  have hl : lv_has ls 4 [(0, .ref (B + 0)), (1, .int a1), (2, .int a2)] := hl
  have hS : va_S (FB B) s.heap s.heap [] := va_S.rf
  obtain ⟨hx, hb, hr, hml, hown, hts, hKn, hlk⟩ := id X
  unfold f_X8_tried at h
  refine lv_aload_n hx hb dX8_tried_0 rfl (lv_at hl 0 rfl) ?_
  refine lv_iload_n hx hb dX8_tried_1 rfl (lv_at hl 1 rfl) ?_
  obtain ⟨r_1, h_1, h⟩ := bd_el h
  refine cl_i (rn_V (C := RX8) (ci := 8) X hP (c_X8_isTicket h_1) kq_0 rfl k_490 k_491 k_904 k_1 k_492 rfl hd_X8_isTicket (n := 1) ⟨⟨rfl, rfl⟩, Nat.le_of_ble_eq_true rfl, Nat.le_of_ble_eq_true rfl⟩ (As := [.int a1]) (rest := []) rfl hl.1 rfl (Nat.le_of_ble_eq_true rfl) dX8_tried_2 ⟨Nat.zero_le _, Nat.zero_le _⟩) hS (fun H locs hP hS => ?_)
  refine lv_if_eq (tgt := 17) hx hb dX8_tried_5 (by decide) (fun hc => ?_) (fun hc => ?_)
  · replace h := if_elp h hc
    refine lv_bipush (v := (-2)) hx hb dX8_tried_17 (by decide) ?_
    exact r_iret X hP hS (pr0 h) rfl dX8_tried_19
  · replace h := if_eln h hc
    refine lv_iload_n hx hb dX8_tried_8 rfl (lv_at hl 2 rfl) ?_
    refine lv_if_lt (tgt := 17) hx hb dX8_tried_9 (by decide) (fun hc => ?_) (fun hc => ?_)
    · replace h := if_elp h hc
      refine lv_bipush (v := (-2)) hx hb dX8_tried_17 (by decide) ?_
      exact r_iret X hP hS (pr0 h) rfl dX8_tried_19
    · replace h := if_eln h hc
      refine lv_iload_n hx hb dX8_tried_12 rfl (lv_at hl 2 rfl) ?_
      refine lv_iconst (v := 3) hx hb dX8_tried_13 (by decide) ?_
      refine lv_icmp_le (tgt := 20) hx hb dX8_tried_14 (by decide) (fun hc => ?_) (fun hc => ?_)
      · replace h := if_elp h hc
        refine lv_aload_n hx hb dX8_tried_20 rfl (lv_at hl 0 rfl) ?_
        refine gf_X8_39 X hP dX8_tried_21 ?_
        refine lv_iload_n hx hb dX8_tried_24 rfl (lv_at hl 1 rfl) ?_
        obtain ⟨g_1, h⟩ := gd_el h
        obtain ⟨g_2, h⟩ := gd_el h
        refine r_aaT X hP g_1 g_2 dX8_tried_25 ?_
        have h_2 := okT_of g_2
        refine lv_astore_n (lv' := [(3, .ref (B + (189 + 4 * a1.toNatClampNeg))), (0, .ref (B + 0)), (1, .int a1), (2, .int a2)]) hx hb dX8_tried_26 rfl hl (by decide) rfl (fun ls hl => ?_)
        refine lv_aload_n hx hb dX8_tried_27 rfl (lv_at hl 0 rfl) ?_
        refine gf_X8_194 X hP (kT_0 h_2) dX8_tried_28 ?_
        refine lv_if_ne (tgt := 36) hx hb dX8_tried_31 (by decide) (fun hc => ?_) (fun hc => ?_)
        · replace h := if_eln h hc
          refine lv_iload_n hx hb dX8_tried_36 rfl (lv_at hl 3 rfl) ?_
          by_cases h_3 : a2 = 0
          · replace h := if_elp h h_3
            refine lv_tableIn (off := 27) (tgt := 64) hx hb dX8_tried_37 (by rw [h_3]; decide) (by rw [h_3]; decide) (by rw [h_3]; rfl) (by decide) ?_
            refine lv_aload_n hx hb dX8_tried_64 rfl (lv_at hl 0 rfl) ?_
            refine gf_X8_198 X hP (kT_0 h_2) dX8_tried_65 ?_
            exact r_iret X hP hS (pr0 h) rfl dX8_tried_68
          · replace h := if_eln h h_3
            by_cases h_4 : a2 = 1
            · replace h := if_elp h h_4
              refine lv_tableIn (off := 32) (tgt := 69) hx hb dX8_tried_37 (by rw [h_4]; decide) (by rw [h_4]; decide) (by rw [h_4]; rfl) (by decide) ?_
              refine lv_aload_n hx hb dX8_tried_69 rfl (lv_at hl 0 rfl) ?_
              refine gf_X8_201 X hP (kT_0 h_2) dX8_tried_70 ?_
              obtain ⟨r_2, h_5, h⟩ := bd_el h
              refine cl_i (rn_S X hP (c_J13_bitCount_95d88 h_5) k_501 k_437 k_12 k_438 hd_J13_bitCount_95d88 (n := 1) ⟨⟨rfl, rfl⟩, Nat.le_of_ble_eq_true rfl, Nat.le_of_ble_eq_true rfl⟩ (As := [.long (gL M (189 + 4 * a1.toNatClampNeg) 11)]) (rest := []) rfl hl.1 rfl (Nat.le_of_ble_eq_true rfl) dX8_tried_73 ⟨Nat.zero_le _, Nat.zero_le _⟩) hS (fun H locs hP hS => ?_)
              exact r_iret X hP hS (pr0 h) rfl dX8_tried_76
            · replace h := if_eln h h_4
              by_cases h_6 : a2 = 2
              · replace h := if_elp h h_6
                refine lv_tableIn (off := 40) (tgt := 77) hx hb dX8_tried_37 (by rw [h_6]; decide) (by rw [h_6]; decide) (by rw [h_6]; rfl) (by decide) ?_
                refine lv_aload_n hx hb dX8_tried_77 rfl (lv_at hl 0 rfl) ?_
                refine gf_X8_211 X hP (kT_0 h_2) dX8_tried_78 ?_
                exact r_iret X hP hS (pr0 h) rfl dX8_tried_81
              · replace h := if_eln h h_6
                refine lv_tableOut (tgt := 82) hx hb dX8_tried_37 (by have z0 := lv_neT (a := 0) h_3 rfl; have z1 := lv_neT (a := 1) h_4 rfl; have z2 := lv_neT (a := 2) h_6 rfl; omega) (by decide) ?_
                refine lv_aload_n hx hb dX8_tried_82 rfl (lv_at hl 0 rfl) ?_
                refine gf_X8_214 X hP (kT_0 h_2) dX8_tried_83 ?_
                exact r_iret X hP hS (pr0 h) rfl dX8_tried_86
        · replace h := if_elp h hc
          refine lv_iconst (v := (-1)) hx hb dX8_tried_34 (by decide) ?_
          exact r_iret X hP hS (pr0 h) rfl dX8_tried_35
      · replace h := if_eln h hc
        refine lv_bipush (v := (-2)) hx hb dX8_tried_17 (by decide) ?_
        exact r_iret X hP hS (pr0 h) rfl dX8_tried_19
abbrev rmX8_way : Room := { frames := 1, cells := 0, slots := 0, locals := 21 }
def f_X8_way (nT : Nat) (M : Mem) (a1 : Int32) (a2 : Int32) (a3 : Int32) : Option (Int32) :=
  Option.bind (f_X8_isTicket M a1) fun r_1 => if (bI r_1) = 0 then (some (-2)) else (if a3 < 0 then (some (-2)) else (if a3 ≤ 1 then (gd (inR a1 20) <| gd (decide (a1.toNatClampNeg < nT)) <| if a2 < 0 then (some (-1)) else (if a2 < (gI M (189 + 4 * a1.toNatClampNeg) 13) then (if a3 = 0 then (gd (inR a2 6) <| some (gI M (189 + 4 * a1.toNatClampNeg + 1) a2.toNatClampNeg)) else (gd (inR a2 6) <| some (gI M (189 + 4 * a1.toNatClampNeg + 2) a2.toNatClampNeg))) else (some (-1)))) else (some (-2))))
set_option maxRecDepth 100000 in
set_option maxHeartbeats 4000000 in
theorem c_X8_way {l : Launch} {G : va_G} {cy : Nat → ClassId} {B nT : Nat} {M : Mem} {a1 : Int32} {a2 : Int32} {a3 : Int32} {out : Int32} (h : f_X8_way nT M a1 a2 a3 = some out) : Met l yX8_way (wsU yX8_way cX8_way 5 (some .int)) rmX8_way (va_Pc [.ref (B + 0), .int a1, .int a2, .int a3] (PU G B cy nT M)) (Qi G B cy nT out M) 0 0 (FB B) := by
  refine r_met (by decide +kernel) RX8 rfl (Nat.le_of_ble_eq_true rfl) ?_
  intro p e s m args below meth c ls X hP hl
  have hl : lv_has ls 5 [(0, .ref (B + 0)), (1, .int a1), (2, .int a2), (3, .int a3)] := hl
  have hS : va_S (FB B) s.heap s.heap [] := va_S.rf
  obtain ⟨hx, hb, hr, hml, hown, hts, hKn, hlk⟩ := id X
  unfold f_X8_way at h
  refine lv_aload_n hx hb dX8_way_0 rfl (lv_at hl 0 rfl) ?_
  refine lv_iload_n hx hb dX8_way_1 rfl (lv_at hl 1 rfl) ?_
  obtain ⟨r_1, h_1, h⟩ := bd_el h
  refine cl_i (rn_V (C := RX8) (ci := 8) X hP (c_X8_isTicket h_1) kq_0 rfl k_490 k_491 k_904 k_1 k_492 rfl hd_X8_isTicket (n := 1) ⟨⟨rfl, rfl⟩, Nat.le_of_ble_eq_true rfl, Nat.le_of_ble_eq_true rfl⟩ (As := [.int a1]) (rest := []) rfl hl.1 rfl (Nat.le_of_ble_eq_true rfl) dX8_way_2 ⟨Nat.zero_le _, Nat.zero_le _⟩) hS (fun H locs hP hS => ?_)
  refine lv_if_eq (tgt := 17) hx hb dX8_way_5 (by decide) (fun hc => ?_) (fun hc => ?_)
  · replace h := if_elp h hc
    refine lv_bipush (v := (-2)) hx hb dX8_way_17 (by decide) ?_
    exact r_iret X hP hS (pr0 h) rfl dX8_way_19
  · replace h := if_eln h hc
    refine lv_iload_n hx hb dX8_way_8 rfl (lv_at hl 3 rfl) ?_
    refine lv_if_lt (tgt := 17) hx hb dX8_way_9 (by decide) (fun hc => ?_) (fun hc => ?_)
    · replace h := if_elp h hc
      refine lv_bipush (v := (-2)) hx hb dX8_way_17 (by decide) ?_
      exact r_iret X hP hS (pr0 h) rfl dX8_way_19
    · replace h := if_eln h hc
      refine lv_iload_n hx hb dX8_way_12 rfl (lv_at hl 3 rfl) ?_
      refine lv_iconst (v := 1) hx hb dX8_way_13 (by decide) ?_
      refine lv_icmp_le (tgt := 20) hx hb dX8_way_14 (by decide) (fun hc => ?_) (fun hc => ?_)
      · replace h := if_elp h hc
        refine lv_aload_n hx hb dX8_way_20 rfl (lv_at hl 0 rfl) ?_
        refine gf_X8_39 X hP dX8_way_21 ?_
        refine lv_iload_n hx hb dX8_way_24 rfl (lv_at hl 1 rfl) ?_
        obtain ⟨g_1, h⟩ := gd_el h
        obtain ⟨g_2, h⟩ := gd_el h
        refine r_aaT X hP g_1 g_2 dX8_way_25 ?_
        have h_2 := okT_of g_2
        refine lv_astore (lv' := [(4, .ref (B + (189 + 4 * a1.toNatClampNeg))), (0, .ref (B + 0)), (1, .int a1), (2, .int a2), (3, .int a3)]) hx hb dX8_way_26 hl (by decide) rfl (fun ls hl => ?_)
        refine lv_iload_n hx hb dX8_way_28 rfl (lv_at hl 3 rfl) ?_
        refine lv_if_lt (tgt := 41) hx hb dX8_way_29 (by decide) (fun hc => ?_) (fun hc => ?_)
        · replace h := if_elp h hc
          refine lv_iconst (v := (-1)) hx hb dX8_way_41 (by decide) ?_
          exact r_iret X hP hS (pr0 h) rfl dX8_way_42
        · replace h := if_eln h hc
          refine lv_iload_n hx hb dX8_way_32 rfl (lv_at hl 3 rfl) ?_
          refine lv_aload hx hb dX8_way_33 (lv_at hl 0 rfl) ?_
          refine gf_X8_214 X hP (kT_0 h_2) dX8_way_35 ?_
          refine lv_icmp_lt (tgt := 43) hx hb dX8_way_38 (by decide) (fun hc => ?_) (fun hc => ?_)
          · replace h := if_elp h hc
            refine lv_iload_n hx hb dX8_way_43 rfl (lv_at hl 4 rfl) ?_
            refine lv_if_ne (tgt := 57) hx hb dX8_way_44 (by decide) (fun hc => ?_) (fun hc => ?_)
            · replace h := if_eln h hc
              refine lv_aload hx hb dX8_way_57 (lv_at hl 0 rfl) ?_
              refine gf_X8_220 X hP (kT_0 h_2) dX8_way_59 ?_
              refine lv_iload_n hx hb dX8_way_62 rfl (lv_at hl 3 rfl) ?_
              obtain ⟨g_3, h⟩ := gd_el h
              refine r_iald X hP (kT_2 h_2) g_3 dX8_way_63 ?_
              exact r_iret X hP hS (pr0 h) rfl dX8_way_64
            · replace h := if_elp h hc
              refine lv_aload hx hb dX8_way_47 (lv_at hl 0 rfl) ?_
              refine gf_X8_217 X hP (kT_0 h_2) dX8_way_49 ?_
              refine lv_iload_n hx hb dX8_way_52 rfl (lv_at hl 3 rfl) ?_
              obtain ⟨g_4, h⟩ := gd_el h
              refine r_iald X hP (kT_1 h_2) g_4 dX8_way_53 ?_
              refine lv_goto (tgt := 64) hx hb dX8_way_54 (by decide) ?_
              exact r_iret X hP hS (pr0 h) rfl dX8_way_64
          · replace h := if_eln h hc
            refine lv_iconst (v := (-1)) hx hb dX8_way_41 (by decide) ?_
            exact r_iret X hP hS (pr0 h) rfl dX8_way_42
      · replace h := if_eln h hc
        refine lv_bipush (v := (-2)) hx hb dX8_way_17 (by decide) ?_
        exact r_iret X hP hS (pr0 h) rfl dX8_way_19
abbrev rmX8_read : Room := { frames := 1, cells := 0, slots := 0, locals := 22 }
def f_X8_read (nT : Nat) (M : Mem) (a1 : Int32) (a2 : Int32) : Option (Int32) :=
  Option.bind (f_X8_isTicket M a1) fun r_1 => if (bI r_1) = 0 then (some (-2)) else (Option.bind (f_X8_isCell (Int32.toInt64 a2)) fun r_2 => if (bI r_2) = 0 then (some (-2)) else (gd (inR a1 20) <| gd (decide (a1.toNatClampNeg < nT)) <| Option.bind (f_X8_isAmong (gL M (189 + 4 * a1.toNatClampNeg) 11) a2) fun r_3 => if (bI r_3) = 0 then (some 0) else (some 1)))
set_option maxRecDepth 100000 in
set_option maxHeartbeats 4000000 in
theorem c_X8_read {l : Launch} {G : va_G} {cy : Nat → ClassId} {B nT : Nat} {M : Mem} {a1 : Int32} {a2 : Int32} {out : Int32} (h : f_X8_read nT M a1 a2 = some out) : Met l yX8_read (wsU yX8_read cX8_read 3 (some .int)) rmX8_read (va_Pc [.ref (B + 0), .int a1, .int a2] (PU G B cy nT M)) (Qi G B cy nT out M) 0 0 (FB B) := by
  refine r_met (by decide +kernel) RX8 rfl (Nat.le_of_ble_eq_true rfl) ?_
  intro p e s m args below meth c ls X hP hl
  have hl : lv_has ls 3 [(0, .ref (B + 0)), (1, .int a1), (2, .int a2)] := hl
  have hS : va_S (FB B) s.heap s.heap [] := va_S.rf
  obtain ⟨hx, hb, hr, hml, hown, hts, hKn, hlk⟩ := id X
  unfold f_X8_read at h
  refine lv_aload_n hx hb dX8_read_0 rfl (lv_at hl 0 rfl) ?_
  refine lv_iload_n hx hb dX8_read_1 rfl (lv_at hl 1 rfl) ?_
  obtain ⟨r_1, h_1, h⟩ := bd_el h
  refine cl_i (rn_V (C := RX8) (ci := 8) X hP (c_X8_isTicket h_1) kq_0 rfl k_490 k_491 k_904 k_1 k_492 rfl hd_X8_isTicket (n := 1) ⟨⟨rfl, rfl⟩, Nat.le_of_ble_eq_true rfl, Nat.le_of_ble_eq_true rfl⟩ (As := [.int a1]) (rest := []) rfl hl.1 rfl (Nat.le_of_ble_eq_true rfl) dX8_read_2 ⟨Nat.zero_le _, Nat.zero_le _⟩) hS (fun H locs hP hS => ?_)
  refine lv_if_eq (tgt := 16) hx hb dX8_read_5 (by decide) (fun hc => ?_) (fun hc => ?_)
  · replace h := if_elp h hc
    refine lv_bipush (v := (-2)) hx hb dX8_read_16 (by decide) ?_
    exact r_iret X hP hS (pr0 h) rfl dX8_read_18
  · replace h := if_eln h hc
    refine lv_iload_n hx hb dX8_read_8 rfl (lv_at hl 2 rfl) ?_
    refine lv_i2l (v := (Int32.toInt64 a2)) hx hb dX8_read_9 rfl ?_
    obtain ⟨r_2, h_2, h⟩ := bd_el h
    refine cl_i (rn_S X hP (c_X8_isCell h_2) k_186 k_187 k_1 k_188 hd_X8_isCell (n := 1) ⟨⟨rfl, rfl⟩, Nat.le_of_ble_eq_true rfl, Nat.le_of_ble_eq_true rfl⟩ (As := [.long (Int32.toInt64 a2)]) (rest := []) rfl hl.1 rfl (Nat.le_of_ble_eq_true rfl) dX8_read_10 ⟨Nat.zero_le _, Nat.zero_le _⟩) hS (fun H locs hP hS => ?_)
    refine lv_if_ne (tgt := 19) hx hb dX8_read_13 (by decide) (fun hc => ?_) (fun hc => ?_)
    · replace h := if_eln h hc
      refine lv_aload_n hx hb dX8_read_19 rfl (lv_at hl 0 rfl) ?_
      refine gf_X8_39 X hP dX8_read_20 ?_
      refine lv_iload_n hx hb dX8_read_23 rfl (lv_at hl 1 rfl) ?_
      obtain ⟨g_1, h⟩ := gd_el h
      obtain ⟨g_2, h⟩ := gd_el h
      refine r_aaT X hP g_1 g_2 dX8_read_24 ?_
      have h_3 := okT_of g_2
      refine gf_X8_201 X hP (kT_0 h_3) dX8_read_25 ?_
      refine lv_iload_n hx hb dX8_read_28 rfl (lv_at hl 2 rfl) ?_
      obtain ⟨r_3, h_4, h⟩ := bd_el h
      refine cl_i (rn_S X hP (c_X8_isAmong h_4) k_203 k_204 k_1 k_205 hd_X8_isAmong (n := 2) ⟨⟨rfl, rfl⟩, Nat.le_of_ble_eq_true rfl, Nat.le_of_ble_eq_true rfl⟩ (As := [.long (gL M (189 + 4 * a1.toNatClampNeg) 11), .int a2]) (rest := []) rfl hl.1 rfl (Nat.le_of_ble_eq_true rfl) dX8_read_29 ⟨Nat.zero_le _, Nat.zero_le _⟩) hS (fun H locs hP hS => ?_)
      refine lv_if_eq (tgt := 39) hx hb dX8_read_32 (by decide) (fun hc => ?_) (fun hc => ?_)
      · replace h := if_elp h hc
        refine lv_iconst (v := 0) hx hb dX8_read_39 (by decide) ?_
        exact r_iret X hP hS (pr0 h) rfl dX8_read_40
      · replace h := if_eln h hc
        refine lv_iconst (v := 1) hx hb dX8_read_35 (by decide) ?_
        refine lv_goto (tgt := 40) hx hb dX8_read_36 (by decide) ?_
        exact r_iret X hP hS (pr0 h) rfl dX8_read_40
    · replace h := if_elp h hc
      refine lv_bipush (v := (-2)) hx hb dX8_read_16 (by decide) ?_
      exact r_iret X hP hS (pr0 h) rfl dX8_read_18
abbrev rmX8_woken : Room := { frames := 1, cells := 0, slots := 0, locals := 21 }
def f_X8_woken (nT : Nat) (M : Mem) (a1 : Int32) (a2 : Int32) : Option (Int32) :=
  Option.bind (f_X8_isTicket M a1) fun r_1 => if (bI r_1) = 0 then (some (-2)) else (if a2 < 0 then (some (-2)) else (if a2 ≤ 1 then (if a2 = 0 then (gd (inR a1 20) <| gd (decide (a1.toNatClampNeg < nT)) <| some (gI M (189 + 4 * a1.toNatClampNeg) 7)) else (gd (inR a1 20) <| gd (decide (a1.toNatClampNeg < nT)) <| some (gI M (189 + 4 * a1.toNatClampNeg) 8))) else (some (-2))))
set_option maxRecDepth 100000 in
set_option maxHeartbeats 4000000 in
theorem c_X8_woken {l : Launch} {G : va_G} {cy : Nat → ClassId} {B nT : Nat} {M : Mem} {a1 : Int32} {a2 : Int32} {out : Int32} (h : f_X8_woken nT M a1 a2 = some out) : Met l yX8_woken (wsU yX8_woken cX8_woken 3 (some .int)) rmX8_woken (va_Pc [.ref (B + 0), .int a1, .int a2] (PU G B cy nT M)) (Qi G B cy nT out M) 0 0 (FB B) := by
  refine r_met (by decide +kernel) RX8 rfl (Nat.le_of_ble_eq_true rfl) ?_
  intro p e s m args below meth c ls X hP hl
  have hl : lv_has ls 3 [(0, .ref (B + 0)), (1, .int a1), (2, .int a2)] := hl
  have hS : va_S (FB B) s.heap s.heap [] := va_S.rf
  obtain ⟨hx, hb, hr, hml, hown, hts, hKn, hlk⟩ := id X
  unfold f_X8_woken at h
  refine lv_aload_n hx hb dX8_woken_0 rfl (lv_at hl 0 rfl) ?_
  refine lv_iload_n hx hb dX8_woken_1 rfl (lv_at hl 1 rfl) ?_
  obtain ⟨r_1, h_1, h⟩ := bd_el h
  refine cl_i (rn_V (C := RX8) (ci := 8) X hP (c_X8_isTicket h_1) kq_0 rfl k_490 k_491 k_904 k_1 k_492 rfl hd_X8_isTicket (n := 1) ⟨⟨rfl, rfl⟩, Nat.le_of_ble_eq_true rfl, Nat.le_of_ble_eq_true rfl⟩ (As := [.int a1]) (rest := []) rfl hl.1 rfl (Nat.le_of_ble_eq_true rfl) dX8_woken_2 ⟨Nat.zero_le _, Nat.zero_le _⟩) hS (fun H locs hP hS => ?_)
  refine lv_if_eq (tgt := 17) hx hb dX8_woken_5 (by decide) (fun hc => ?_) (fun hc => ?_)
  · replace h := if_elp h hc
    refine lv_bipush (v := (-2)) hx hb dX8_woken_17 (by decide) ?_
    exact r_iret X hP hS (pr0 h) rfl dX8_woken_19
  · replace h := if_eln h hc
    refine lv_iload_n hx hb dX8_woken_8 rfl (lv_at hl 2 rfl) ?_
    refine lv_if_lt (tgt := 17) hx hb dX8_woken_9 (by decide) (fun hc => ?_) (fun hc => ?_)
    · replace h := if_elp h hc
      refine lv_bipush (v := (-2)) hx hb dX8_woken_17 (by decide) ?_
      exact r_iret X hP hS (pr0 h) rfl dX8_woken_19
    · replace h := if_eln h hc
      refine lv_iload_n hx hb dX8_woken_12 rfl (lv_at hl 2 rfl) ?_
      refine lv_iconst (v := 1) hx hb dX8_woken_13 (by decide) ?_
      refine lv_icmp_le (tgt := 20) hx hb dX8_woken_14 (by decide) (fun hc => ?_) (fun hc => ?_)
      · replace h := if_elp h hc
        refine lv_iload_n hx hb dX8_woken_20 rfl (lv_at hl 2 rfl) ?_
        refine lv_if_ne (tgt := 36) hx hb dX8_woken_21 (by decide) (fun hc => ?_) (fun hc => ?_)
        · replace h := if_eln h hc
          refine lv_aload_n hx hb dX8_woken_36 rfl (lv_at hl 0 rfl) ?_
          refine gf_X8_39 X hP dX8_woken_37 ?_
          refine lv_iload_n hx hb dX8_woken_40 rfl (lv_at hl 1 rfl) ?_
          obtain ⟨g_1, h⟩ := gd_el h
          obtain ⟨g_2, h⟩ := gd_el h
          refine r_aaT X hP g_1 g_2 dX8_woken_41 ?_
          have h_2 := okT_of g_2
          refine gf_X8_230 X hP (kT_0 h_2) dX8_woken_42 ?_
          exact r_iret X hP hS (pr0 h) rfl dX8_woken_45
        · replace h := if_elp h hc
          refine lv_aload_n hx hb dX8_woken_24 rfl (lv_at hl 0 rfl) ?_
          refine gf_X8_39 X hP dX8_woken_25 ?_
          refine lv_iload_n hx hb dX8_woken_28 rfl (lv_at hl 1 rfl) ?_
          obtain ⟨g_3, h⟩ := gd_el h
          obtain ⟨g_4, h⟩ := gd_el h
          refine r_aaT X hP g_3 g_4 dX8_woken_29 ?_
          have h_3 := okT_of g_4
          refine gf_X8_227 X hP (kT_0 h_3) dX8_woken_30 ?_
          refine lv_goto (tgt := 45) hx hb dX8_woken_33 (by decide) ?_
          exact r_iret X hP hS (pr0 h) rfl dX8_woken_45
      · replace h := if_eln h hc
        refine lv_bipush (v := (-2)) hx hb dX8_woken_17 (by decide) ?_
        exact r_iret X hP hS (pr0 h) rfl dX8_woken_19
abbrev rmX8_order : Room := { frames := 0, cells := 0, slots := 0, locals := 0 }
def f_X8_order (M : Mem) (a1 : Int32) : Option (Int32) :=
  if a1 < 0 then (some (-1)) else (if (gI M 0 9) ≤ a1 then (some (-1)) else (gd (inR a1 20) <| some (gI M 118 a1.toNatClampNeg)))
set_option maxRecDepth 100000 in
set_option maxHeartbeats 4000000 in
theorem c_X8_order {l : Launch} {G : va_G} {cy : Nat → ClassId} {B nT : Nat} {M : Mem} {a1 : Int32} {out : Int32} (h : f_X8_order M a1 = some out) : Met l yX8_order (wsU yX8_order cX8_order 2 (some .int)) rmX8_order (va_Pc [.ref (B + 0), .int a1] (PU G B cy nT M)) (Qi G B cy nT out M) 0 0 (FB B) := by
  refine r_met (by decide +kernel) RX8 rfl (Nat.le_of_ble_eq_true rfl) ?_
  intro p e s m args below meth c ls X hP hl
  have hl : lv_has ls 2 [(0, .ref (B + 0)), (1, .int a1)] := hl
  have hS : va_S (FB B) s.heap s.heap [] := va_S.rf
  obtain ⟨hx, hb, hr, hml, hown, hts, hKn, hlk⟩ := id X
  unfold f_X8_order at h
  refine lv_iload_n hx hb dX8_order_0 rfl (lv_at hl 1 rfl) ?_
  refine lv_if_lt (tgt := 21) hx hb dX8_order_1 (by decide) (fun hc => ?_) (fun hc => ?_)
  · replace h := if_elp h hc
    refine lv_iconst (v := (-1)) hx hb dX8_order_21 (by decide) ?_
    exact r_iret X hP hS (pr0 h) rfl dX8_order_22
  · replace h := if_eln h hc
    refine lv_iload_n hx hb dX8_order_4 rfl (lv_at hl 1 rfl) ?_
    refine lv_aload_n hx hb dX8_order_5 rfl (lv_at hl 0 rfl) ?_
    refine gf_X8_233 X hP dX8_order_6 ?_
    refine lv_icmp_ge (tgt := 21) hx hb dX8_order_9 (by decide) (fun hc => ?_) (fun hc => ?_)
    · replace h := if_elp h hc
      refine lv_iconst (v := (-1)) hx hb dX8_order_21 (by decide) ?_
      exact r_iret X hP hS (pr0 h) rfl dX8_order_22
    · replace h := if_eln h hc
      refine lv_aload_n hx hb dX8_order_12 rfl (lv_at hl 0 rfl) ?_
      refine gf_X8_62 X hP dX8_order_13 ?_
      refine lv_iload_n hx hb dX8_order_16 rfl (lv_at hl 1 rfl) ?_
      obtain ⟨g_1, h⟩ := gd_el h
      refine r_iald X hP kq_118 g_1 dX8_order_17 ?_
      refine lv_goto (tgt := 22) hx hb dX8_order_18 (by decide) ?_
      exact r_iret X hP hS (pr0 h) rfl dX8_order_22
abbrev rmX8_note : Room := { frames := 1, cells := 0, slots := 0, locals := 21 }
def f_X8_note (M : Mem) (a1 : Int32) (a2 : Int32) : Option (Int32) :=
  if a2 < 0 then (some (-2)) else (if a2 ≤ 1 then (Option.bind (f_X3_keeps M a1) fun r_1 => if (bI r_1) = 0 then (some (-1)) else (if a2 = 0 then (gd (inR a1 40) <| some (gI M 23 a1.toNatClampNeg)) else (gd (inR a1 40) <| some (gI M 24 a1.toNatClampNeg)))) else (some (-2)))
set_option maxRecDepth 100000 in
set_option maxHeartbeats 4000000 in
theorem c_X8_note {l : Launch} {G : va_G} {cy : Nat → ClassId} {B nT : Nat} {M : Mem} {a1 : Int32} {a2 : Int32} {out : Int32} (h : f_X8_note M a1 a2 = some out) : Met l yX8_note (wsU yX8_note cX8_note 3 (some .int)) rmX8_note (va_Pc [.ref (B + 0), .int a1, .int a2] (PU G B cy nT M)) (Qi G B cy nT out M) 0 0 (FB B) := by
  refine r_met (by decide +kernel) RX8 rfl (Nat.le_of_ble_eq_true rfl) ?_
  intro p e s m args below meth c ls X hP hl
  have hl : lv_has ls 3 [(0, .ref (B + 0)), (1, .int a1), (2, .int a2)] := hl
  have hS : va_S (FB B) s.heap s.heap [] := va_S.rf
  obtain ⟨hx, hb, hr, hml, hown, hts, hKn, hlk⟩ := id X
  unfold f_X8_note at h
  refine lv_iload_n hx hb dX8_note_0 rfl (lv_at hl 2 rfl) ?_
  refine lv_if_lt (tgt := 9) hx hb dX8_note_1 (by decide) (fun hc => ?_) (fun hc => ?_)
  · replace h := if_elp h hc
    refine lv_bipush (v := (-2)) hx hb dX8_note_9 (by decide) ?_
    exact r_iret X hP hS (pr0 h) rfl dX8_note_11
  · replace h := if_eln h hc
    refine lv_iload_n hx hb dX8_note_4 rfl (lv_at hl 2 rfl) ?_
    refine lv_iconst (v := 1) hx hb dX8_note_5 (by decide) ?_
    refine lv_icmp_le (tgt := 12) hx hb dX8_note_6 (by decide) (fun hc => ?_) (fun hc => ?_)
    · replace h := if_elp h hc
      refine lv_aload_n hx hb dX8_note_12 rfl (lv_at hl 0 rfl) ?_
      refine gf_X8_33 X hP dX8_note_13 ?_
      refine lv_iload_n hx hb dX8_note_16 rfl (lv_at hl 1 rfl) ?_
      obtain ⟨r_1, h_1, h⟩ := bd_el h
      refine cl_i (rn_V (C := RX3) (ci := 3) X hP (c_X3_keeps h_1) kq_22 rfl k_522 k_523 k_524 k_6 k_525 rfl hd_X3_keeps (n := 1) ⟨⟨rfl, rfl⟩, Nat.le_of_ble_eq_true rfl, Nat.le_of_ble_eq_true rfl⟩ (As := [.int a1]) (rest := []) rfl hl.1 rfl (Nat.le_of_ble_eq_true rfl) dX8_note_17 ⟨Nat.zero_le _, Nat.zero_le _⟩) hS (fun H locs hP hS => ?_)
      refine lv_if_ne (tgt := 25) hx hb dX8_note_20 (by decide) (fun hc => ?_) (fun hc => ?_)
      · replace h := if_eln h hc
        refine lv_iload_n hx hb dX8_note_25 rfl (lv_at hl 2 rfl) ?_
        refine lv_if_ne (tgt := 41) hx hb dX8_note_26 (by decide) (fun hc => ?_) (fun hc => ?_)
        · replace h := if_eln h hc
          refine lv_aload_n hx hb dX8_note_41 rfl (lv_at hl 0 rfl) ?_
          refine gf_X8_33 X hP dX8_note_42 ?_
          refine gf_X8_242 X hP dX8_note_45 ?_
          refine lv_iload_n hx hb dX8_note_48 rfl (lv_at hl 1 rfl) ?_
          obtain ⟨g_1, h⟩ := gd_el h
          refine r_iald X hP kq_24 g_1 dX8_note_49 ?_
          exact r_iret X hP hS (pr0 h) rfl dX8_note_50
        · replace h := if_elp h hc
          refine lv_aload_n hx hb dX8_note_29 rfl (lv_at hl 0 rfl) ?_
          refine gf_X8_33 X hP dX8_note_30 ?_
          refine gf_X8_239 X hP dX8_note_33 ?_
          refine lv_iload_n hx hb dX8_note_36 rfl (lv_at hl 1 rfl) ?_
          obtain ⟨g_2, h⟩ := gd_el h
          refine r_iald X hP kq_23 g_2 dX8_note_37 ?_
          refine lv_goto (tgt := 50) hx hb dX8_note_38 (by decide) ?_
          exact r_iret X hP hS (pr0 h) rfl dX8_note_50
      · replace h := if_elp h hc
        refine lv_iconst (v := (-1)) hx hb dX8_note_23 (by decide) ?_
        exact r_iret X hP hS (pr0 h) rfl dX8_note_24
    · replace h := if_eln h hc
      refine lv_bipush (v := (-2)) hx hb dX8_note_9 (by decide) ?_
      exact r_iret X hP hS (pr0 h) rfl dX8_note_11
end METHS

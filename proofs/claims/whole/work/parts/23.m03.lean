section METHS
variable {p : Program} {l : Launch} {e : Env} {s : State} {m : MethodId} {args : Array Value} {below : List Frame} {meth : Method} {c : Code} {H : Heap} {locs : List Loc} {G : va_G} {cy : Nat → ClassId} {B nT : Nat} {ls : Array Slot}
abbrev rmX8_holds : Room := { frames := 1, cells := 0, slots := 0, locals := 21 }
def f_X8_holds (M : Mem) (a1 : Int32) : Option (Int32) :=
  Option.bind (f_X8_isCell (Int32.toInt64 a1)) fun r_1 => if (bI r_1) = 0 then (some (-2)) else (gd (inR a1 40) <| some (gI M (2 + 1) a1.toNatClampNeg))
set_option maxRecDepth 100000 in
set_option maxHeartbeats 4000000 in
theorem c_X8_holds {l : Launch} {G : va_G} {cy : Nat → ClassId} {B nT : Nat} {M : Mem} {a1 : Int32} {out : Int32} (h : f_X8_holds M a1 = some out) : Met l yX8_holds (wsU yX8_holds cX8_holds 2 (some .int)) rmX8_holds (va_Pc [.ref (B + 0), .int a1] (PU G B cy nT M)) (Qi G B cy nT out M) 0 0 (FB B) := by
  refine r_met (by decide +kernel) RX8 rfl (Nat.le_of_ble_eq_true rfl) ?_
  intro p e s m args below meth c ls X hP hl
  have hl : lv_has ls 2 [(0, .ref (B + 0)), (1, .int a1)] := hl
  have hS : va_S (FB B) s.heap s.heap [] := va_S.rf
  obtain ⟨hx, hb, hr, hml, hown, hts, hKn, hlk⟩ := id X
  unfold f_X8_holds at h
  refine lv_iload_n hx hb dX8_holds_0 rfl (lv_at hl 1 rfl) ?_
  refine lv_i2l (v := (Int32.toInt64 a1)) hx hb dX8_holds_1 rfl ?_
  obtain ⟨r_1, h_1, h⟩ := bd_el h
  refine cl_i (rn_S X hP (c_X8_isCell h_1) k_186 k_187 k_1 k_188 hd_X8_isCell (n := 1) ⟨⟨rfl, rfl⟩, Nat.le_of_ble_eq_true rfl, Nat.le_of_ble_eq_true rfl⟩ (As := [.long (Int32.toInt64 a1)]) (rest := []) rfl hl.1 rfl (Nat.le_of_ble_eq_true rfl) dX8_holds_2 ⟨Nat.zero_le _, Nat.zero_le _⟩) hS (fun H locs hP hS => ?_)
  refine lv_if_eq (tgt := 23) hx hb dX8_holds_5 (by decide) (fun hc => ?_) (fun hc => ?_)
  · replace h := if_elp h hc
    refine lv_bipush (v := (-2)) hx hb dX8_holds_23 (by decide) ?_
    exact r_iret X hP hS (pr0 h) rfl dX8_holds_25
  · replace h := if_eln h hc
    refine lv_aload_n hx hb dX8_holds_8 rfl (lv_at hl 0 rfl) ?_
    refine gf_X8_10 X hP dX8_holds_9 ?_
    refine gf_X8_74 X hP dX8_holds_12 ?_
    refine gf_X8_93 X hP (kC_0 isC_2) dX8_holds_15 ?_
    refine lv_iload_n hx hb dX8_holds_18 rfl (lv_at hl 1 rfl) ?_
    obtain ⟨g_1, h⟩ := gd_el h
    refine r_iald X hP (kC_1 isC_2) g_1 dX8_holds_19 ?_
    refine lv_goto (tgt := 25) hx hb dX8_holds_20 (by decide) ?_
    exact r_iret X hP hS (pr0 h) rfl dX8_holds_25
abbrev rmX8_value : Room := { frames := 1, cells := 0, slots := 0, locals := 21 }
def f_X8_value (M : Mem) (a1 : Int32) : Option (Int64) :=
  Option.bind (f_X8_isCell (Int32.toInt64 a1)) fun r_1 => if (bI r_1) = 0 then (some 0) else (gd (inR a1 40) <| some (gL M (2 + 2) a1.toNatClampNeg))
set_option maxRecDepth 100000 in
set_option maxHeartbeats 4000000 in
theorem c_X8_value {l : Launch} {G : va_G} {cy : Nat → ClassId} {B nT : Nat} {M : Mem} {a1 : Int32} {out : Int64} (h : f_X8_value M a1 = some out) : Met l yX8_value (wsU yX8_value cX8_value 2 (some .long)) rmX8_value (va_Pc [.ref (B + 0), .int a1] (PU G B cy nT M)) (Ql G B cy nT out M) 0 0 (FB B) := by
  refine r_met (by decide +kernel) RX8 rfl (Nat.le_of_ble_eq_true rfl) ?_
  intro p e s m args below meth c ls X hP hl
  have hl : lv_has ls 2 [(0, .ref (B + 0)), (1, .int a1)] := hl
  have hS : va_S (FB B) s.heap s.heap [] := va_S.rf
  obtain ⟨hx, hb, hr, hml, hown, hts, hKn, hlk⟩ := id X
  unfold f_X8_value at h
  refine lv_iload_n hx hb dX8_value_0 rfl (lv_at hl 1 rfl) ?_
  refine lv_i2l (v := (Int32.toInt64 a1)) hx hb dX8_value_1 rfl ?_
  obtain ⟨r_1, h_1, h⟩ := bd_el h
  refine cl_i (rn_S X hP (c_X8_isCell h_1) k_186 k_187 k_1 k_188 hd_X8_isCell (n := 1) ⟨⟨rfl, rfl⟩, Nat.le_of_ble_eq_true rfl, Nat.le_of_ble_eq_true rfl⟩ (As := [.long (Int32.toInt64 a1)]) (rest := []) rfl hl.1 rfl (Nat.le_of_ble_eq_true rfl) dX8_value_2 ⟨Nat.zero_le _, Nat.zero_le _⟩) hS (fun H locs hP hS => ?_)
  refine lv_if_eq (tgt := 23) hx hb dX8_value_5 (by decide) (fun hc => ?_) (fun hc => ?_)
  · replace h := if_elp h hc
    refine lv_lconst (v := 0) hx hb dX8_value_23 rfl ?_
    exact r_lret X hP hS (pr0 h) rfl dX8_value_24
  · replace h := if_eln h hc
    refine lv_aload_n hx hb dX8_value_8 rfl (lv_at hl 0 rfl) ?_
    refine gf_X8_10 X hP dX8_value_9 ?_
    refine gf_X8_74 X hP dX8_value_12 ?_
    refine gf_X8_96 X hP (kC_0 isC_2) dX8_value_15 ?_
    refine lv_iload_n hx hb dX8_value_18 rfl (lv_at hl 1 rfl) ?_
    obtain ⟨g_1, h⟩ := gd_el h
    refine r_lald X hP (kC_2 isC_2) g_1 dX8_value_19 ?_
    refine lv_goto (tgt := 24) hx hb dX8_value_20 (by decide) ?_
    exact r_lret X hP hS (pr0 h) rfl dX8_value_24
abbrev rmX8_cell : Room := { frames := 1, cells := 0, slots := 0, locals := 21 }
def f_X8_cell (M : Mem) (a1 : Int32) (a2 : Int32) : Option (Int32) :=
  Option.bind (f_X8_isCell (Int32.toInt64 a1)) fun r_1 => if (bI r_1) = 0 then (some (-2)) else (if a2 = 0 then (gd (inR a1 40) <| some (gI M 7 a1.toNatClampNeg)) else if a2 = 1 then (gd (inR a1 40) <| some (gI M 8 a1.toNatClampNeg)) else if a2 = 2 then (gd (inR a1 40) <| some (gI M (2 + 3) a1.toNatClampNeg)) else if a2 = 3 then (gd (inR a1 40) <| some (gI M (2 + 4) a1.toNatClampNeg)) else some (-2))
set_option maxRecDepth 100000 in
set_option maxHeartbeats 4000000 in
theorem c_X8_cell {l : Launch} {G : va_G} {cy : Nat → ClassId} {B nT : Nat} {M : Mem} {a1 : Int32} {a2 : Int32} {out : Int32} (h : f_X8_cell M a1 a2 = some out) : Met l yX8_cell (wsU yX8_cell cX8_cell 3 (some .int)) rmX8_cell (va_Pc [.ref (B + 0), .int a1, .int a2] (PU G B cy nT M)) (Qi G B cy nT out M) 0 0 (FB B) := by
  refine r_met (by decide +kernel) RX8 rfl (Nat.le_of_ble_eq_true rfl) ?_
  intro p e s m args below meth c ls X hP hl
  have hl : lv_has ls 3 [(0, .ref (B + 0)), (1, .int a1), (2, .int a2)] := hl
  have hS : va_S (FB B) s.heap s.heap [] := va_S.rf
  obtain ⟨hx, hb, hr, hml, hown, hts, hKn, hlk⟩ := id X
  unfold f_X8_cell at h
  refine lv_iload_n hx hb dX8_cell_0 rfl (lv_at hl 1 rfl) ?_
  refine lv_i2l (v := (Int32.toInt64 a1)) hx hb dX8_cell_1 rfl ?_
  obtain ⟨r_1, h_1, h⟩ := bd_el h
  refine cl_i (rn_S X hP (c_X8_isCell h_1) k_186 k_187 k_1 k_188 hd_X8_isCell (n := 1) ⟨⟨rfl, rfl⟩, Nat.le_of_ble_eq_true rfl, Nat.le_of_ble_eq_true rfl⟩ (As := [.long (Int32.toInt64 a1)]) (rest := []) rfl hl.1 rfl (Nat.le_of_ble_eq_true rfl) dX8_cell_2 ⟨Nat.zero_le _, Nat.zero_le _⟩) hS (fun H locs hP hS => ?_)
  refine lv_if_ne (tgt := 11) hx hb dX8_cell_5 (by decide) (fun hc => ?_) (fun hc => ?_)
  · replace h := if_eln h hc
    refine lv_iload_n hx hb dX8_cell_11 rfl (lv_at hl 2 rfl) ?_
    by_cases h_2 : a2 = 0
    · replace h := if_elp h h_2
      refine lv_tableIn (off := 32) (tgt := 44) hx hb dX8_cell_12 (by rw [h_2]; decide) (by rw [h_2]; decide) (by rw [h_2]; rfl) (by decide) ?_
      refine lv_aload_n hx hb dX8_cell_44 rfl (lv_at hl 0 rfl) ?_
      refine gf_X8_10 X hP dX8_cell_45 ?_
      refine gf_X8_100 X hP dX8_cell_48 ?_
      refine lv_iload_n hx hb dX8_cell_51 rfl (lv_at hl 1 rfl) ?_
      obtain ⟨g_1, h⟩ := gd_el h
      refine r_iald X hP kq_7 g_1 dX8_cell_52 ?_
      exact r_iret X hP hS (pr0 h) rfl dX8_cell_53
    · replace h := if_eln h h_2
      by_cases h_3 : a2 = 1
      · replace h := if_elp h h_3
        refine lv_tableIn (off := 42) (tgt := 54) hx hb dX8_cell_12 (by rw [h_3]; decide) (by rw [h_3]; decide) (by rw [h_3]; rfl) (by decide) ?_
        refine lv_aload_n hx hb dX8_cell_54 rfl (lv_at hl 0 rfl) ?_
        refine gf_X8_10 X hP dX8_cell_55 ?_
        refine gf_X8_103 X hP dX8_cell_58 ?_
        refine lv_iload_n hx hb dX8_cell_61 rfl (lv_at hl 1 rfl) ?_
        obtain ⟨g_2, h⟩ := gd_el h
        refine r_iald X hP kq_8 g_2 dX8_cell_62 ?_
        exact r_iret X hP hS (pr0 h) rfl dX8_cell_63
      · replace h := if_eln h h_3
        by_cases h_4 : a2 = 2
        · replace h := if_elp h h_4
          refine lv_tableIn (off := 52) (tgt := 64) hx hb dX8_cell_12 (by rw [h_4]; decide) (by rw [h_4]; decide) (by rw [h_4]; rfl) (by decide) ?_
          refine lv_aload_n hx hb dX8_cell_64 rfl (lv_at hl 0 rfl) ?_
          refine gf_X8_10 X hP dX8_cell_65 ?_
          refine gf_X8_74 X hP dX8_cell_68 ?_
          refine gf_X8_106 X hP (kC_0 isC_2) dX8_cell_71 ?_
          refine lv_iload_n hx hb dX8_cell_74 rfl (lv_at hl 1 rfl) ?_
          obtain ⟨g_3, h⟩ := gd_el h
          refine r_iald X hP (kC_3 isC_2) g_3 dX8_cell_75 ?_
          exact r_iret X hP hS (pr0 h) rfl dX8_cell_76
        · replace h := if_eln h h_4
          by_cases h_5 : a2 = 3
          · replace h := if_elp h h_5
            refine lv_tableIn (off := 65) (tgt := 77) hx hb dX8_cell_12 (by rw [h_5]; decide) (by rw [h_5]; decide) (by rw [h_5]; rfl) (by decide) ?_
            refine lv_aload_n hx hb dX8_cell_77 rfl (lv_at hl 0 rfl) ?_
            refine gf_X8_10 X hP dX8_cell_78 ?_
            refine gf_X8_74 X hP dX8_cell_81 ?_
            refine gf_X8_109 X hP (kC_0 isC_2) dX8_cell_84 ?_
            refine lv_iload_n hx hb dX8_cell_87 rfl (lv_at hl 1 rfl) ?_
            obtain ⟨g_4, h⟩ := gd_el h
            refine r_iald X hP (kC_4 isC_2) g_4 dX8_cell_88 ?_
            exact r_iret X hP hS (pr0 h) rfl dX8_cell_89
          · replace h := if_eln h h_5
            refine lv_tableOut (tgt := 90) hx hb dX8_cell_12 (by have z0 := lv_neT (a := 0) h_2 rfl; have z1 := lv_neT (a := 1) h_3 rfl; have z2 := lv_neT (a := 2) h_4 rfl; have z3 := lv_neT (a := 3) h_5 rfl; omega) (by decide) ?_
            refine lv_bipush (v := (-2)) hx hb dX8_cell_90 (by decide) ?_
            exact r_iret X hP hS (pr0 h) rfl dX8_cell_92
  · replace h := if_elp h hc
    refine lv_bipush (v := (-2)) hx hb dX8_cell_8 (by decide) ?_
    exact r_iret X hP hS (pr0 h) rfl dX8_cell_10
abbrev rmX8_history : Room := { frames := 1, cells := 0, slots := 0, locals := 21 }
def f_X8_history_33 (M : Mem) (v1 : Int32) (v2 : Int32) (s0 : Int32) : Option (Int32) :=
  if s0 = 0 then (some (-1)) else (gd (inR ((v1 * 12) + v2) 480) <| some (gI M 9 ((v1 * 12) + v2).toNatClampNeg))
set_option maxRecDepth 100000 in
set_option maxHeartbeats 4000000 in
theorem w_X8_history_33 (X : Cx p s m args meth c cX8_history RX8 4 (some .int) G cy) {M : Mem} {out : Int32} {v1 : Int32} {v2 : Int32} {s0 : Int32} (hP : Pic G B cy nT M H) (hS : va_S (FB B) s.heap H locs) (hl : lv_has ls 4 [(0, .ref (B + 0)), (1, .int v1), (2, .int v2)]) (h : f_X8_history_33 M v1 v2 s0 = some out) : W p l e rmX8_history s m args below meth c H locs 0 0 (MQ below (Qi G B cy nT out M) args s 0 0 (FB B)) (F0 m 33 ls [.int s0]) := by
  obtain ⟨hx, hb, hr, hml, hown, hts, hKn, hlk⟩ := id X
  unfold f_X8_history_33 at h
  refine lv_istore_n (lv' := [(3, .int s0), (0, .ref (B + 0)), (1, .int v1), (2, .int v2)]) hx hb dX8_history_33 rfl hl (by decide) rfl (fun ls hl => ?_)
  refine lv_iload_n hx hb dX8_history_34 rfl (lv_at hl 0 rfl) ?_
  refine lv_if_eq (tgt := 55) hx hb dX8_history_35 (by decide) (fun hc => ?_) (fun hc => ?_)
  · replace h := if_elp h hc
    refine lv_iconst (v := (-1)) hx hb dX8_history_55 (by decide) ?_
    exact r_iret X hP hS (pr0 h) rfl dX8_history_56
  · replace h := if_eln h hc
    refine lv_aload_n hx hb dX8_history_38 rfl (lv_at hl 1 rfl) ?_
    refine gf_X8_10 X hP dX8_history_39 ?_
    refine gf_X8_115 X hP dX8_history_42 ?_
    refine lv_iload_n hx hb dX8_history_45 rfl (lv_at hl 2 rfl) ?_
    refine lv_bipush (v := 12) hx hb dX8_history_46 (by decide) ?_
    refine lv_imul hx hb dX8_history_48 ?_
    refine lv_iload_n hx hb dX8_history_49 rfl (lv_at hl 3 rfl) ?_
    refine lv_iadd hx hb dX8_history_50 ?_
    obtain ⟨g_1, h⟩ := gd_el h
    refine r_iald X hP kq_9 g_1 dX8_history_51 ?_
    refine lv_goto (tgt := 56) hx hb dX8_history_52 (by decide) ?_
    exact r_iret X hP hS (pr0 h) rfl dX8_history_56
def f_X8_history_32 (M : Mem) (v1 : Int32) (v2 : Int32) : Option (Int32) :=
  f_X8_history_33 M v1 v2 0
set_option maxRecDepth 100000 in
set_option maxHeartbeats 4000000 in
theorem w_X8_history_32 (X : Cx p s m args meth c cX8_history RX8 4 (some .int) G cy) {M : Mem} {out : Int32} {v1 : Int32} {v2 : Int32} (hP : Pic G B cy nT M H) (hS : va_S (FB B) s.heap H locs) (hl : lv_has ls 4 [(0, .ref (B + 0)), (1, .int v1), (2, .int v2)]) (h : f_X8_history_32 M v1 v2 = some out) : W p l e rmX8_history s m args below meth c H locs 0 0 (MQ below (Qi G B cy nT out M) args s 0 0 (FB B)) (F0 m 32 ls []) := by
  obtain ⟨hx, hb, hr, hml, hown, hts, hKn, hlk⟩ := id X
  unfold f_X8_history_32 at h
  refine lv_iconst (v := 0) hx hb dX8_history_32 (by decide) ?_
  exact w_X8_history_33 X hP hS (lv_sub hl [0, 1, 2] rfl) h
def f_X8_history (M : Mem) (a1 : Int32) (a2 : Int32) : Option (Int32) :=
  Option.bind (f_X8_isCell (Int32.toInt64 a1)) fun r_1 => if (bI r_1) = 0 then (some (-2)) else (if a2 < 0 then (f_X8_history_32 M a1 a2) else (gd (inR a1 40) <| if (gI M 10 a1.toNatClampNeg) ≤ a2 then (f_X8_history_32 M a1 a2) else (f_X8_history_33 M a1 a2 1)))
set_option maxRecDepth 100000 in
set_option maxHeartbeats 4000000 in
theorem c_X8_history {l : Launch} {G : va_G} {cy : Nat → ClassId} {B nT : Nat} {M : Mem} {a1 : Int32} {a2 : Int32} {out : Int32} (h : f_X8_history M a1 a2 = some out) : Met l yX8_history (wsU yX8_history cX8_history 4 (some .int)) rmX8_history (va_Pc [.ref (B + 0), .int a1, .int a2] (PU G B cy nT M)) (Qi G B cy nT out M) 0 0 (FB B) := by
  refine r_met (by decide +kernel) RX8 rfl (Nat.le_of_ble_eq_true rfl) ?_
  intro p e s m args below meth c ls X hP hl
  have hl : lv_has ls 4 [(0, .ref (B + 0)), (1, .int a1), (2, .int a2)] := hl
  have hS : va_S (FB B) s.heap s.heap [] := va_S.rf
  obtain ⟨hx, hb, hr, hml, hown, hts, hKn, hlk⟩ := id X
  unfold f_X8_history at h
  refine lv_iload_n hx hb dX8_history_0 rfl (lv_at hl 1 rfl) ?_
  refine lv_i2l (v := (Int32.toInt64 a1)) hx hb dX8_history_1 rfl ?_
  obtain ⟨r_1, h_1, h⟩ := bd_el h
  refine cl_i (rn_S X hP (c_X8_isCell h_1) k_186 k_187 k_1 k_188 hd_X8_isCell (n := 1) ⟨⟨rfl, rfl⟩, Nat.le_of_ble_eq_true rfl, Nat.le_of_ble_eq_true rfl⟩ (As := [.long (Int32.toInt64 a1)]) (rest := []) rfl hl.1 rfl (Nat.le_of_ble_eq_true rfl) dX8_history_2 ⟨Nat.zero_le _, Nat.zero_le _⟩) hS (fun H locs hP hS => ?_)
  refine lv_if_ne (tgt := 11) hx hb dX8_history_5 (by decide) (fun hc => ?_) (fun hc => ?_)
  · replace h := if_eln h hc
    refine lv_iload_n hx hb dX8_history_11 rfl (lv_at hl 2 rfl) ?_
    refine lv_if_lt (tgt := 32) hx hb dX8_history_12 (by decide) (fun hc => ?_) (fun hc => ?_)
    · replace h := if_elp h hc
      exact w_X8_history_32 X hP hS (lv_sub hl [0, 1, 2] rfl) h
    · replace h := if_eln h hc
      refine lv_iload_n hx hb dX8_history_15 rfl (lv_at hl 2 rfl) ?_
      refine lv_aload_n hx hb dX8_history_16 rfl (lv_at hl 0 rfl) ?_
      refine gf_X8_10 X hP dX8_history_17 ?_
      refine gf_X8_112 X hP dX8_history_20 ?_
      refine lv_iload_n hx hb dX8_history_23 rfl (lv_at hl 1 rfl) ?_
      obtain ⟨g_1, h⟩ := gd_el h
      refine r_iald X hP kq_10 g_1 dX8_history_24 ?_
      refine lv_icmp_ge (tgt := 32) hx hb dX8_history_25 (by decide) (fun hc => ?_) (fun hc => ?_)
      · replace h := if_elp h hc
        exact w_X8_history_32 X hP hS (lv_sub hl [0, 1, 2] rfl) h
      · replace h := if_eln h hc
        refine lv_iconst (v := 1) hx hb dX8_history_28 (by decide) ?_
        refine lv_goto (tgt := 33) hx hb dX8_history_29 (by decide) ?_
        exact w_X8_history_33 X hP hS (lv_sub hl [0, 1, 2] rfl) h
  · replace h := if_elp h hc
    refine lv_bipush (v := (-2)) hx hb dX8_history_8 (by decide) ?_
    exact r_iret X hP hS (pr0 h) rfl dX8_history_10
abbrev rmX8_stock : Room := { frames := 1, cells := 0, slots := 0, locals := 24 }
def f_X8_stock_23 (M : Mem) (v1 : Int32) (v2 : Int32) : Option (Int64) :=
  if v1 = 1 then (Option.bind (f_X8_isGrower v2) fun r_1 => if (bI r_1) = 0 then (some (-2)) else (Option.bind (f_X1_gramsOfGrower 2 M v2) fun r_2 => some r_2)) else (some (-2))
set_option maxRecDepth 100000 in
set_option maxHeartbeats 4000000 in
theorem w_X8_stock_23 (X : Cx p s m args meth c cX8_stock RX8 3 (some .long) G cy) {M : Mem} {out : Int64} {v1 : Int32} {v2 : Int32} (hP : Pic G B cy nT M H) (hS : va_S (FB B) s.heap H locs) (hl : lv_has ls 3 [(0, .ref (B + 0)), (1, .int v1), (2, .int v2)]) (h : f_X8_stock_23 M v1 v2 = some out) : W p l e rmX8_stock s m args below meth c H locs 0 0 (MQ below (Ql G B cy nT out M) args s 0 0 (FB B)) (F0 m 23 ls []) := by
  obtain ⟨hx, hb, hr, hml, hown, hts, hKn, hlk⟩ := id X
  unfold f_X8_stock_23 at h
  refine lv_iload_n hx hb dX8_stock_23 rfl (lv_at hl 1 rfl) ?_
  refine lv_iconst (v := 1) hx hb dX8_stock_24 (by decide) ?_
  refine lv_icmp_ne (tgt := 47) hx hb dX8_stock_25 (by decide) (fun hc => ?_) (fun hc => ?_)
  · replace h := if_eln h hc
    refine lv_ldc2 (v := (-2)) hx hb hown (hts _ k_249) dX8_stock_47 ?_
    exact r_lret X hP hS (pr0 h) rfl dX8_stock_50
  · replace h := if_elp h hc
    refine lv_iload_n hx hb dX8_stock_28 rfl (lv_at hl 2 rfl) ?_
    obtain ⟨r_1, h_1, h⟩ := bd_el h
    refine cl_i (rn_S X hP (c_X8_isGrower h_1) k_213 k_214 k_1 k_215 hd_X8_isGrower (n := 1) ⟨⟨rfl, rfl⟩, Nat.le_of_ble_eq_true rfl, Nat.le_of_ble_eq_true rfl⟩ (As := [.int v2]) (rest := []) rfl hl.1 rfl (Nat.le_of_ble_eq_true rfl) dX8_stock_29 ⟨Nat.zero_le _, Nat.zero_le _⟩) hS (fun H locs hP hS => ?_)
    refine lv_if_eq (tgt := 47) hx hb dX8_stock_32 (by decide) (fun hc => ?_) (fun hc => ?_)
    · replace h := if_elp h hc
      refine lv_ldc2 (v := (-2)) hx hb hown (hts _ k_249) dX8_stock_47 ?_
      exact r_lret X hP hS (pr0 h) rfl dX8_stock_50
    · replace h := if_eln h hc
      refine lv_aload_n hx hb dX8_stock_35 rfl (lv_at hl 0 rfl) ?_
      refine gf_X8_10 X hP dX8_stock_36 ?_
      refine gf_X8_74 X hP dX8_stock_39 ?_
      refine lv_iload_n hx hb dX8_stock_42 rfl (lv_at hl 2 rfl) ?_
      obtain ⟨r_2, h_2, h⟩ := bd_el h
      refine cl_l (rn_V (C := RX1) (ci := 1) X hP (c_X1_gramsOfGrower isC_2 h_2) (kC_0 isC_2) rfl k_245 k_246 k_247 k_3 k_248 rfl hd_X1_gramsOfGrower (n := 1) ⟨⟨rfl, rfl⟩, Nat.le_of_ble_eq_true rfl, Nat.le_of_ble_eq_true rfl⟩ (As := [.int v2]) (rest := []) rfl hl.1 rfl (Nat.le_of_ble_eq_true rfl) dX8_stock_43 ⟨Nat.zero_le _, Nat.zero_le _⟩) hS (fun H locs hP hS => ?_)
      exact r_lret X hP hS (pr0 h) rfl dX8_stock_46
def f_X8_stock (M : Mem) (a1 : Int32) (a2 : Int32) : Option (Int64) :=
  if a1 = 0 then (Option.bind (f_X8_isKind a2) fun r_1 => if (bI r_1) = 0 then (f_X8_stock_23 M a1 a2) else (Option.bind (f_X1_gramsOfKind 2 M a2) fun r_2 => some r_2)) else (f_X8_stock_23 M a1 a2)
set_option maxRecDepth 100000 in
set_option maxHeartbeats 4000000 in
theorem c_X8_stock {l : Launch} {G : va_G} {cy : Nat → ClassId} {B nT : Nat} {M : Mem} {a1 : Int32} {a2 : Int32} {out : Int64} (h : f_X8_stock M a1 a2 = some out) : Met l yX8_stock (wsU yX8_stock cX8_stock 3 (some .long)) rmX8_stock (va_Pc [.ref (B + 0), .int a1, .int a2] (PU G B cy nT M)) (Ql G B cy nT out M) 0 0 (FB B) := by
  refine r_met (by decide +kernel) RX8 rfl (Nat.le_of_ble_eq_true rfl) ?_
  intro p e s m args below meth c ls X hP hl
  have hl : lv_has ls 3 [(0, .ref (B + 0)), (1, .int a1), (2, .int a2)] := hl
  have hS : va_S (FB B) s.heap s.heap [] := va_S.rf
  obtain ⟨hx, hb, hr, hml, hown, hts, hKn, hlk⟩ := id X
  unfold f_X8_stock at h
  refine lv_iload_n hx hb dX8_stock_0 rfl (lv_at hl 1 rfl) ?_
  refine lv_if_ne (tgt := 23) hx hb dX8_stock_1 (by decide) (fun hc => ?_) (fun hc => ?_)
  · replace h := if_eln h hc
    exact w_X8_stock_23 X hP hS (lv_sub hl [0, 1, 2] rfl) h
  · replace h := if_elp h hc
    refine lv_iload_n hx hb dX8_stock_4 rfl (lv_at hl 2 rfl) ?_
    obtain ⟨r_1, h_1, h⟩ := bd_el h
    refine cl_i (rn_S X hP (c_X8_isKind h_1) k_210 k_211 k_1 k_212 hd_X8_isKind (n := 1) ⟨⟨rfl, rfl⟩, Nat.le_of_ble_eq_true rfl, Nat.le_of_ble_eq_true rfl⟩ (As := [.int a2]) (rest := []) rfl hl.1 rfl (Nat.le_of_ble_eq_true rfl) dX8_stock_5 ⟨Nat.zero_le _, Nat.zero_le _⟩) hS (fun H locs hP hS => ?_)
    refine lv_if_eq (tgt := 23) hx hb dX8_stock_8 (by decide) (fun hc => ?_) (fun hc => ?_)
    · replace h := if_elp h hc
      exact w_X8_stock_23 X hP hS (lv_sub hl [0, 1, 2] rfl) h
    · replace h := if_eln h hc
      refine lv_aload_n hx hb dX8_stock_11 rfl (lv_at hl 0 rfl) ?_
      refine gf_X8_10 X hP dX8_stock_12 ?_
      refine gf_X8_74 X hP dX8_stock_15 ?_
      refine lv_iload_n hx hb dX8_stock_18 rfl (lv_at hl 2 rfl) ?_
      obtain ⟨r_2, h_2, h⟩ := bd_el h
      refine cl_l (rn_V (C := RX1) (ci := 1) X hP (c_X1_gramsOfKind isC_2 h_2) (kC_0 isC_2) rfl k_241 k_242 k_243 k_3 k_244 rfl hd_X1_gramsOfKind (n := 1) ⟨⟨rfl, rfl⟩, Nat.le_of_ble_eq_true rfl, Nat.le_of_ble_eq_true rfl⟩ (As := [.int a2]) (rest := []) rfl hl.1 rfl (Nat.le_of_ble_eq_true rfl) dX8_stock_19 ⟨Nat.zero_le _, Nat.zero_le _⟩) hS (fun H locs hP hS => ?_)
      exact r_lret X hP hS (pr0 h) rfl dX8_stock_22
abbrev rmX8_step : Room := { frames := 2, cells := 0, slots := 0, locals := 43 }
def f_X8_step (M : Mem) (a1 : Int32) (a2 : Int32) (a3 : Int32) (a4 : Int32) : Option (Int32 × Mem) :=
  Option.bind (f_X8_isTrade a1) fun r_1 => if (bI r_1) = 0 then (some ((-2), M)) else (Option.bind (f_X7_fits a2 a3 a4) fun r_2 => if (bI r_2) = 0 then (some ((-2), M)) else (gd (inR a1 16) <| if (gI M 12 a1.toNatClampNeg) < 24 then (Option.bind (f_X7_append M a1 a2 a3 a4) fun r_3 => some (r_3.1, r_3.2)) else (some ((-3), M))))
set_option maxRecDepth 100000 in
set_option maxHeartbeats 4000000 in
theorem c_X8_step {l : Launch} {G : va_G} {cy : Nat → ClassId} {B nT : Nat} {M : Mem} {a1 : Int32} {a2 : Int32} {a3 : Int32} {a4 : Int32} {out : Int32 × Mem} (h : f_X8_step M a1 a2 a3 a4 = some out) : Met l yX8_step (wsU yX8_step cX8_step 5 (some .int)) rmX8_step (va_Pc [.ref (B + 0), .int a1, .int a2, .int a3, .int a4] (PU G B cy nT M)) (Qi G B cy nT out.1 out.2) 0 0 (FB B) := by
  refine r_met (by decide +kernel) RX8 rfl (Nat.le_of_ble_eq_true rfl) ?_
  intro p e s m args below meth c ls X hP hl
  have hl : lv_has ls 5 [(0, .ref (B + 0)), (1, .int a1), (2, .int a2), (3, .int a3), (4, .int a4)] := hl
  have hS : va_S (FB B) s.heap s.heap [] := va_S.rf
  obtain ⟨hx, hb, hr, hml, hown, hts, hKn, hlk⟩ := id X
  unfold f_X8_step at h
  refine lv_iload_n hx hb dX8_step_0 rfl (lv_at hl 1 rfl) ?_
  obtain ⟨r_1, h_1, h⟩ := bd_el h
  refine cl_i (rn_S X hP (c_X8_isTrade h_1) k_254 k_255 k_1 k_256 hd_X8_isTrade (n := 1) ⟨⟨rfl, rfl⟩, Nat.le_of_ble_eq_true rfl, Nat.le_of_ble_eq_true rfl⟩ (As := [.int a1]) (rest := []) rfl hl.1 rfl (Nat.le_of_ble_eq_true rfl) dX8_step_1 ⟨Nat.zero_le _, Nat.zero_le _⟩) hS (fun H locs hP hS => ?_)
  refine lv_if_eq (tgt := 17) hx hb dX8_step_4 (by decide) (fun hc => ?_) (fun hc => ?_)
  · replace h := if_elp h hc
    refine lv_bipush (v := (-2)) hx hb dX8_step_17 (by decide) ?_
    exact r_iret X hP hS (pr1 h) (pr2 h) dX8_step_19
  · replace h := if_eln h hc
    refine lv_iload_n hx hb dX8_step_7 rfl (lv_at hl 2 rfl) ?_
    refine lv_iload_n hx hb dX8_step_8 rfl (lv_at hl 3 rfl) ?_
    refine lv_iload hx hb dX8_step_9 (lv_at hl 4 rfl) ?_
    obtain ⟨r_2, h_2, h⟩ := bd_el h
    refine cl_i (rn_S X hP (c_X7_fits h_2) k_257 k_258 k_4 k_259 hd_X7_fits (n := 3) ⟨⟨rfl, rfl⟩, Nat.le_of_ble_eq_true rfl, Nat.le_of_ble_eq_true rfl⟩ (As := [.int a2, .int a3, .int a4]) (rest := []) rfl hl.1 rfl (Nat.le_of_ble_eq_true rfl) dX8_step_11 ⟨Nat.zero_le _, Nat.zero_le _⟩) hS (fun H locs hP hS => ?_)
    refine lv_if_ne (tgt := 20) hx hb dX8_step_14 (by decide) (fun hc => ?_) (fun hc => ?_)
    · replace h := if_eln h hc
      refine lv_aload_n hx hb dX8_step_20 rfl (lv_at hl 0 rfl) ?_
      refine gf_X8_19 X hP dX8_step_21 ?_
      refine gf_X8_134 X hP dX8_step_24 ?_
      refine lv_iload_n hx hb dX8_step_27 rfl (lv_at hl 1 rfl) ?_
      obtain ⟨g_1, h⟩ := gd_el h
      refine r_iald X hP kq_12 g_1 dX8_step_28 ?_
      refine lv_bipush (v := 24) hx hb dX8_step_29 (by decide) ?_
      refine lv_icmp_lt (tgt := 37) hx hb dX8_step_31 (by decide) (fun hc => ?_) (fun hc => ?_)
      · replace h := if_elp h hc
        refine lv_aload_n hx hb dX8_step_37 rfl (lv_at hl 0 rfl) ?_
        refine gf_X8_19 X hP dX8_step_38 ?_
        refine lv_iload_n hx hb dX8_step_41 rfl (lv_at hl 1 rfl) ?_
        refine lv_iload_n hx hb dX8_step_42 rfl (lv_at hl 2 rfl) ?_
        refine lv_iload_n hx hb dX8_step_43 rfl (lv_at hl 3 rfl) ?_
        refine lv_iload hx hb dX8_step_44 (lv_at hl 4 rfl) ?_
        obtain ⟨r_3, h_3, h⟩ := bd_el h
        refine cl_i (rn_V (C := RX7) (ci := 7) X hP (c_X7_append h_3) kq_11 rfl k_262 k_263 k_264 k_4 k_265 rfl hd_X7_append (n := 4) ⟨⟨rfl, rfl⟩, Nat.le_of_ble_eq_true rfl, Nat.le_of_ble_eq_true rfl⟩ (As := [.int a1, .int a2, .int a3, .int a4]) (rest := []) rfl hl.1 rfl (Nat.le_of_ble_eq_true rfl) dX8_step_46 ⟨Nat.zero_le _, Nat.zero_le _⟩) hS (fun H locs hP hS => ?_)
        exact r_iret X hP hS (pr1 h) (pr2 h) dX8_step_49
      · replace h := if_eln h hc
        refine lv_bipush (v := (-3)) hx hb dX8_step_34 (by decide) ?_
        exact r_iret X hP hS (pr1 h) (pr2 h) dX8_step_36
    · replace h := if_elp h hc
      refine lv_bipush (v := (-2)) hx hb dX8_step_17 (by decide) ?_
      exact r_iret X hP hS (pr1 h) (pr2 h) dX8_step_19
abbrev rmX8_drop : Room := { frames := 1, cells := 0, slots := 0, locals := 20 }
def f_X8_drop (M : Mem) (a1 : Int32) : Option (Int32 × Mem) :=
  Option.bind (f_X8_isTrade a1) fun r_1 => if (bI r_1) = 0 then (some ((-2), M)) else (gd (inR a1 16) <| lt (gI M 12 a1.toNatClampNeg) fun v_1 => gd (inR a1 16) <| lt (sI M 12 a1.toNatClampNeg 0) fun M_1 => some (v_1, M_1))
set_option maxRecDepth 100000 in
set_option maxHeartbeats 4000000 in
theorem c_X8_drop {l : Launch} {G : va_G} {cy : Nat → ClassId} {B nT : Nat} {M : Mem} {a1 : Int32} {out : Int32 × Mem} (h : f_X8_drop M a1 = some out) : Met l yX8_drop (wsU yX8_drop cX8_drop 3 (some .int)) rmX8_drop (va_Pc [.ref (B + 0), .int a1] (PU G B cy nT M)) (Qi G B cy nT out.1 out.2) 0 0 (FB B) := by
  refine r_met (by decide +kernel) RX8 rfl (Nat.le_of_ble_eq_true rfl) ?_
  intro p e s m args below meth c ls X hP hl
  have hl : lv_has ls 3 [(0, .ref (B + 0)), (1, .int a1)] := hl
  have hS : va_S (FB B) s.heap s.heap [] := va_S.rf
  obtain ⟨hx, hb, hr, hml, hown, hts, hKn, hlk⟩ := id X
  unfold f_X8_drop at h
  refine lv_iload_n hx hb dX8_drop_0 rfl (lv_at hl 1 rfl) ?_
  obtain ⟨r_1, h_1, h⟩ := bd_el h
  refine cl_i (rn_S X hP (c_X8_isTrade h_1) k_254 k_255 k_1 k_256 hd_X8_isTrade (n := 1) ⟨⟨rfl, rfl⟩, Nat.le_of_ble_eq_true rfl, Nat.le_of_ble_eq_true rfl⟩ (As := [.int a1]) (rest := []) rfl hl.1 rfl (Nat.le_of_ble_eq_true rfl) dX8_drop_1 ⟨Nat.zero_le _, Nat.zero_le _⟩) hS (fun H locs hP hS => ?_)
  refine lv_if_ne (tgt := 10) hx hb dX8_drop_4 (by decide) (fun hc => ?_) (fun hc => ?_)
  · replace h := if_eln h hc
    refine lv_aload_n hx hb dX8_drop_10 rfl (lv_at hl 0 rfl) ?_
    refine gf_X8_19 X hP dX8_drop_11 ?_
    refine gf_X8_134 X hP dX8_drop_14 ?_
    refine lv_iload_n hx hb dX8_drop_17 rfl (lv_at hl 1 rfl) ?_
    obtain ⟨g_1, h⟩ := gd_el h
    refine r_iald X hP kq_12 g_1 dX8_drop_18 ?_
    obtain ⟨v_1, e_1, h⟩ := lt_el h
    refine r_topi e_1 ?_
    refine lv_istore_n (lv' := [(2, .int v_1), (0, .ref (B + 0)), (1, .int a1)]) hx hb dX8_drop_19 rfl hl (by decide) rfl (fun ls hl => ?_)
    refine lv_aload_n hx hb dX8_drop_20 rfl (lv_at hl 1 rfl) ?_
    refine gf_X8_19 X hP dX8_drop_21 ?_
    refine gf_X8_134 X hP dX8_drop_24 ?_
    refine lv_iload_n hx hb dX8_drop_27 rfl (lv_at hl 2 rfl) ?_
    refine lv_iconst (v := 0) hx hb dX8_drop_28 (by decide) ?_
    obtain ⟨g_2, h⟩ := gd_el h
    obtain ⟨M_1, e_2, h⟩ := lt_el h
    refine r_iast X hP hS kq_12 g_2 e_2 dX8_drop_29 (fun H locs hP hS => ?_)
    refine lv_iload_n hx hb dX8_drop_30 rfl (lv_at hl 0 rfl) ?_
    exact r_iret X hP hS (pr1 h) (pr2 h) dX8_drop_31
  · replace h := if_elp h hc
    refine lv_bipush (v := (-2)) hx hb dX8_drop_7 (by decide) ?_
    exact r_iret X hP hS (pr1 h) (pr2 h) dX8_drop_9
abbrev rmX8_clash : Room := { frames := 1, cells := 0, slots := 0, locals := 20 }
def f_X8_clash (M : Mem) (a1 : Int32) (a2 : Int32) : Option (Int32 × Mem) :=
  Option.bind (f_X8_isTrade a1) fun r_1 => if (bI r_1) = 0 then (some ((-2), M)) else (if a2 < 0 then (some ((-2), M)) else (if a2 ≤ 10 then (gd (inR a1 16) <| lt (gI M 13 a1.toNatClampNeg) fun v_1 => gd (inR a1 16) <| lt (sI M 13 a1.toNatClampNeg a2) fun M_1 => some (v_1, M_1)) else (some ((-2), M))))
set_option maxRecDepth 100000 in
set_option maxHeartbeats 4000000 in
theorem c_X8_clash {l : Launch} {G : va_G} {cy : Nat → ClassId} {B nT : Nat} {M : Mem} {a1 : Int32} {a2 : Int32} {out : Int32 × Mem} (h : f_X8_clash M a1 a2 = some out) : Met l yX8_clash (wsU yX8_clash cX8_clash 4 (some .int)) rmX8_clash (va_Pc [.ref (B + 0), .int a1, .int a2] (PU G B cy nT M)) (Qi G B cy nT out.1 out.2) 0 0 (FB B) := by
  refine r_met (by decide +kernel) RX8 rfl (Nat.le_of_ble_eq_true rfl) ?_
  intro p e s m args below meth c ls X hP hl
  have hl : lv_has ls 4 [(0, .ref (B + 0)), (1, .int a1), (2, .int a2)] := hl
  have hS : va_S (FB B) s.heap s.heap [] := va_S.rf
  obtain ⟨hx, hb, hr, hml, hown, hts, hKn, hlk⟩ := id X
  unfold f_X8_clash at h
  refine lv_iload_n hx hb dX8_clash_0 rfl (lv_at hl 1 rfl) ?_
  obtain ⟨r_1, h_1, h⟩ := bd_el h
  refine cl_i (rn_S X hP (c_X8_isTrade h_1) k_254 k_255 k_1 k_256 hd_X8_isTrade (n := 1) ⟨⟨rfl, rfl⟩, Nat.le_of_ble_eq_true rfl, Nat.le_of_ble_eq_true rfl⟩ (As := [.int a1]) (rest := []) rfl hl.1 rfl (Nat.le_of_ble_eq_true rfl) dX8_clash_1 ⟨Nat.zero_le _, Nat.zero_le _⟩) hS (fun H locs hP hS => ?_)
  refine lv_if_eq (tgt := 17) hx hb dX8_clash_4 (by decide) (fun hc => ?_) (fun hc => ?_)
  · replace h := if_elp h hc
    refine lv_bipush (v := (-2)) hx hb dX8_clash_17 (by decide) ?_
    exact r_iret X hP hS (pr1 h) (pr2 h) dX8_clash_19
  · replace h := if_eln h hc
    refine lv_iload_n hx hb dX8_clash_7 rfl (lv_at hl 2 rfl) ?_
    refine lv_if_lt (tgt := 17) hx hb dX8_clash_8 (by decide) (fun hc => ?_) (fun hc => ?_)
    · replace h := if_elp h hc
      refine lv_bipush (v := (-2)) hx hb dX8_clash_17 (by decide) ?_
      exact r_iret X hP hS (pr1 h) (pr2 h) dX8_clash_19
    · replace h := if_eln h hc
      refine lv_iload_n hx hb dX8_clash_11 rfl (lv_at hl 2 rfl) ?_
      refine lv_bipush (v := 10) hx hb dX8_clash_12 (by decide) ?_
      refine lv_icmp_le (tgt := 20) hx hb dX8_clash_14 (by decide) (fun hc => ?_) (fun hc => ?_)
      · replace h := if_elp h hc
        refine lv_aload_n hx hb dX8_clash_20 rfl (lv_at hl 0 rfl) ?_
        refine gf_X8_19 X hP dX8_clash_21 ?_
        refine gf_X8_141 X hP dX8_clash_24 ?_
        refine lv_iload_n hx hb dX8_clash_27 rfl (lv_at hl 1 rfl) ?_
        obtain ⟨g_1, h⟩ := gd_el h
        refine r_iald X hP kq_13 g_1 dX8_clash_28 ?_
        obtain ⟨v_1, e_1, h⟩ := lt_el h
        refine r_topi e_1 ?_
        refine lv_istore_n (lv' := [(3, .int v_1), (0, .ref (B + 0)), (1, .int a1), (2, .int a2)]) hx hb dX8_clash_29 rfl hl (by decide) rfl (fun ls hl => ?_)
        refine lv_aload_n hx hb dX8_clash_30 rfl (lv_at hl 1 rfl) ?_
        refine gf_X8_19 X hP dX8_clash_31 ?_
        refine gf_X8_141 X hP dX8_clash_34 ?_
        refine lv_iload_n hx hb dX8_clash_37 rfl (lv_at hl 2 rfl) ?_
        refine lv_iload_n hx hb dX8_clash_38 rfl (lv_at hl 3 rfl) ?_
        obtain ⟨g_2, h⟩ := gd_el h
        obtain ⟨M_1, e_2, h⟩ := lt_el h
        refine r_iast X hP hS kq_13 g_2 e_2 dX8_clash_39 (fun H locs hP hS => ?_)
        refine lv_iload_n hx hb dX8_clash_40 rfl (lv_at hl 0 rfl) ?_
        exact r_iret X hP hS (pr1 h) (pr2 h) dX8_clash_41
      · replace h := if_eln h hc
        refine lv_bipush (v := (-2)) hx hb dX8_clash_17 (by decide) ?_
        exact r_iret X hP hS (pr1 h) (pr2 h) dX8_clash_19
abbrev rmX8_rule : Room := { frames := 2, cells := 0, slots := 0, locals := 43 }
def f_X8_rule (M : Mem) (a1 : Int32) (a2 : Int32) (a3 : Int32) (a4 : Int64) : Option (Int32 × Mem) :=
  Option.bind (f_X4_fits a1 a2 a3) fun r_1 => if (bI r_1) = 0 then (some ((-2), M)) else (if (gI M 17 4) < 10 then (Option.bind (f_X4_append M a1 a2 a3 a4) fun r_2 => some (r_2.1, r_2.2)) else (some ((-3), M)))
set_option maxRecDepth 100000 in
set_option maxHeartbeats 4000000 in
theorem c_X8_rule {l : Launch} {G : va_G} {cy : Nat → ClassId} {B nT : Nat} {M : Mem} {a1 : Int32} {a2 : Int32} {a3 : Int32} {a4 : Int64} {out : Int32 × Mem} (h : f_X8_rule M a1 a2 a3 a4 = some out) : Met l yX8_rule (wsU yX8_rule cX8_rule 6 (some .int)) rmX8_rule (va_Pc [.ref (B + 0), .int a1, .int a2, .int a3, .long a4] (PU G B cy nT M)) (Qi G B cy nT out.1 out.2) 0 0 (FB B) := by
  refine r_met (by decide +kernel) RX8 rfl (Nat.le_of_ble_eq_true rfl) ?_
  intro p e s m args below meth c ls X hP hl
  have hl : lv_has ls 6 [(0, .ref (B + 0)), (1, .int a1), (2, .int a2), (3, .int a3), (4, .long a4)] := hl
  have hS : va_S (FB B) s.heap s.heap [] := va_S.rf
  obtain ⟨hx, hb, hr, hml, hown, hts, hKn, hlk⟩ := id X
  unfold f_X8_rule at h
  refine lv_iload_n hx hb dX8_rule_0 rfl (lv_at hl 1 rfl) ?_
  refine lv_iload_n hx hb dX8_rule_1 rfl (lv_at hl 2 rfl) ?_
  refine lv_iload_n hx hb dX8_rule_2 rfl (lv_at hl 3 rfl) ?_
  obtain ⟨r_1, h_1, h⟩ := bd_el h
  refine cl_i (rn_S X hP (c_X4_fits h_1) k_278 k_279 k_5 k_280 hd_X4_fits (n := 3) ⟨⟨rfl, rfl⟩, Nat.le_of_ble_eq_true rfl, Nat.le_of_ble_eq_true rfl⟩ (As := [.int a1, .int a2, .int a3]) (rest := []) rfl hl.1 rfl (Nat.le_of_ble_eq_true rfl) dX8_rule_3 ⟨Nat.zero_le _, Nat.zero_le _⟩) hS (fun H locs hP hS => ?_)
  refine lv_if_ne (tgt := 12) hx hb dX8_rule_6 (by decide) (fun hc => ?_) (fun hc => ?_)
  · replace h := if_eln h hc
    refine lv_aload_n hx hb dX8_rule_12 rfl (lv_at hl 0 rfl) ?_
    refine gf_X8_26 X hP dX8_rule_13 ?_
    refine gf_X8_145 X hP dX8_rule_16 ?_
    refine lv_bipush (v := 10) hx hb dX8_rule_19 (by decide) ?_
    refine lv_icmp_lt (tgt := 27) hx hb dX8_rule_21 (by decide) (fun hc => ?_) (fun hc => ?_)
    · replace h := if_elp h hc
      refine lv_aload_n hx hb dX8_rule_27 rfl (lv_at hl 0 rfl) ?_
      refine gf_X8_26 X hP dX8_rule_28 ?_
      refine lv_iload_n hx hb dX8_rule_31 rfl (lv_at hl 1 rfl) ?_
      refine lv_iload_n hx hb dX8_rule_32 rfl (lv_at hl 2 rfl) ?_
      refine lv_iload_n hx hb dX8_rule_33 rfl (lv_at hl 3 rfl) ?_
      refine lv_lload hx hb dX8_rule_34 (lv_at hl 4 rfl) ?_
      obtain ⟨r_2, h_2, h⟩ := bd_el h
      refine cl_i (rn_V (C := RX4) (ci := 4) X hP (c_X4_append h_2) kq_17 rfl k_284 k_285 k_286 k_5 k_287 rfl hd_X4_append (n := 4) ⟨⟨rfl, rfl⟩, Nat.le_of_ble_eq_true rfl, Nat.le_of_ble_eq_true rfl⟩ (As := [.int a1, .int a2, .int a3, .long a4]) (rest := []) rfl hl.1 rfl (Nat.le_of_ble_eq_true rfl) dX8_rule_36 ⟨Nat.zero_le _, Nat.zero_le _⟩) hS (fun H locs hP hS => ?_)
      exact r_iret X hP hS (pr1 h) (pr2 h) dX8_rule_39
    · replace h := if_eln h hc
      refine lv_bipush (v := (-3)) hx hb dX8_rule_24 (by decide) ?_
      exact r_iret X hP hS (pr1 h) (pr2 h) dX8_rule_26
  · replace h := if_elp h hc
    refine lv_bipush (v := (-2)) hx hb dX8_rule_9 (by decide) ?_
    exact r_iret X hP hS (pr1 h) (pr2 h) dX8_rule_11
abbrev rmX8_window : Room := { frames := 0, cells := 0, slots := 0, locals := 0 }
def f_X8_window (M : Mem) (a1 : Int32) : Option (Int32 × Mem) :=
  if a1 < 1 then (some ((-2), M)) else (if a1 ≤ 4 then (lt (gI M 0 12) fun v_1 => lt (sI M 0 12 a1) fun M_1 => some (v_1, M_1)) else (some ((-2), M)))
set_option maxRecDepth 100000 in
set_option maxHeartbeats 4000000 in
theorem c_X8_window {l : Launch} {G : va_G} {cy : Nat → ClassId} {B nT : Nat} {M : Mem} {a1 : Int32} {out : Int32 × Mem} (h : f_X8_window M a1 = some out) : Met l yX8_window (wsU yX8_window cX8_window 3 (some .int)) rmX8_window (va_Pc [.ref (B + 0), .int a1] (PU G B cy nT M)) (Qi G B cy nT out.1 out.2) 0 0 (FB B) := by
  refine r_met (by decide +kernel) RX8 rfl (Nat.le_of_ble_eq_true rfl) ?_
  intro p e s m args below meth c ls X hP hl
  have hl : lv_has ls 3 [(0, .ref (B + 0)), (1, .int a1)] := hl
  have hS : va_S (FB B) s.heap s.heap [] := va_S.rf
  obtain ⟨hx, hb, hr, hml, hown, hts, hKn, hlk⟩ := id X
  unfold f_X8_window at h
  refine lv_iload_n hx hb dX8_window_0 rfl (lv_at hl 1 rfl) ?_
  refine lv_iconst (v := 1) hx hb dX8_window_1 (by decide) ?_
  refine lv_icmp_lt (tgt := 10) hx hb dX8_window_2 (by decide) (fun hc => ?_) (fun hc => ?_)
  · replace h := if_elp h hc
    refine lv_bipush (v := (-2)) hx hb dX8_window_10 (by decide) ?_
    exact r_iret X hP hS (pr1 h) (pr2 h) dX8_window_12
  · replace h := if_eln h hc
    refine lv_iload_n hx hb dX8_window_5 rfl (lv_at hl 1 rfl) ?_
    refine lv_iconst (v := 4) hx hb dX8_window_6 (by decide) ?_
    refine lv_icmp_le (tgt := 13) hx hb dX8_window_7 (by decide) (fun hc => ?_) (fun hc => ?_)
    · replace h := if_elp h hc
      refine lv_aload_n hx hb dX8_window_13 rfl (lv_at hl 0 rfl) ?_
      refine gf_X8_66 X hP dX8_window_14 ?_
      obtain ⟨v_1, e_1, h⟩ := lt_el h
      refine r_topi e_1 ?_
      refine lv_istore_n (lv' := [(2, .int v_1), (0, .ref (B + 0)), (1, .int a1)]) hx hb dX8_window_17 rfl hl (by decide) rfl (fun ls hl => ?_)
      refine lv_aload_n hx hb dX8_window_18 rfl (lv_at hl 1 rfl) ?_
      refine lv_iload_n hx hb dX8_window_19 rfl (lv_at hl 2 rfl) ?_
      obtain ⟨M_1, e_2, h⟩ := lt_el h
      refine pf_X8_66 X hP hS e_2 dX8_window_20 (fun H locs hP hS => ?_)
      refine lv_iload_n hx hb dX8_window_23 rfl (lv_at hl 0 rfl) ?_
      exact r_iret X hP hS (pr1 h) (pr2 h) dX8_window_24
    · replace h := if_eln h hc
      refine lv_bipush (v := (-2)) hx hb dX8_window_10 (by decide) ?_
      exact r_iret X hP hS (pr1 h) (pr2 h) dX8_window_12
abbrev rmX8_isReadyBelow : Room := { frames := 0, cells := 0, slots := 0, locals := 0 }
def f_X8_isReadyBelow_2 (nT : Nat) (M : Mem) : Nat → Int32 → Int32 → Option (Bool)
  | 0, _, _ => none
  | n + 1, v1, v2 => if v1 ≤ v2 then (some false) else (gd (inR v2 20) <| gd (decide (v2.toNatClampNeg < nT)) <| if (gI M (189 + 4 * v2.toNatClampNeg) 1) = 0 then (some true) else (lt (v2 + 1) fun v_1 => (f_X8_isReadyBelow_2 nT M n) v1 v_1))
set_option maxRecDepth 100000 in
set_option maxHeartbeats 4000000 in
theorem w_X8_isReadyBelow_2 (X : Cx p s m args meth c cX8_isReadyBelow RX8 3 (some .boolean) G cy) {M : Mem} {out : Bool} : ∀ n : Nat, ∀ (H : Heap) (locs : List Loc) (ls : Array Slot) (v1 : Int32) (v2 : Int32), Pic G B cy nT M H → va_S (FB B) s.heap H locs → lv_has ls 3 [(0, .ref (B + 0)), (1, .int v1), (2, .int v2)] → f_X8_isReadyBelow_2 nT M n v1 v2 = some out → W p l e rmX8_isReadyBelow s m args below meth c H locs 0 0 (MQ below (Qi G B cy nT (bI out) M) args s 0 0 (FB B)) (F0 m 2 ls []) := by
  obtain ⟨hx, hb, hr, hml, hown, hts, hKn, hlk⟩ := id X
  intro n
  induction n with
  | zero =>
    intro H locs ls v1 v2 hP hS hl h
    cases h
  | succ n ih =>
    intro H locs ls v1 v2 hP hS hl h
    rw [f_X8_isReadyBelow_2] at h
    refine lv_iload_n hx hb dX8_isReadyBelow_2 rfl (lv_at hl 2 rfl) ?_
    refine lv_iload_n hx hb dX8_isReadyBelow_3 rfl (lv_at hl 1 rfl) ?_
    refine lv_icmp_ge (tgt := 27) hx hb dX8_isReadyBelow_4 (by decide) (fun hc => ?_) (fun hc => ?_)
    · replace h := if_elp h hc
      refine lv_iconst (v := 0) hx hb dX8_isReadyBelow_27 (by decide) ?_
      exact r_zret X hP hS rfl (prz h) rfl dX8_isReadyBelow_28
    · replace h := if_eln h hc
      refine lv_aload_n hx hb dX8_isReadyBelow_7 rfl (lv_at hl 0 rfl) ?_
      refine gf_X8_39 X hP dX8_isReadyBelow_8 ?_
      refine lv_iload_n hx hb dX8_isReadyBelow_11 rfl (lv_at hl 2 rfl) ?_
      obtain ⟨g_1, h⟩ := gd_el h
      obtain ⟨g_2, h⟩ := gd_el h
      refine r_aaT X hP g_1 g_2 dX8_isReadyBelow_12 ?_
      have h_1 := okT_of g_2
      refine gf_X8_167 X hP (kT_0 h_1) dX8_isReadyBelow_13 ?_
      refine lv_if_ne (tgt := 21) hx hb dX8_isReadyBelow_16 (by decide) (fun hc => ?_) (fun hc => ?_)
      · replace h := if_eln h hc
        obtain ⟨v_1, e_1, h⟩ := lt_el h
        refine lv_iinc (v := v_1) (lv' := [(2, .int v_1), (0, .ref (B + 0)), (1, .int v1)]) hx hb dX8_isReadyBelow_21 hl (k := 2) rfl (by rw [e_1]; rfl) (by decide) rfl (fun ls hl => ?_)
        refine lv_goto (tgt := 2) hx hb dX8_isReadyBelow_24 (by decide) ?_
        exact ih _ _ _ _ _ hP hS (lv_sub hl [1, 2, 0] rfl) h
      · replace h := if_elp h hc
        refine lv_iconst (v := 1) hx hb dX8_isReadyBelow_19 (by decide) ?_
        exact r_zret X hP hS rfl (prz h) rfl dX8_isReadyBelow_20
def f_X8_isReadyBelow (nT : Nat) (M : Mem) (a1 : Int32) : Option (Bool) :=
  f_X8_isReadyBelow_2 nT M FU a1 0
set_option maxRecDepth 100000 in
set_option maxHeartbeats 4000000 in
theorem c_X8_isReadyBelow {l : Launch} {G : va_G} {cy : Nat → ClassId} {B nT : Nat} {M : Mem} {a1 : Int32} {out : Bool} (h : f_X8_isReadyBelow nT M a1 = some out) : Met l yX8_isReadyBelow (wsU yX8_isReadyBelow cX8_isReadyBelow 3 (some .boolean)) rmX8_isReadyBelow (va_Pc [.ref (B + 0), .int a1] (PU G B cy nT M)) (Qi G B cy nT (bI out) M) 0 0 (FB B) := by
  refine r_met (by decide +kernel) RX8 rfl (Nat.le_of_ble_eq_true rfl) ?_
  intro p e s m args below meth c ls X hP hl
  have hl : lv_has ls 3 [(0, .ref (B + 0)), (1, .int a1)] := hl
  have hS : va_S (FB B) s.heap s.heap [] := va_S.rf
  obtain ⟨hx, hb, hr, hml, hown, hts, hKn, hlk⟩ := id X
  unfold f_X8_isReadyBelow at h
  refine lv_iconst (v := 0) hx hb dX8_isReadyBelow_0 (by decide) ?_
  refine lv_istore_n (lv' := [(2, .int 0), (0, .ref (B + 0)), (1, .int a1)]) hx hb dX8_isReadyBelow_1 rfl hl (by decide) rfl (fun ls hl => ?_)
  exact w_X8_isReadyBelow_2 X FU _ _ _ _ _ hP hS (lv_sub hl [1, 2, 0] rfl) h
abbrev rmX8_leastBrokenBy : Room := { frames := 3, cells := 0, slots := 0, locals := 81 }
def f_X8_leastBrokenBy (q1 : Nat) (M : Mem) : Option (Int32 × Mem) :=
  Option.bind (f_X1_takeAll 113 2 M) fun r_1 => Option.bind (f_X1_takeThose 113 (q1 + 1) r_1 (gL r_1 q1 8)) fun r_2 => Option.bind (f_X4_leastBroken 113 r_2) fun r_3 => some (r_3, r_2)
set_option maxRecDepth 100000 in
set_option maxHeartbeats 4000000 in
theorem c_X8_leastBrokenBy {l : Launch} {G : va_G} {cy : Nat → ClassId} {B nT : Nat} {q1 : Nat} (hq1 : isA q1) {M : Mem} {out : Int32 × Mem} (h : f_X8_leastBrokenBy q1 M = some out) : Met l yX8_leastBrokenBy (wsU yX8_leastBrokenBy cX8_leastBrokenBy 2 (some .int)) rmX8_leastBrokenBy (va_Pc [.ref (B + 0), .ref (B + q1)] (PU G B cy nT M)) (Qi G B cy nT out.1 out.2) 0 0 (FB B) := by
  refine r_met (by decide +kernel) RX8 rfl (Nat.le_of_ble_eq_true rfl) ?_
  intro p e s m args below meth c ls X hP hl
  have hl : lv_has ls 2 [(0, .ref (B + 0)), (1, .ref (B + q1))] := hl
  have hS : va_S (FB B) s.heap s.heap [] := va_S.rf
  obtain ⟨hx, hb, hr, hml, hown, hts, hKn, hlk⟩ := id X
  unfold f_X8_leastBrokenBy at h
  refine lv_aload_n hx hb dX8_leastBrokenBy_0 rfl (lv_at hl 0 rfl) ?_
  refine gf_X8_58 X hP dX8_leastBrokenBy_1 ?_
  refine lv_aload_n hx hb dX8_leastBrokenBy_4 rfl (lv_at hl 0 rfl) ?_
  refine gf_X8_10 X hP dX8_leastBrokenBy_5 ?_
  refine gf_X8_74 X hP dX8_leastBrokenBy_8 ?_
  obtain ⟨r_1, h_1, h⟩ := bd_el h
  refine cl_v (rn_V (C := RX1) (ci := 1) X hP (c_X1_takeAll isC_113 isC_2 h_1) (kC_0 isC_113) rfl k_446 k_354 k_355 k_3 k_356 rfl hd_X1_takeAll (n := 1) ⟨⟨rfl, rfl⟩, Nat.le_of_ble_eq_true rfl, Nat.le_of_ble_eq_true rfl⟩ (As := [.ref (B + 2)]) (rest := []) rfl hl.1 rfl (Nat.le_of_ble_eq_true rfl) dX8_leastBrokenBy_11 ⟨Nat.zero_le _, Nat.zero_le _⟩) hS (fun H locs hP hS => ?_)
  refine lv_aload_n hx hb dX8_leastBrokenBy_14 rfl (lv_at hl 0 rfl) ?_
  refine gf_X8_58 X hP dX8_leastBrokenBy_15 ?_
  refine lv_aload_n hx hb dX8_leastBrokenBy_18 rfl (lv_at hl 1 rfl) ?_
  refine gf_X8_342 X hP (kA_0 hq1) dX8_leastBrokenBy_19 ?_
  refine lv_aload_n hx hb dX8_leastBrokenBy_22 rfl (lv_at hl 1 rfl) ?_
  refine gf_X8_345 X hP (kA_0 hq1) dX8_leastBrokenBy_23 ?_
  obtain ⟨r_2, h_2, h⟩ := bd_el h
  refine cl_v (rn_V (C := RX1) (ci := 1) X hP (c_X1_takeThose isC_113 (kA_own hq1) h_2) (kC_0 isC_113) rfl k_447 k_448 k_449 k_3 k_450 rfl hd_X1_takeThose (n := 2) ⟨⟨rfl, rfl⟩, Nat.le_of_ble_eq_true rfl, Nat.le_of_ble_eq_true rfl⟩ (As := [.long (gL r_1 q1 8), .ref (B + (q1 + 1))]) (rest := []) rfl hl.1 rfl (Nat.le_of_ble_eq_true rfl) dX8_leastBrokenBy_26 ⟨Nat.zero_le _, Nat.zero_le _⟩) hS (fun H locs hP hS => ?_)
  refine lv_aload_n hx hb dX8_leastBrokenBy_29 rfl (lv_at hl 0 rfl) ?_
  refine gf_X8_26 X hP dX8_leastBrokenBy_30 ?_
  refine lv_aload_n hx hb dX8_leastBrokenBy_33 rfl (lv_at hl 0 rfl) ?_
  refine gf_X8_58 X hP dX8_leastBrokenBy_34 ?_
  obtain ⟨r_3, h_3, h⟩ := bd_el h
  refine cl_i (rn_V (C := RX4) (ci := 4) X hP (c_X4_leastBroken isC_113 h_3) kq_17 rfl k_453 k_454 k_455 k_5 k_456 rfl hd_X4_leastBroken (n := 1) ⟨⟨rfl, rfl⟩, Nat.le_of_ble_eq_true rfl, Nat.le_of_ble_eq_true rfl⟩ (As := [.ref (B + 113)]) (rest := []) rfl hl.1 rfl (Nat.le_of_ble_eq_true rfl) dX8_leastBrokenBy_37 ⟨Nat.zero_le _, Nat.zero_le _⟩) hS (fun H locs hP hS => ?_)
  exact r_iret X hP hS (pr1 h) (pr2 h) dX8_leastBrokenBy_40
abbrev rmX8_whatActTells : Room := { frames := 1, cells := 0, slots := 0, locals := 23 }
def f_X8_whatActTells_69 (q1 : Nat) (M : Mem) (s0 : Int32) (s1 : Int32) : Option (Int64) :=
  some (Int32.toInt64 (s1 - s0))
set_option maxRecDepth 100000 in
set_option maxHeartbeats 4000000 in
theorem w_X8_whatActTells_69 (X : Cx p s m args meth c cX8_whatActTells RX8 9 (some .long) G cy) {q1 : Nat} (hq1 : isA q1) {M : Mem} {out : Int64} {s0 : Int32} {s1 : Int32} (hP : Pic G B cy nT M H) (hS : va_S (FB B) s.heap H locs) (hl : lv_has ls 9 []) (h : f_X8_whatActTells_69 q1 M s0 s1 = some out) : W p l e rmX8_whatActTells s m args below meth c H locs 0 0 (MQ below (Ql G B cy nT out M) args s 0 0 (FB B)) (F0 m 69 ls [.int s0, .int s1]) := by
  obtain ⟨hx, hb, hr, hml, hown, hts, hKn, hlk⟩ := id X
  unfold f_X8_whatActTells_69 at h
  refine lv_isub hx hb dX8_whatActTells_69 ?_
  refine lv_i2l (v := (Int32.toInt64 (s1 - s0))) hx hb dX8_whatActTells_70 rfl ?_
  exact r_lret X hP hS (pr0 h) rfl dX8_whatActTells_71
def f_X8_whatActTells (q1 : Nat) (M : Mem) (a2 : Int32) : Option (Int64) :=
  gd (inR a2 40) <| lt (gL M (q1 + 11) a2.toNatClampNeg) fun v_1 => gd (inR a2 40) <| lt (gI M (q1 + 10) a2.toNatClampNeg) fun v_2 => gd (inR a2 40) <| if (gI M (q1 + 9) a2.toNatClampNeg) = 0 then (some (v_1 + (Int32.toInt64 v_2))) else (gd (inR v_2 40) <| if (gI M (2 + 1) v_2.toNatClampNeg) = 1 then (gd (inR v_2 40) <| lt (gL M (2 + 2) v_2.toNatClampNeg) fun v_3 => Option.bind (f_X8_faultOfPart v_1 v_3) fun r_1 => if r_1 = 0 then (gd (v_3 != 0) <| some (v_1 / v_3)) else (some (Int32.toInt64 ((-1) - r_1)))) else (gd (inR v_2 40) <| if (gI M (2 + 1) v_2.toNatClampNeg) = 0 then (f_X8_whatActTells_69 q1 M 1 (-1)) else (f_X8_whatActTells_69 q1 M 3 (-1))))
set_option maxRecDepth 100000 in
set_option maxHeartbeats 4000000 in
theorem c_X8_whatActTells {l : Launch} {G : va_G} {cy : Nat → ClassId} {B nT : Nat} {q1 : Nat} (hq1 : isA q1) {M : Mem} {a2 : Int32} {out : Int64} (h : f_X8_whatActTells q1 M a2 = some out) : Met l yX8_whatActTells (wsU yX8_whatActTells cX8_whatActTells 9 (some .long)) rmX8_whatActTells (va_Pc [.ref (B + 0), .ref (B + q1), .int a2] (PU G B cy nT M)) (Ql G B cy nT out M) 0 0 (FB B) := by
  refine r_met (by decide +kernel) RX8 rfl (Nat.le_of_ble_eq_true rfl) ?_
  intro p e s m args below meth c ls X hP hl
  have hl : lv_has ls 9 [(0, .ref (B + 0)), (1, .ref (B + q1)), (2, .int a2)] := hl
  have hS : va_S (FB B) s.heap s.heap [] := va_S.rf
  obtain ⟨hx, hb, hr, hml, hown, hts, hKn, hlk⟩ := id X
  unfold f_X8_whatActTells at h
  refine lv_aload_n hx hb dX8_whatActTells_0 rfl (lv_at hl 1 rfl) ?_
  refine gf_X8_375 X hP (kA_0 hq1) dX8_whatActTells_1 ?_
  refine lv_iload_n hx hb dX8_whatActTells_4 rfl (lv_at hl 2 rfl) ?_
  obtain ⟨g_1, h⟩ := gd_el h
  refine r_lald X hP (kA_11 hq1) g_1 dX8_whatActTells_5 ?_
  obtain ⟨v_1, e_1, h⟩ := lt_el h
  refine r_topl e_1 ?_
  refine lv_lstore_n (lv' := [(3, .long v_1), (0, .ref (B + 0)), (1, .ref (B + q1)), (2, .int a2)]) hx hb dX8_whatActTells_6 rfl hl (by decide) rfl (fun ls hl => ?_)
  refine lv_aload_n hx hb dX8_whatActTells_7 rfl (lv_at hl 2 rfl) ?_
  refine gf_X8_378 X hP (kA_0 hq1) dX8_whatActTells_8 ?_
  refine lv_iload_n hx hb dX8_whatActTells_11 rfl (lv_at hl 3 rfl) ?_
  obtain ⟨g_2, h⟩ := gd_el h
  refine r_iald X hP (kA_10 hq1) g_2 dX8_whatActTells_12 ?_
  obtain ⟨v_2, e_2, h⟩ := lt_el h
  refine r_topi e_2 ?_
  refine lv_istore (lv' := [(5, .int v_2), (3, .long v_1), (0, .ref (B + 0)), (1, .ref (B + q1)), (2, .int a2)]) hx hb dX8_whatActTells_13 hl (by decide) rfl (fun ls hl => ?_)
  refine lv_aload_n hx hb dX8_whatActTells_15 rfl (lv_at hl 3 rfl) ?_
  refine gf_X8_365 X hP (kA_0 hq1) dX8_whatActTells_16 ?_
  refine lv_iload_n hx hb dX8_whatActTells_19 rfl (lv_at hl 4 rfl) ?_
  obtain ⟨g_3, h⟩ := gd_el h
  refine r_iald X hP (kA_9 hq1) g_3 dX8_whatActTells_20 ?_
  refine lv_if_ne (tgt := 30) hx hb dX8_whatActTells_21 (by decide) (fun hc => ?_) (fun hc => ?_)
  · replace h := if_eln h hc
    refine lv_aload_n hx hb dX8_whatActTells_30 rfl (lv_at hl 2 rfl) ?_
    refine gf_X8_10 X hP dX8_whatActTells_31 ?_
    refine gf_X8_74 X hP dX8_whatActTells_34 ?_
    refine gf_X8_93 X hP (kC_0 isC_2) dX8_whatActTells_37 ?_
    refine lv_iload hx hb dX8_whatActTells_40 (lv_at hl 0 rfl) ?_
    obtain ⟨g_4, h⟩ := gd_el h
    refine r_iald X hP (kC_1 isC_2) g_4 dX8_whatActTells_42 ?_
    refine lv_iconst (v := 1) hx hb dX8_whatActTells_43 (by decide) ?_
    refine lv_icmp_eq (tgt := 72) hx hb dX8_whatActTells_44 (by decide) (fun hc => ?_) (fun hc => ?_)
    · replace h := if_elp h hc
      refine lv_aload_n hx hb dX8_whatActTells_72 rfl (lv_at hl 2 rfl) ?_
      refine gf_X8_10 X hP dX8_whatActTells_73 ?_
      refine gf_X8_74 X hP dX8_whatActTells_76 ?_
      refine gf_X8_96 X hP (kC_0 isC_2) dX8_whatActTells_79 ?_
      refine lv_iload hx hb dX8_whatActTells_82 (lv_at hl 0 rfl) ?_
      obtain ⟨g_5, h⟩ := gd_el h
      refine r_lald X hP (kC_2 isC_2) g_5 dX8_whatActTells_84 ?_
      obtain ⟨v_3, e_3, h⟩ := lt_el h
      refine r_topl e_3 ?_
      refine lv_lstore (lv' := [(6, .long v_3), (5, .int v_2), (3, .long v_1), (0, .ref (B + 0)), (1, .ref (B + q1)), (2, .int a2)]) hx hb dX8_whatActTells_85 hl (by decide) rfl (fun ls hl => ?_)
      refine lv_lload_n hx hb dX8_whatActTells_87 rfl (lv_at hl 2 rfl) ?_
      refine lv_lload hx hb dX8_whatActTells_88 (lv_at hl 0 rfl) ?_
      obtain ⟨r_1, h_1, h⟩ := bd_el h
      refine cl_i (rn_S X hP (c_X8_faultOfPart h_1) k_481 k_390 k_1 k_391 hd_X8_faultOfPart (n := 2) ⟨⟨rfl, rfl⟩, Nat.le_of_ble_eq_true rfl, Nat.le_of_ble_eq_true rfl⟩ (As := [.long v_1, .long v_3]) (rest := []) rfl hl.1 rfl (Nat.le_of_ble_eq_true rfl) dX8_whatActTells_90 ⟨Nat.zero_le _, Nat.zero_le _⟩) hS (fun H locs hP hS => ?_)
      refine lv_istore (lv' := [(8, .int r_1), (6, .long v_3), (5, .int v_2), (3, .long v_1), (0, .ref (B + 0)), (1, .ref (B + q1)), (2, .int a2)]) hx hb dX8_whatActTells_93 hl (by decide) rfl (fun ls hl => ?_)
      refine lv_iload hx hb dX8_whatActTells_95 (lv_at hl 0 rfl) ?_
      refine lv_if_ne (tgt := 107) hx hb dX8_whatActTells_97 (by decide) (fun hc => ?_) (fun hc => ?_)
      · replace h := if_eln h hc
        refine lv_iconst (v := (-1)) hx hb dX8_whatActTells_107 (by decide) ?_
        refine lv_iload hx hb dX8_whatActTells_108 (lv_at hl 0 rfl) ?_
        refine lv_isub hx hb dX8_whatActTells_110 ?_
        refine lv_i2l (v := (Int32.toInt64 ((-1) - r_1))) hx hb dX8_whatActTells_111 rfl ?_
        exact r_lret X hP hS (pr0 h) rfl dX8_whatActTells_112
      · replace h := if_elp h hc
        refine lv_lload_n hx hb dX8_whatActTells_100 rfl (lv_at hl 3 rfl) ?_
        refine lv_lload hx hb dX8_whatActTells_101 (lv_at hl 1 rfl) ?_
        obtain ⟨g_6, h⟩ := gd_el h
        refine lv_ldiv hx hb dX8_whatActTells_103 (bne_iff_ne.mp g_6) ?_
        refine lv_goto (tgt := 112) hx hb dX8_whatActTells_104 (by decide) ?_
        exact r_lret X hP hS (pr0 h) rfl dX8_whatActTells_112
    · replace h := if_eln h hc
      refine lv_iconst (v := (-1)) hx hb dX8_whatActTells_47 (by decide) ?_
      refine lv_aload_n hx hb dX8_whatActTells_48 rfl (lv_at hl 2 rfl) ?_
      refine gf_X8_10 X hP dX8_whatActTells_49 ?_
      refine gf_X8_74 X hP dX8_whatActTells_52 ?_
      refine gf_X8_93 X hP (kC_0 isC_2) dX8_whatActTells_55 ?_
      refine lv_iload hx hb dX8_whatActTells_58 (lv_at hl 0 rfl) ?_
      obtain ⟨g_7, h⟩ := gd_el h
      refine r_iald X hP (kC_1 isC_2) g_7 dX8_whatActTells_60 ?_
      refine lv_if_ne (tgt := 68) hx hb dX8_whatActTells_61 (by decide) (fun hc => ?_) (fun hc => ?_)
      · replace h := if_eln h hc
        refine lv_iconst (v := 3) hx hb dX8_whatActTells_68 (by decide) ?_
        exact w_X8_whatActTells_69 X hq1 hP hS (lv_sub hl [] rfl) h
      · replace h := if_elp h hc
        refine lv_iconst (v := 1) hx hb dX8_whatActTells_64 (by decide) ?_
        refine lv_goto (tgt := 69) hx hb dX8_whatActTells_65 (by decide) ?_
        exact w_X8_whatActTells_69 X hq1 hP hS (lv_sub hl [] rfl) h
  · replace h := if_elp h hc
    refine lv_lload_n hx hb dX8_whatActTells_24 rfl (lv_at hl 1 rfl) ?_
    refine lv_iload hx hb dX8_whatActTells_25 (lv_at hl 0 rfl) ?_
    refine lv_i2l (v := (Int32.toInt64 v_2)) hx hb dX8_whatActTells_27 rfl ?_
    refine lv_ladd hx hb dX8_whatActTells_28 ?_
    exact r_lret X hP hS (pr0 h) rfl dX8_whatActTells_29
abbrev rmX8_takeEffect : Room := { frames := 3, cells := 0, slots := 0, locals := 81 }
def f_X8_takeEffect_56 (nT : Nat) (q1 : Nat) (q2 : Nat) : Nat → Mem → Int32 → Option (Mem)
  | 0, _, _ => none
  | n + 1, M, v3 => if (gI M q2 15) ≤ v3 then (Option.bind (f_X8_wake nT M (gL M q2 8) (gI M q2 3)) fun r_1 => some r_1) else (gd (inR v3 40) <| Option.bind (f_X8_whatActTells q2 M v3) fun r_2 => Option.bind (f_X3_append M (gI M q2 3) (gI M (q2 + 9) v3.toNatClampNeg) r_2) fun r_3 => lt (v3 + 1) fun v_1 => (f_X8_takeEffect_56 nT q1 q2 n) r_3 v_1)
set_option maxRecDepth 100000 in
set_option maxHeartbeats 4000000 in
theorem w_X8_takeEffect_56 (X : Cx p s m args meth c cX8_takeEffect RX8 4 none G cy) {q1 : Nat} (hq1 : okT nT q1) {q2 : Nat} (hq2 : isA q2) {out : Mem} : ∀ n : Nat, ∀ (H : Heap) (locs : List Loc) (ls : Array Slot) (M : Mem) (v3 : Int32), Pic G B cy nT M H → va_S (FB B) s.heap H locs → lv_has ls 4 [(0, .ref (B + 0)), (2, .ref (B + q2)), (3, .int v3)] → f_X8_takeEffect_56 nT q1 q2 n M v3 = some out → W p l e rmX8_takeEffect s m args below meth c H locs 0 0 (MQ below (Qv G B cy nT out) args s 0 0 (FB B)) (F0 m 56 ls []) := by
  obtain ⟨hx, hb, hr, hml, hown, hts, hKn, hlk⟩ := id X
  intro n
  induction n with
  | zero =>
    intro H locs ls M v3 hP hS hl h
    cases h
  | succ n ih =>
    intro H locs ls M v3 hP hS hl h
    rw [f_X8_takeEffect_56] at h
    refine lv_iload_n hx hb dX8_takeEffect_56 rfl (lv_at hl 2 rfl) ?_
    refine lv_aload_n hx hb dX8_takeEffect_57 rfl (lv_at hl 1 rfl) ?_
    refine gf_X8_362 X hP (kA_0 hq2) dX8_takeEffect_58 ?_
    refine lv_icmp_ge (tgt := 93) hx hb dX8_takeEffect_61 (by decide) (fun hc => ?_) (fun hc => ?_)
    · replace h := if_elp h hc
      refine lv_aload_n hx hb dX8_takeEffect_93 rfl (lv_at hl 0 rfl) ?_
      refine lv_aload_n hx hb dX8_takeEffect_94 rfl (lv_at hl 1 rfl) ?_
      refine gf_X8_342 X hP (kA_0 hq2) dX8_takeEffect_95 ?_
      refine lv_aload_n hx hb dX8_takeEffect_98 rfl (lv_at hl 1 rfl) ?_
      refine gf_X8_301 X hP (kA_0 hq2) dX8_takeEffect_99 ?_
      obtain ⟨r_1, h_1, h⟩ := bd_el h
      refine cl_v (rn_V (C := RX8) (ci := 8) X hP (c_X8_wake h_1) kq_0 rfl k_197 k_198 k_876 k_1 k_199 rfl hd_X8_wake (n := 2) ⟨⟨rfl, rfl⟩, Nat.le_of_ble_eq_true rfl, Nat.le_of_ble_eq_true rfl⟩ (As := [.long (gL M q2 8), .int (gI M q2 3)]) (rest := []) rfl hl.1 rfl (Nat.le_of_ble_eq_true rfl) dX8_takeEffect_102 ⟨Nat.zero_le _, Nat.zero_le _⟩) hS (fun H locs hP hS => ?_)
      exact r_vret X hP hS (pr0 h) dX8_takeEffect_105
    · replace h := if_eln h hc
      refine lv_aload_n hx hb dX8_takeEffect_64 rfl (lv_at hl 0 rfl) ?_
      refine gf_X8_33 X hP dX8_takeEffect_65 ?_
      refine lv_aload_n hx hb dX8_takeEffect_68 rfl (lv_at hl 1 rfl) ?_
      refine gf_X8_301 X hP (kA_0 hq2) dX8_takeEffect_69 ?_
      refine lv_aload_n hx hb dX8_takeEffect_72 rfl (lv_at hl 1 rfl) ?_
      refine gf_X8_365 X hP (kA_0 hq2) dX8_takeEffect_73 ?_
      refine lv_iload_n hx hb dX8_takeEffect_76 rfl (lv_at hl 2 rfl) ?_
      obtain ⟨g_1, h⟩ := gd_el h
      refine r_iald X hP (kA_9 hq2) g_1 dX8_takeEffect_77 ?_
      refine lv_aload_n hx hb dX8_takeEffect_78 rfl (lv_at hl 0 rfl) ?_
      refine lv_aload_n hx hb dX8_takeEffect_79 rfl (lv_at hl 1 rfl) ?_
      refine lv_iload_n hx hb dX8_takeEffect_80 rfl (lv_at hl 2 rfl) ?_
      obtain ⟨r_2, h_2, h⟩ := bd_el h
      refine cl_l (rn_V (C := RX8) (ci := 8) X hP (c_X8_whatActTells hq2 h_2) kq_0 rfl k_478 k_479 k_903 k_1 k_480 rfl hd_X8_whatActTells (n := 2) ⟨⟨rfl, rfl⟩, Nat.le_of_ble_eq_true rfl, Nat.le_of_ble_eq_true rfl⟩ (As := [.ref (B + q2), .int v3]) (rest := [.int (gI M (q2 + 9) v3.toNatClampNeg), .int (gI M q2 3), .ref (B + 22)]) rfl hl.1 rfl (Nat.le_of_ble_eq_true rfl) dX8_takeEffect_81 ⟨Nat.zero_le _, Nat.zero_le _⟩) hS (fun H locs hP hS => ?_)
      obtain ⟨r_3, h_3, h⟩ := bd_el h
      refine cl_v (rn_V (C := RX3) (ci := 3) X hP (c_X3_append h_3) kq_22 rfl k_482 k_483 k_484 k_6 k_485 rfl hd_X3_append (n := 3) ⟨⟨rfl, rfl⟩, Nat.le_of_ble_eq_true rfl, Nat.le_of_ble_eq_true rfl⟩ (As := [.int (gI M q2 3), .int (gI M (q2 + 9) v3.toNatClampNeg), .long r_2]) (rest := []) rfl hl.1 rfl (Nat.le_of_ble_eq_true rfl) dX8_takeEffect_84 ⟨Nat.zero_le _, Nat.zero_le _⟩) hS (fun H locs hP hS => ?_)
      obtain ⟨v_1, e_1, h⟩ := lt_el h
      refine lv_iinc (v := v_1) (lv' := [(3, .int v_1), (0, .ref (B + 0)), (2, .ref (B + q2))]) hx hb dX8_takeEffect_87 hl (k := 2) rfl (by rw [e_1]; rfl) (by decide) rfl (fun ls hl => ?_)
      refine lv_goto (tgt := 56) hx hb dX8_takeEffect_90 (by decide) ?_
      exact ih _ _ _ _ _ hP hS (lv_sub hl [1, 2, 0] rfl) h
def f_X8_takeEffect (nT : Nat) (q1 : Nat) (q2 : Nat) (M : Mem) : Option (Mem) :=
  lt (sI M q1 1 1) fun M_1 => Option.bind (f_X6_keepAnswers q1 q2 M_1) fun r_1 => gd (inR (gI r_1 0 9) 20) <| lt (sI r_1 118 (gI r_1 0 9).toNatClampNeg (gI r_1 q2 3)) fun M_2 => lt (sI M_2 0 9 ((gI M_2 0 9) + 1)) fun M_3 => Option.bind (f_X5_takeWritten q2 M_3) fun r_2 => lt (sL r_2 0 13 ((gL r_2 0 13) ||| (gL r_2 q2 8))) fun M_4 => f_X8_takeEffect_56 nT q1 q2 FU M_4 0
set_option maxRecDepth 100000 in
set_option maxHeartbeats 4000000 in
theorem c_X8_takeEffect {l : Launch} {G : va_G} {cy : Nat → ClassId} {B nT : Nat} {q1 : Nat} (hq1 : okT nT q1) {q2 : Nat} (hq2 : isA q2) {M : Mem} {out : Mem} (h : f_X8_takeEffect nT q1 q2 M = some out) : Met l yX8_takeEffect (wsU yX8_takeEffect cX8_takeEffect 4 none) rmX8_takeEffect (va_Pc [.ref (B + 0), .ref (B + q1), .ref (B + q2)] (PU G B cy nT M)) (Qv G B cy nT out) 0 0 (FB B) := by
  refine r_met (by decide +kernel) RX8 rfl (Nat.le_of_ble_eq_true rfl) ?_
  intro p e s m args below meth c ls X hP hl
  have hl : lv_has ls 4 [(0, .ref (B + 0)), (1, .ref (B + q1)), (2, .ref (B + q2))] := hl
  have hS : va_S (FB B) s.heap s.heap [] := va_S.rf
  obtain ⟨hx, hb, hr, hml, hown, hts, hKn, hlk⟩ := id X
  unfold f_X8_takeEffect at h
  refine lv_aload_n hx hb dX8_takeEffect_0 rfl (lv_at hl 1 rfl) ?_
  refine lv_iconst (v := 1) hx hb dX8_takeEffect_1 (by decide) ?_
  obtain ⟨M_1, e_1, h⟩ := lt_el h
  refine pf_X8_167 X hP hS (kT_0 hq1) e_1 dX8_takeEffect_2 (fun H locs hP hS => ?_)
  refine lv_aload_n hx hb dX8_takeEffect_5 rfl (lv_at hl 1 rfl) ?_
  refine lv_aload_n hx hb dX8_takeEffect_6 rfl (lv_at hl 2 rfl) ?_
  obtain ⟨r_1, h_1, h⟩ := bd_el h
  refine cl_v (rn_V (C := RX6) (ci := 6) X hP (c_X6_keepAnswers hq1 hq2 h_1) (kT_0 hq1) rfl k_465 k_466 k_467 k_10 k_468 rfl hd_X6_keepAnswers (n := 1) ⟨⟨rfl, rfl⟩, Nat.le_of_ble_eq_true rfl, Nat.le_of_ble_eq_true rfl⟩ (As := [.ref (B + q2)]) (rest := []) rfl hl.1 rfl (Nat.le_of_ble_eq_true rfl) dX8_takeEffect_7 ⟨Nat.zero_le _, Nat.zero_le _⟩) hS (fun H locs hP hS => ?_)
  refine lv_aload_n hx hb dX8_takeEffect_10 rfl (lv_at hl 0 rfl) ?_
  refine gf_X8_62 X hP dX8_takeEffect_11 ?_
  refine lv_aload_n hx hb dX8_takeEffect_14 rfl (lv_at hl 0 rfl) ?_
  refine gf_X8_233 X hP dX8_takeEffect_15 ?_
  refine lv_aload_n hx hb dX8_takeEffect_18 rfl (lv_at hl 2 rfl) ?_
  refine gf_X8_301 X hP (kA_0 hq2) dX8_takeEffect_19 ?_
  obtain ⟨g_1, h⟩ := gd_el h
  obtain ⟨M_2, e_2, h⟩ := lt_el h
  refine r_iast X hP hS kq_118 g_1 e_2 dX8_takeEffect_22 (fun H locs hP hS => ?_)
  refine lv_aload_n hx hb dX8_takeEffect_23 rfl (lv_at hl 0 rfl) ?_
  refine lv_dup hx hb dX8_takeEffect_24 rfl ?_
  refine gf_X8_233 X hP dX8_takeEffect_25 ?_
  refine lv_iconst (v := 1) hx hb dX8_takeEffect_28 (by decide) ?_
  refine lv_iadd hx hb dX8_takeEffect_29 ?_
  obtain ⟨M_3, e_3, h⟩ := lt_el h
  refine pf_X8_233 X hP hS e_3 dX8_takeEffect_30 (fun H locs hP hS => ?_)
  refine lv_aload_n hx hb dX8_takeEffect_33 rfl (lv_at hl 0 rfl) ?_
  refine gf_X8_10 X hP dX8_takeEffect_34 ?_
  refine lv_aload_n hx hb dX8_takeEffect_37 rfl (lv_at hl 2 rfl) ?_
  obtain ⟨r_2, h_2, h⟩ := bd_el h
  refine cl_v (rn_V (C := RX5) (ci := 5) X hP (c_X5_takeWritten hq2 h_2) kq_1 rfl k_469 k_470 k_471 k_2 k_472 rfl hd_X5_takeWritten (n := 1) ⟨⟨rfl, rfl⟩, Nat.le_of_ble_eq_true rfl, Nat.le_of_ble_eq_true rfl⟩ (As := [.ref (B + q2)]) (rest := []) rfl hl.1 rfl (Nat.le_of_ble_eq_true rfl) dX8_takeEffect_38 ⟨Nat.zero_le _, Nat.zero_le _⟩) hS (fun H locs hP hS => ?_)
  refine lv_aload_n hx hb dX8_takeEffect_41 rfl (lv_at hl 0 rfl) ?_
  refine lv_dup hx hb dX8_takeEffect_42 rfl ?_
  refine gf_X8_295 X hP dX8_takeEffect_43 ?_
  refine lv_aload_n hx hb dX8_takeEffect_46 rfl (lv_at hl 2 rfl) ?_
  refine gf_X8_342 X hP (kA_0 hq2) dX8_takeEffect_47 ?_
  refine lv_lor hx hb dX8_takeEffect_50 ?_
  obtain ⟨M_4, e_4, h⟩ := lt_el h
  refine pf_X8_295 X hP hS e_4 dX8_takeEffect_51 (fun H locs hP hS => ?_)
  refine lv_iconst (v := 0) hx hb dX8_takeEffect_54 (by decide) ?_
  refine lv_istore_n (lv' := [(3, .int 0), (0, .ref (B + 0)), (1, .ref (B + q1)), (2, .ref (B + q2))]) hx hb dX8_takeEffect_55 rfl hl (by decide) rfl (fun ls hl => ?_)
  exact w_X8_takeEffect_56 X hq1 hq2 FU _ _ _ _ _ hP hS (lv_sub hl [1, 3, 0] rfl) h
abbrev rmX8_endTurn : Room := { frames := 4, cells := 0, slots := 0, locals := 104 }
def f_X8_endTurn_72 (nT : Nat) (q1 : Nat) (q2 : Nat) (M : Mem) (s0 : Int32) : Option (Mem) :=
  lt (sI M q1 5 s0) fun M_1 => some M_1
set_option maxRecDepth 100000 in
set_option maxHeartbeats 4000000 in
theorem w_X8_endTurn_72 (X : Cx p s m args meth c cX8_endTurn RX8 3 none G cy) {q1 : Nat} (hq1 : okT nT q1) {q2 : Nat} (hq2 : isA q2) {out : Mem} {M : Mem} {s0 : Int32} (hP : Pic G B cy nT M H) (hS : va_S (FB B) s.heap H locs) (hl : lv_has ls 3 []) (h : f_X8_endTurn_72 nT q1 q2 M s0 = some out) : W p l e rmX8_endTurn s m args below meth c H locs 0 0 (MQ below (Qv G B cy nT out) args s 0 0 (FB B)) (F0 m 72 ls [.int s0, .ref (B + q1)]) := by
  obtain ⟨hx, hb, hr, hml, hown, hts, hKn, hlk⟩ := id X
  unfold f_X8_endTurn_72 at h
  obtain ⟨M_1, e_1, h⟩ := lt_el h
  refine pf_X8_179 X hP hS (kT_0 hq1) e_1 dX8_endTurn_72 (fun H locs hP hS => ?_)
  refine lv_goto (tgt := 109) hx hb dX8_endTurn_75 (by decide) ?_
  exact r_vret X hP hS (pr0 h) dX8_endTurn_109
def f_X8_endTurn_28 (nT : Nat) (q1 : Nat) (q2 : Nat) (M : Mem) (s0 : Int32) : Option (Mem) :=
  lt (sI M q1 1 s0) fun M_1 => some M_1
set_option maxRecDepth 100000 in
set_option maxHeartbeats 4000000 in
theorem w_X8_endTurn_28 (X : Cx p s m args meth c cX8_endTurn RX8 3 none G cy) {q1 : Nat} (hq1 : okT nT q1) {q2 : Nat} (hq2 : isA q2) {out : Mem} {M : Mem} {s0 : Int32} (hP : Pic G B cy nT M H) (hS : va_S (FB B) s.heap H locs) (hl : lv_has ls 3 []) (h : f_X8_endTurn_28 nT q1 q2 M s0 = some out) : W p l e rmX8_endTurn s m args below meth c H locs 0 0 (MQ below (Qv G B cy nT out) args s 0 0 (FB B)) (F0 m 28 ls [.int s0, .ref (B + q1)]) := by
  obtain ⟨hx, hb, hr, hml, hown, hts, hKn, hlk⟩ := id X
  unfold f_X8_endTurn_28 at h
  obtain ⟨M_1, e_1, h⟩ := lt_el h
  refine pf_X8_167 X hP hS (kT_0 hq1) e_1 dX8_endTurn_28 (fun H locs hP hS => ?_)
  refine lv_goto (tgt := 109) hx hb dX8_endTurn_31 (by decide) ?_
  exact r_vret X hP hS (pr0 h) dX8_endTurn_109
def f_X8_endTurn (nT : Nat) (q1 : Nat) (q2 : Nat) (M : Mem) : Option (Mem) :=
  Option.bind (f_X6_keepTry q1 q2 M) fun r_1 => if (gI r_1 q2 4) = 11 then (if (gI r_1 q1 2) < 5 then (f_X8_endTurn_28 nT q1 q2 r_1 3) else (f_X8_endTurn_28 nT q1 q2 r_1 5)) else (if (gI r_1 q2 4) = 0 then (Option.bind (f_X8_leastBrokenBy q2 r_1) fun r_2 => lt (sI r_2.2 q1 6 r_2.1) fun M_1 => if (gI M_1 q1 6) = (-1) then (Option.bind (f_X8_takeEffect nT q1 q2 M_1) fun r_3 => some r_3) else (lt (sI M_1 q1 1 4) fun M_2 => some M_2)) else (lt (sI r_1 q1 1 2) fun M_3 => lt (sI M_3 q1 4 (gI M_3 q2 4)) fun M_4 => if (gI M_4 q2 4) = 8 then (f_X8_endTurn_72 nT q1 q2 M_4 (gI M_4 q2 9)) else (f_X8_endTurn_72 nT q1 q2 M_4 0)))
set_option maxRecDepth 100000 in
set_option maxHeartbeats 4000000 in
theorem c_X8_endTurn {l : Launch} {G : va_G} {cy : Nat → ClassId} {B nT : Nat} {q1 : Nat} (hq1 : okT nT q1) {q2 : Nat} (hq2 : isA q2) {M : Mem} {out : Mem} (h : f_X8_endTurn nT q1 q2 M = some out) : Met l yX8_endTurn (wsU yX8_endTurn cX8_endTurn 3 none) rmX8_endTurn (va_Pc [.ref (B + 0), .ref (B + q1), .ref (B + q2)] (PU G B cy nT M)) (Qv G B cy nT out) 0 0 (FB B) := by
  refine r_met (by decide +kernel) RX8 rfl (Nat.le_of_ble_eq_true rfl) ?_
  intro p e s m args below meth c ls X hP hl
  have hl : lv_has ls 3 [(0, .ref (B + 0)), (1, .ref (B + q1)), (2, .ref (B + q2))] := hl
  have hS : va_S (FB B) s.heap s.heap [] := va_S.rf
  obtain ⟨hx, hb, hr, hml, hown, hts, hKn, hlk⟩ := id X
  unfold f_X8_endTurn at h
  refine lv_aload_n hx hb dX8_endTurn_0 rfl (lv_at hl 1 rfl) ?_
  refine lv_aload_n hx hb dX8_endTurn_1 rfl (lv_at hl 2 rfl) ?_
  obtain ⟨r_1, h_1, h⟩ := bd_el h
  refine cl_v (rn_V (C := RX6) (ci := 6) X hP (c_X6_keepTry hq1 hq2 h_1) (kT_0 hq1) rfl k_432 k_433 k_434 k_10 k_435 rfl hd_X6_keepTry (n := 1) ⟨⟨rfl, rfl⟩, Nat.le_of_ble_eq_true rfl, Nat.le_of_ble_eq_true rfl⟩ (As := [.ref (B + q2)]) (rest := []) rfl hl.1 rfl (Nat.le_of_ble_eq_true rfl) dX8_endTurn_2 ⟨Nat.zero_le _, Nat.zero_le _⟩) hS (fun H locs hP hS => ?_)
  refine lv_aload_n hx hb dX8_endTurn_5 rfl (lv_at hl 2 rfl) ?_
  refine gf_X8_317 X hP (kA_0 hq2) dX8_endTurn_6 ?_
  refine lv_bipush (v := 11) hx hb dX8_endTurn_9 (by decide) ?_
  refine lv_icmp_ne (tgt := 34) hx hb dX8_endTurn_11 (by decide) (fun hc => ?_) (fun hc => ?_)
  · replace h := if_eln h hc
    refine lv_aload_n hx hb dX8_endTurn_34 rfl (lv_at hl 2 rfl) ?_
    refine gf_X8_317 X hP (kA_0 hq2) dX8_endTurn_35 ?_
    refine lv_if_eq (tgt := 78) hx hb dX8_endTurn_38 (by decide) (fun hc => ?_) (fun hc => ?_)
    · replace h := if_elp h hc
      refine lv_aload_n hx hb dX8_endTurn_78 rfl (lv_at hl 1 rfl) ?_
      refine lv_aload_n hx hb dX8_endTurn_79 rfl (lv_at hl 0 rfl) ?_
      refine lv_aload_n hx hb dX8_endTurn_80 rfl (lv_at hl 2 rfl) ?_
      obtain ⟨r_2, h_2, h⟩ := bd_el h
      refine cl_i (rn_V (C := RX8) (ci := 8) X hP (c_X8_leastBrokenBy hq2 h_2) kq_0 rfl k_443 k_444 k_899 k_1 k_445 rfl hd_X8_leastBrokenBy (n := 1) ⟨⟨rfl, rfl⟩, Nat.le_of_ble_eq_true rfl, Nat.le_of_ble_eq_true rfl⟩ (As := [.ref (B + q2)]) (rest := [.ref (B + q1)]) rfl hl.1 rfl (Nat.le_of_ble_eq_true rfl) dX8_endTurn_81 ⟨Nat.zero_le _, Nat.zero_le _⟩) hS (fun H locs hP hS => ?_)
      obtain ⟨M_1, e_1, h⟩ := lt_el h
      refine pf_X8_182 X hP hS (kT_0 hq1) e_1 dX8_endTurn_84 (fun H locs hP hS => ?_)
      refine lv_aload_n hx hb dX8_endTurn_87 rfl (lv_at hl 1 rfl) ?_
      refine gf_X8_182 X hP (kT_0 hq1) dX8_endTurn_88 ?_
      refine lv_iconst (v := (-1)) hx hb dX8_endTurn_91 (by decide) ?_
      refine lv_icmp_ne (tgt := 104) hx hb dX8_endTurn_92 (by decide) (fun hc => ?_) (fun hc => ?_)
      · replace h := if_eln h hc
        refine lv_aload_n hx hb dX8_endTurn_104 rfl (lv_at hl 1 rfl) ?_
        refine lv_iconst (v := 4) hx hb dX8_endTurn_105 (by decide) ?_
        obtain ⟨M_2, e_2, h⟩ := lt_el h
        refine pf_X8_167 X hP hS (kT_0 hq1) e_2 dX8_endTurn_106 (fun H locs hP hS => ?_)
        exact r_vret X hP hS (pr0 h) dX8_endTurn_109
      · replace h := if_elp h hc
        refine lv_aload_n hx hb dX8_endTurn_95 rfl (lv_at hl 0 rfl) ?_
        refine lv_aload_n hx hb dX8_endTurn_96 rfl (lv_at hl 1 rfl) ?_
        refine lv_aload_n hx hb dX8_endTurn_97 rfl (lv_at hl 2 rfl) ?_
        obtain ⟨r_3, h_3, h⟩ := bd_el h
        refine cl_v (rn_V (C := RX8) (ci := 8) X hP (c_X8_takeEffect hq1 hq2 h_3) kq_0 rfl k_462 k_463 k_901 k_1 k_464 rfl hd_X8_takeEffect (n := 2) ⟨⟨rfl, rfl⟩, Nat.le_of_ble_eq_true rfl, Nat.le_of_ble_eq_true rfl⟩ (As := [.ref (B + q1), .ref (B + q2)]) (rest := []) rfl hl.1 rfl (Nat.le_of_ble_eq_true rfl) dX8_endTurn_98 ⟨Nat.zero_le _, Nat.zero_le _⟩) hS (fun H locs hP hS => ?_)
        refine lv_goto (tgt := 109) hx hb dX8_endTurn_101 (by decide) ?_
        exact r_vret X hP hS (pr0 h) dX8_endTurn_109
    · replace h := if_eln h hc
      refine lv_aload_n hx hb dX8_endTurn_41 rfl (lv_at hl 1 rfl) ?_
      refine lv_iconst (v := 2) hx hb dX8_endTurn_42 (by decide) ?_
      obtain ⟨M_3, e_3, h⟩ := lt_el h
      refine pf_X8_167 X hP hS (kT_0 hq1) e_3 dX8_endTurn_43 (fun H locs hP hS => ?_)
      refine lv_aload_n hx hb dX8_endTurn_46 rfl (lv_at hl 1 rfl) ?_
      refine lv_aload_n hx hb dX8_endTurn_47 rfl (lv_at hl 2 rfl) ?_
      refine gf_X8_317 X hP (kA_0 hq2) dX8_endTurn_48 ?_
      obtain ⟨M_4, e_4, h⟩ := lt_el h
      refine pf_X8_176 X hP hS (kT_0 hq1) e_4 dX8_endTurn_51 (fun H locs hP hS => ?_)
      refine lv_aload_n hx hb dX8_endTurn_54 rfl (lv_at hl 1 rfl) ?_
      refine lv_aload_n hx hb dX8_endTurn_55 rfl (lv_at hl 2 rfl) ?_
      refine gf_X8_317 X hP (kA_0 hq2) dX8_endTurn_56 ?_
      refine lv_bipush (v := 8) hx hb dX8_endTurn_59 (by decide) ?_
      refine lv_icmp_ne (tgt := 71) hx hb dX8_endTurn_61 (by decide) (fun hc => ?_) (fun hc => ?_)
      · replace h := if_eln h hc
        refine lv_iconst (v := 0) hx hb dX8_endTurn_71 (by decide) ?_
        exact w_X8_endTurn_72 X hq1 hq2 hP hS (lv_sub hl [] rfl) h
      · replace h := if_elp h hc
        refine lv_aload_n hx hb dX8_endTurn_64 rfl (lv_at hl 2 rfl) ?_
        refine gf_X8_331 X hP (kA_0 hq2) dX8_endTurn_65 ?_
        refine lv_goto (tgt := 72) hx hb dX8_endTurn_68 (by decide) ?_
        exact w_X8_endTurn_72 X hq1 hq2 hP hS (lv_sub hl [] rfl) h
  · replace h := if_elp h hc
    refine lv_aload_n hx hb dX8_endTurn_14 rfl (lv_at hl 1 rfl) ?_
    refine lv_aload_n hx hb dX8_endTurn_15 rfl (lv_at hl 1 rfl) ?_
    refine gf_X8_173 X hP (kT_0 hq1) dX8_endTurn_16 ?_
    refine lv_iconst (v := 5) hx hb dX8_endTurn_19 (by decide) ?_
    refine lv_icmp_lt (tgt := 27) hx hb dX8_endTurn_20 (by decide) (fun hc => ?_) (fun hc => ?_)
    · replace h := if_elp h hc
      refine lv_iconst (v := 3) hx hb dX8_endTurn_27 (by decide) ?_
      exact w_X8_endTurn_28 X hq1 hq2 hP hS (lv_sub hl [] rfl) h
    · replace h := if_eln h hc
      refine lv_iconst (v := 5) hx hb dX8_endTurn_23 (by decide) ?_
      refine lv_goto (tgt := 28) hx hb dX8_endTurn_24 (by decide) ?_
      exact w_X8_endTurn_28 X hq1 hq2 hP hS (lv_sub hl [] rfl) h
abbrev rmX8_isTicket : Room := { frames := 0, cells := 0, slots := 0, locals := 0 }
def f_X8_isTicket (M : Mem) (a1 : Int32) : Option (Bool) :=
  if a1 < 0 then (some false) else (if (gI M 0 8) ≤ a1 then (some false) else (some true))
set_option maxRecDepth 100000 in
set_option maxHeartbeats 4000000 in
theorem c_X8_isTicket {l : Launch} {G : va_G} {cy : Nat → ClassId} {B nT : Nat} {M : Mem} {a1 : Int32} {out : Bool} (h : f_X8_isTicket M a1 = some out) : Met l yX8_isTicket (wsU yX8_isTicket cX8_isTicket 2 (some .boolean)) rmX8_isTicket (va_Pc [.ref (B + 0), .int a1] (PU G B cy nT M)) (Qi G B cy nT (bI out) M) 0 0 (FB B) := by
  refine r_met (by decide +kernel) RX8 rfl (Nat.le_of_ble_eq_true rfl) ?_
  intro p e s m args below meth c ls X hP hl
  have hl : lv_has ls 2 [(0, .ref (B + 0)), (1, .int a1)] := hl
  have hS : va_S (FB B) s.heap s.heap [] := va_S.rf
  obtain ⟨hx, hb, hr, hml, hown, hts, hKn, hlk⟩ := id X
  unfold f_X8_isTicket at h
  refine lv_iload_n hx hb dX8_isTicket_0 rfl (lv_at hl 1 rfl) ?_
  refine lv_if_lt (tgt := 16) hx hb dX8_isTicket_1 (by decide) (fun hc => ?_) (fun hc => ?_)
  · replace h := if_elp h hc
    refine lv_iconst (v := 0) hx hb dX8_isTicket_16 (by decide) ?_
    exact r_zret X hP hS rfl (prz h) rfl dX8_isTicket_17
  · replace h := if_eln h hc
    refine lv_iload_n hx hb dX8_isTicket_4 rfl (lv_at hl 1 rfl) ?_
    refine lv_aload_n hx hb dX8_isTicket_5 rfl (lv_at hl 0 rfl) ?_
    refine gf_X8_151 X hP dX8_isTicket_6 ?_
    refine lv_icmp_ge (tgt := 16) hx hb dX8_isTicket_9 (by decide) (fun hc => ?_) (fun hc => ?_)
    · replace h := if_elp h hc
      refine lv_iconst (v := 0) hx hb dX8_isTicket_16 (by decide) ?_
      exact r_zret X hP hS rfl (prz h) rfl dX8_isTicket_17
    · replace h := if_eln h hc
      refine lv_iconst (v := 1) hx hb dX8_isTicket_12 (by decide) ?_
      refine lv_goto (tgt := 17) hx hb dX8_isTicket_13 (by decide) ?_
      exact r_zret X hP hS rfl (prz h) rfl dX8_isTicket_17
end METHS

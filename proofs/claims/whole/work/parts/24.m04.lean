section METHS
variable {p : Program} {l : Launch} {e : Env} {s : State} {m : MethodId} {args : Array Value} {below : List Frame} {meth : Method} {c : Code} {H : Heap} {locs : List Loc} {G : va_G} {cy : Nat → ClassId} {B nT : Nat} {ls : Array Slot}
abbrev rmX8_ticket : Room := { frames := 1, cells := 0, slots := 0, locals := 21 }
def f_X8_ticket (nT : Nat) (M : Mem) (a1 : Int32) (a2 : Int32) : Option (Int32) :=
  Option.bind (f_X8_isTicket M a1) fun r_1 => if (bI r_1) = 0 then (some (-2)) else (gd (inR a1 20) <| gd (decide (a1.toNatClampNeg < nT)) <| if a2 = 0 then (some (gI M (189 + 4 * a1.toNatClampNeg) 1)) else if a2 = 1 then (some (gI M (189 + 4 * a1.toNatClampNeg) 0)) else if a2 = 2 then (some (gI M (189 + 4 * a1.toNatClampNeg) 2)) else if a2 = 3 then (some (gI M (189 + 4 * a1.toNatClampNeg) 4)) else if a2 = 4 then (some (gI M (189 + 4 * a1.toNatClampNeg) 5)) else if a2 = 5 then (some (gI M (189 + 4 * a1.toNatClampNeg) 6)) else if a2 = 6 then (some (gI M (189 + 4 * a1.toNatClampNeg) 3)) else some (-2))
set_option maxRecDepth 100000 in
set_option maxHeartbeats 4000000 in
theorem c_X8_ticket {l : Launch} {G : va_G} {cy : Nat → ClassId} {B nT : Nat} {M : Mem} {a1 : Int32} {a2 : Int32} {out : Int32} (h : f_X8_ticket nT M a1 a2 = some out) : Met l yX8_ticket (wsU yX8_ticket cX8_ticket 4 (some .int)) rmX8_ticket (va_Pc [.ref (B + 0), .int a1, .int a2] (PU G B cy nT M)) (Qi G B cy nT out M) 0 0 (FB B) := by
  refine r_met (by decide +kernel) RX8 rfl (Nat.le_of_ble_eq_true rfl) ?_
  intro p e s m args below meth c ls X hP hl
  have hl : lv_has ls 4 [(0, .ref (B + 0)), (1, .int a1), (2, .int a2)] := hl
  have hS : va_S (FB B) s.heap s.heap [] := va_S.rf
  obtain ⟨hx, hb, hr, hml, hown, hts, hKn, hlk⟩ := id X
  unfold f_X8_ticket at h
  refine lv_aload_n hx hb dX8_ticket_0 rfl (lv_at hl 0 rfl) ?_
  refine lv_iload_n hx hb dX8_ticket_1 rfl (lv_at hl 1 rfl) ?_
  obtain ⟨r_1, h_1, h⟩ := bd_el h
  refine cl_i (rn_V (C := RX8) (ci := 8) X hP (c_X8_isTicket h_1) kq_0 rfl k_490 k_491 k_904 k_1 k_492 rfl hd_X8_isTicket (n := 1) ⟨⟨rfl, rfl⟩, Nat.le_of_ble_eq_true rfl, Nat.le_of_ble_eq_true rfl⟩ (As := [.int a1]) (rest := []) rfl hl.1 rfl (Nat.le_of_ble_eq_true rfl) dX8_ticket_2 ⟨Nat.zero_le _, Nat.zero_le _⟩) hS (fun H locs hP hS => ?_)
  refine lv_if_ne (tgt := 11) hx hb dX8_ticket_5 (by decide) (fun hc => ?_) (fun hc => ?_)
  · replace h := if_eln h hc
    refine lv_aload_n hx hb dX8_ticket_11 rfl (lv_at hl 0 rfl) ?_
    refine gf_X8_39 X hP dX8_ticket_12 ?_
    refine lv_iload_n hx hb dX8_ticket_15 rfl (lv_at hl 1 rfl) ?_
    obtain ⟨g_1, h⟩ := gd_el h
    obtain ⟨g_2, h⟩ := gd_el h
    refine r_aaT X hP g_1 g_2 dX8_ticket_16 ?_
    have h_2 := okT_of g_2
    refine lv_astore_n (lv' := [(3, .ref (B + (189 + 4 * a1.toNatClampNeg))), (0, .ref (B + 0)), (1, .int a1), (2, .int a2)]) hx hb dX8_ticket_17 rfl hl (by decide) rfl (fun ls hl => ?_)
    refine lv_iload_n hx hb dX8_ticket_18 rfl (lv_at hl 3 rfl) ?_
    by_cases h_3 : a2 = 0
    · replace h := if_elp h h_3
      refine lv_tableIn (off := 41) (tgt := 60) hx hb dX8_ticket_19 (by rw [h_3]; decide) (by rw [h_3]; decide) (by rw [h_3]; rfl) (by decide) ?_
      refine lv_aload_n hx hb dX8_ticket_60 rfl (lv_at hl 0 rfl) ?_
      refine gf_X8_167 X hP (kT_0 h_2) dX8_ticket_61 ?_
      exact r_iret X hP hS (pr0 h) rfl dX8_ticket_64
    · replace h := if_eln h h_3
      by_cases h_4 : a2 = 1
      · replace h := if_elp h h_4
        refine lv_tableIn (off := 46) (tgt := 65) hx hb dX8_ticket_19 (by rw [h_4]; decide) (by rw [h_4]; decide) (by rw [h_4]; rfl) (by decide) ?_
        refine lv_aload_n hx hb dX8_ticket_65 rfl (lv_at hl 0 rfl) ?_
        refine gf_X8_170 X hP (kT_0 h_2) dX8_ticket_66 ?_
        exact r_iret X hP hS (pr0 h) rfl dX8_ticket_69
      · replace h := if_eln h h_4
        by_cases h_5 : a2 = 2
        · replace h := if_elp h h_5
          refine lv_tableIn (off := 51) (tgt := 70) hx hb dX8_ticket_19 (by rw [h_5]; decide) (by rw [h_5]; decide) (by rw [h_5]; rfl) (by decide) ?_
          refine lv_aload_n hx hb dX8_ticket_70 rfl (lv_at hl 0 rfl) ?_
          refine gf_X8_173 X hP (kT_0 h_2) dX8_ticket_71 ?_
          exact r_iret X hP hS (pr0 h) rfl dX8_ticket_74
        · replace h := if_eln h h_5
          by_cases h_6 : a2 = 3
          · replace h := if_elp h h_6
            refine lv_tableIn (off := 56) (tgt := 75) hx hb dX8_ticket_19 (by rw [h_6]; decide) (by rw [h_6]; decide) (by rw [h_6]; rfl) (by decide) ?_
            refine lv_aload_n hx hb dX8_ticket_75 rfl (lv_at hl 0 rfl) ?_
            refine gf_X8_176 X hP (kT_0 h_2) dX8_ticket_76 ?_
            exact r_iret X hP hS (pr0 h) rfl dX8_ticket_79
          · replace h := if_eln h h_6
            by_cases h_7 : a2 = 4
            · replace h := if_elp h h_7
              refine lv_tableIn (off := 61) (tgt := 80) hx hb dX8_ticket_19 (by rw [h_7]; decide) (by rw [h_7]; decide) (by rw [h_7]; rfl) (by decide) ?_
              refine lv_aload_n hx hb dX8_ticket_80 rfl (lv_at hl 0 rfl) ?_
              refine gf_X8_179 X hP (kT_0 h_2) dX8_ticket_81 ?_
              exact r_iret X hP hS (pr0 h) rfl dX8_ticket_84
            · replace h := if_eln h h_7
              by_cases h_8 : a2 = 5
              · replace h := if_elp h h_8
                refine lv_tableIn (off := 66) (tgt := 85) hx hb dX8_ticket_19 (by rw [h_8]; decide) (by rw [h_8]; decide) (by rw [h_8]; rfl) (by decide) ?_
                refine lv_aload_n hx hb dX8_ticket_85 rfl (lv_at hl 0 rfl) ?_
                refine gf_X8_182 X hP (kT_0 h_2) dX8_ticket_86 ?_
                exact r_iret X hP hS (pr0 h) rfl dX8_ticket_89
              · replace h := if_eln h h_8
                by_cases h_9 : a2 = 6
                · replace h := if_elp h h_9
                  refine lv_tableIn (off := 71) (tgt := 90) hx hb dX8_ticket_19 (by rw [h_9]; decide) (by rw [h_9]; decide) (by rw [h_9]; rfl) (by decide) ?_
                  refine lv_aload_n hx hb dX8_ticket_90 rfl (lv_at hl 0 rfl) ?_
                  refine gf_X8_185 X hP (kT_0 h_2) dX8_ticket_91 ?_
                  exact r_iret X hP hS (pr0 h) rfl dX8_ticket_94
                · replace h := if_eln h h_9
                  refine lv_tableOut (tgt := 95) hx hb dX8_ticket_19 (by have z0 := lv_neT (a := 0) h_3 rfl; have z1 := lv_neT (a := 1) h_4 rfl; have z2 := lv_neT (a := 2) h_5 rfl; have z3 := lv_neT (a := 3) h_6 rfl; have z4 := lv_neT (a := 4) h_7 rfl; have z5 := lv_neT (a := 5) h_8 rfl; have z6 := lv_neT (a := 6) h_9 rfl; omega) (by decide) ?_
                  refine lv_bipush (v := (-2)) hx hb dX8_ticket_95 (by decide) ?_
                  exact r_iret X hP hS (pr0 h) rfl dX8_ticket_97
  · replace h := if_elp h hc
    refine lv_bipush (v := (-2)) hx hb dX8_ticket_8 (by decide) ?_
    exact r_iret X hP hS (pr0 h) rfl dX8_ticket_10
abbrev rmX8_answer : Room := { frames := 1, cells := 0, slots := 0, locals := 21 }
def f_X8_answer_42 (nT : Nat) (M : Mem) (v2 : Int32) (r3 : Nat) (s0 : Int32) : Option (Int64) :=
  if s0 = 0 then (some 0) else (gd (inR v2 8) <| some (gL M (r3 + 3) v2.toNatClampNeg))
set_option maxRecDepth 100000 in
set_option maxHeartbeats 4000000 in
theorem w_X8_answer_42 (X : Cx p s m args meth c cX8_answer RX8 5 (some .long) G cy) {M : Mem} {out : Int64} {v2 : Int32} {r3 : Nat} {s0 : Int32} (hr3 : okT nT r3) (hP : Pic G B cy nT M H) (hS : va_S (FB B) s.heap H locs) (hl : lv_has ls 5 [(2, .int v2), (3, .ref (B + r3))]) (h : f_X8_answer_42 nT M v2 r3 s0 = some out) : W p l e rmX8_answer s m args below meth c H locs 0 0 (MQ below (Ql G B cy nT out M) args s 0 0 (FB B)) (F0 m 42 ls [.int s0]) := by
  obtain ⟨hx, hb, hr, hml, hown, hts, hKn, hlk⟩ := id X
  unfold f_X8_answer_42 at h
  refine lv_istore (lv' := [(4, .int s0), (2, .int v2), (3, .ref (B + r3))]) hx hb dX8_answer_42 hl (by decide) rfl (fun ls hl => ?_)
  refine lv_iload hx hb dX8_answer_44 (lv_at hl 0 rfl) ?_
  refine lv_if_eq (tgt := 58) hx hb dX8_answer_46 (by decide) (fun hc => ?_) (fun hc => ?_)
  · replace h := if_elp h hc
    refine lv_lconst (v := 0) hx hb dX8_answer_58 rfl ?_
    exact r_lret X hP hS (pr0 h) rfl dX8_answer_59
  · replace h := if_eln h hc
    refine lv_aload_n hx hb dX8_answer_49 rfl (lv_at hl 2 rfl) ?_
    refine gf_X8_191 X hP (kT_0 hr3) dX8_answer_50 ?_
    refine lv_iload_n hx hb dX8_answer_53 rfl (lv_at hl 1 rfl) ?_
    obtain ⟨g_1, h⟩ := gd_el h
    refine r_lald X hP (kT_3 hr3) g_1 dX8_answer_54 ?_
    refine lv_goto (tgt := 59) hx hb dX8_answer_55 (by decide) ?_
    exact r_lret X hP hS (pr0 h) rfl dX8_answer_59
def f_X8_answer_41 (nT : Nat) (M : Mem) (v2 : Int32) (r3 : Nat) : Option (Int64) :=
  f_X8_answer_42 nT M v2 r3 0
set_option maxRecDepth 100000 in
set_option maxHeartbeats 4000000 in
theorem w_X8_answer_41 (X : Cx p s m args meth c cX8_answer RX8 5 (some .long) G cy) {M : Mem} {out : Int64} {v2 : Int32} {r3 : Nat} (hr3 : okT nT r3) (hP : Pic G B cy nT M H) (hS : va_S (FB B) s.heap H locs) (hl : lv_has ls 5 [(2, .int v2), (3, .ref (B + r3))]) (h : f_X8_answer_41 nT M v2 r3 = some out) : W p l e rmX8_answer s m args below meth c H locs 0 0 (MQ below (Ql G B cy nT out M) args s 0 0 (FB B)) (F0 m 41 ls []) := by
  obtain ⟨hx, hb, hr, hml, hown, hts, hKn, hlk⟩ := id X
  unfold f_X8_answer_41 at h
  refine lv_iconst (v := 0) hx hb dX8_answer_41 (by decide) ?_
  exact w_X8_answer_42 X hr3 hP hS (lv_sub hl [0, 1] rfl) h
def f_X8_answer (nT : Nat) (M : Mem) (a1 : Int32) (a2 : Int32) : Option (Int64) :=
  Option.bind (f_X8_isTicket M a1) fun r_1 => if (bI r_1) = 0 then (some 0) else (gd (inR a1 20) <| gd (decide (a1.toNatClampNeg < nT)) <| if (gI M (189 + 4 * a1.toNatClampNeg) 1) = 1 then (if a2 < 0 then (f_X8_answer_41 nT M a2 (189 + 4 * a1.toNatClampNeg)) else (if (gI M (189 + 4 * a1.toNatClampNeg) 16) ≤ a2 then (f_X8_answer_41 nT M a2 (189 + 4 * a1.toNatClampNeg)) else (f_X8_answer_42 nT M a2 (189 + 4 * a1.toNatClampNeg) 1))) else (f_X8_answer_41 nT M a2 (189 + 4 * a1.toNatClampNeg)))
set_option maxRecDepth 100000 in
set_option maxHeartbeats 4000000 in
theorem c_X8_answer {l : Launch} {G : va_G} {cy : Nat → ClassId} {B nT : Nat} {M : Mem} {a1 : Int32} {a2 : Int32} {out : Int64} (h : f_X8_answer nT M a1 a2 = some out) : Met l yX8_answer (wsU yX8_answer cX8_answer 5 (some .long)) rmX8_answer (va_Pc [.ref (B + 0), .int a1, .int a2] (PU G B cy nT M)) (Ql G B cy nT out M) 0 0 (FB B) := by
  refine r_met (by decide +kernel) RX8 rfl (Nat.le_of_ble_eq_true rfl) ?_
  intro p e s m args below meth c ls X hP hl
  have hl : lv_has ls 5 [(0, .ref (B + 0)), (1, .int a1), (2, .int a2)] := hl
  have hS : va_S (FB B) s.heap s.heap [] := va_S.rf
  obtain ⟨hx, hb, hr, hml, hown, hts, hKn, hlk⟩ := id X
  unfold f_X8_answer at h
  refine lv_aload_n hx hb dX8_answer_0 rfl (lv_at hl 0 rfl) ?_
  refine lv_iload_n hx hb dX8_answer_1 rfl (lv_at hl 1 rfl) ?_
  obtain ⟨r_1, h_1, h⟩ := bd_el h
  refine cl_i (rn_V (C := RX8) (ci := 8) X hP (c_X8_isTicket h_1) kq_0 rfl k_490 k_491 k_904 k_1 k_492 rfl hd_X8_isTicket (n := 1) ⟨⟨rfl, rfl⟩, Nat.le_of_ble_eq_true rfl, Nat.le_of_ble_eq_true rfl⟩ (As := [.int a1]) (rest := []) rfl hl.1 rfl (Nat.le_of_ble_eq_true rfl) dX8_answer_2 ⟨Nat.zero_le _, Nat.zero_le _⟩) hS (fun H locs hP hS => ?_)
  refine lv_if_ne (tgt := 10) hx hb dX8_answer_5 (by decide) (fun hc => ?_) (fun hc => ?_)
  · replace h := if_eln h hc
    refine lv_aload_n hx hb dX8_answer_10 rfl (lv_at hl 0 rfl) ?_
    refine gf_X8_39 X hP dX8_answer_11 ?_
    refine lv_iload_n hx hb dX8_answer_14 rfl (lv_at hl 1 rfl) ?_
    obtain ⟨g_1, h⟩ := gd_el h
    obtain ⟨g_2, h⟩ := gd_el h
    refine r_aaT X hP g_1 g_2 dX8_answer_15 ?_
    have h_2 := okT_of g_2
    refine lv_astore_n (lv' := [(3, .ref (B + (189 + 4 * a1.toNatClampNeg))), (0, .ref (B + 0)), (1, .int a1), (2, .int a2)]) hx hb dX8_answer_16 rfl hl (by decide) rfl (fun ls hl => ?_)
    refine lv_aload_n hx hb dX8_answer_17 rfl (lv_at hl 0 rfl) ?_
    refine gf_X8_167 X hP (kT_0 h_2) dX8_answer_18 ?_
    refine lv_iconst (v := 1) hx hb dX8_answer_21 (by decide) ?_
    refine lv_icmp_ne (tgt := 41) hx hb dX8_answer_22 (by decide) (fun hc => ?_) (fun hc => ?_)
    · replace h := if_eln h hc
      exact w_X8_answer_41 X h_2 hP hS (lv_sub hl [3, 0] rfl) h
    · replace h := if_elp h hc
      refine lv_iload_n hx hb dX8_answer_25 rfl (lv_at hl 3 rfl) ?_
      refine lv_if_lt (tgt := 41) hx hb dX8_answer_26 (by decide) (fun hc => ?_) (fun hc => ?_)
      · replace h := if_elp h hc
        exact w_X8_answer_41 X h_2 hP hS (lv_sub hl [3, 0] rfl) h
      · replace h := if_eln h hc
        refine lv_iload_n hx hb dX8_answer_29 rfl (lv_at hl 3 rfl) ?_
        refine lv_aload_n hx hb dX8_answer_30 rfl (lv_at hl 0 rfl) ?_
        refine gf_X8_188 X hP (kT_0 h_2) dX8_answer_31 ?_
        refine lv_icmp_ge (tgt := 41) hx hb dX8_answer_34 (by decide) (fun hc => ?_) (fun hc => ?_)
        · replace h := if_elp h hc
          exact w_X8_answer_41 X h_2 hP hS (lv_sub hl [3, 0] rfl) h
        · replace h := if_eln h hc
          refine lv_iconst (v := 1) hx hb dX8_answer_37 (by decide) ?_
          refine lv_goto (tgt := 42) hx hb dX8_answer_38 (by decide) ?_
          exact w_X8_answer_42 X h_2 hP hS (lv_sub hl [3, 0] rfl) h
  · replace h := if_elp h hc
    refine lv_lconst (v := 0) hx hb dX8_answer_8 rfl ?_
    exact r_lret X hP hS (pr0 h) rfl dX8_answer_9
abbrev rmX8_tried : Room := { frames := 1, cells := 0, slots := 0, locals := 21 }
def f_X8_tried (nT : Nat) (M : Mem) (a1 : Int32) (a2 : Int32) : Option (Int32) :=
  Option.bind (f_X8_isTicket M a1) fun r_1 => if (bI r_1) = 0 then (some (-2)) else (if a2 < 0 then (some (-2)) else (if a2 ≤ 3 then (gd (inR a1 20) <| gd (decide (a1.toNatClampNeg < nT)) <| if (gI M (189 + 4 * a1.toNatClampNeg) 9) = 0 then (some (-1)) else (if a2 = 0 then (some (gI M (189 + 4 * a1.toNatClampNeg) 10)) else if a2 = 1 then (Option.bind (f_J13_bitCount_95d88 (gL M (189 + 4 * a1.toNatClampNeg) 11)) fun r_2 => some r_2) else if a2 = 2 then (some (gI M (189 + 4 * a1.toNatClampNeg) 12)) else some (gI M (189 + 4 * a1.toNatClampNeg) 13))) else (some (-2))))
set_option maxRecDepth 100000 in
set_option maxHeartbeats 4000000 in
theorem c_X8_tried {l : Launch} {G : va_G} {cy : Nat → ClassId} {B nT : Nat} {M : Mem} {a1 : Int32} {a2 : Int32} {out : Int32} (h : f_X8_tried nT M a1 a2 = some out) : Met l yX8_tried (wsU yX8_tried cX8_tried 4 (some .int)) rmX8_tried (va_Pc [.ref (B + 0), .int a1, .int a2] (PU G B cy nT M)) (Qi G B cy nT out M) 0 0 (FB B) := by
  refine r_met (by decide +kernel) RX8 rfl (Nat.le_of_ble_eq_true rfl) ?_
  intro p e s m args below meth c ls X hP hl
  have hl : lv_has ls 4 [(0, .ref (B + 0)), (1, .int a1), (2, .int a2)] := hl
  have hS : va_S (FB B) s.heap s.heap [] := va_S.rf
  obtain ⟨hx, hb, hr, hml, hown, hts, hKn, hlk⟩ := id X
  unfold f_X8_tried at h
  refine lv_aload_n hx hb dX8_tried_0 rfl (lv_at hl 0 rfl) ?_
  refine lv_iload_n hx hb dX8_tried_1 rfl (lv_at hl 1 rfl) ?_
  obtain ⟨r_1, h_1, h⟩ := bd_el h
  refine cl_i (rn_V (C := RX8) (ci := 8) X hP (c_X8_isTicket h_1) kq_0 rfl k_490 k_491 k_904 k_1 k_492 rfl hd_X8_isTicket (n := 1) ⟨⟨rfl, rfl⟩, Nat.le_of_ble_eq_true rfl, Nat.le_of_ble_eq_true rfl⟩ (As := [.int a1]) (rest := []) rfl hl.1 rfl (Nat.le_of_ble_eq_true rfl) dX8_tried_2 ⟨Nat.zero_le _, Nat.zero_le _⟩) hS (fun H locs hP hS => ?_)
  refine lv_if_eq (tgt := 17) hx hb dX8_tried_5 (by decide) (fun hc => ?_) (fun hc => ?_)
  · replace h := if_elp h hc
    refine lv_bipush (v := (-2)) hx hb dX8_tried_17 (by decide) ?_
    exact r_iret X hP hS (pr0 h) rfl dX8_tried_19
  · replace h := if_eln h hc
    refine lv_iload_n hx hb dX8_tried_8 rfl (lv_at hl 2 rfl) ?_
    refine lv_if_lt (tgt := 17) hx hb dX8_tried_9 (by decide) (fun hc => ?_) (fun hc => ?_)
    · replace h := if_elp h hc
      refine lv_bipush (v := (-2)) hx hb dX8_tried_17 (by decide) ?_
      exact r_iret X hP hS (pr0 h) rfl dX8_tried_19
    · replace h := if_eln h hc
      refine lv_iload_n hx hb dX8_tried_12 rfl (lv_at hl 2 rfl) ?_
      refine lv_iconst (v := 3) hx hb dX8_tried_13 (by decide) ?_
      refine lv_icmp_le (tgt := 20) hx hb dX8_tried_14 (by decide) (fun hc => ?_) (fun hc => ?_)
      · replace h := if_elp h hc
        refine lv_aload_n hx hb dX8_tried_20 rfl (lv_at hl 0 rfl) ?_
        refine gf_X8_39 X hP dX8_tried_21 ?_
        refine lv_iload_n hx hb dX8_tried_24 rfl (lv_at hl 1 rfl) ?_
        obtain ⟨g_1, h⟩ := gd_el h
        obtain ⟨g_2, h⟩ := gd_el h
        refine r_aaT X hP g_1 g_2 dX8_tried_25 ?_
        have h_2 := okT_of g_2
        refine lv_astore_n (lv' := [(3, .ref (B + (189 + 4 * a1.toNatClampNeg))), (0, .ref (B + 0)), (1, .int a1), (2, .int a2)]) hx hb dX8_tried_26 rfl hl (by decide) rfl (fun ls hl => ?_)
        refine lv_aload_n hx hb dX8_tried_27 rfl (lv_at hl 0 rfl) ?_
        refine gf_X8_194 X hP (kT_0 h_2) dX8_tried_28 ?_
        refine lv_if_ne (tgt := 36) hx hb dX8_tried_31 (by decide) (fun hc => ?_) (fun hc => ?_)
        · replace h := if_eln h hc
          refine lv_iload_n hx hb dX8_tried_36 rfl (lv_at hl 3 rfl) ?_
          by_cases h_3 : a2 = 0
          · replace h := if_elp h h_3
            refine lv_tableIn (off := 27) (tgt := 64) hx hb dX8_tried_37 (by rw [h_3]; decide) (by rw [h_3]; decide) (by rw [h_3]; rfl) (by decide) ?_
            refine lv_aload_n hx hb dX8_tried_64 rfl (lv_at hl 0 rfl) ?_
            refine gf_X8_198 X hP (kT_0 h_2) dX8_tried_65 ?_
            exact r_iret X hP hS (pr0 h) rfl dX8_tried_68
          · replace h := if_eln h h_3
            by_cases h_4 : a2 = 1
            · replace h := if_elp h h_4
              refine lv_tableIn (off := 32) (tgt := 69) hx hb dX8_tried_37 (by rw [h_4]; decide) (by rw [h_4]; decide) (by rw [h_4]; rfl) (by decide) ?_
              refine lv_aload_n hx hb dX8_tried_69 rfl (lv_at hl 0 rfl) ?_
              refine gf_X8_201 X hP (kT_0 h_2) dX8_tried_70 ?_
              obtain ⟨r_2, h_5, h⟩ := bd_el h
              refine cl_i (rn_S X hP (c_J13_bitCount_95d88 h_5) k_501 k_437 k_12 k_438 hd_J13_bitCount_95d88 (n := 1) ⟨⟨rfl, rfl⟩, Nat.le_of_ble_eq_true rfl, Nat.le_of_ble_eq_true rfl⟩ (As := [.long (gL M (189 + 4 * a1.toNatClampNeg) 11)]) (rest := []) rfl hl.1 rfl (Nat.le_of_ble_eq_true rfl) dX8_tried_73 ⟨Nat.zero_le _, Nat.zero_le _⟩) hS (fun H locs hP hS => ?_)
              exact r_iret X hP hS (pr0 h) rfl dX8_tried_76
            · replace h := if_eln h h_4
              by_cases h_6 : a2 = 2
              · replace h := if_elp h h_6
                refine lv_tableIn (off := 40) (tgt := 77) hx hb dX8_tried_37 (by rw [h_6]; decide) (by rw [h_6]; decide) (by rw [h_6]; rfl) (by decide) ?_
                refine lv_aload_n hx hb dX8_tried_77 rfl (lv_at hl 0 rfl) ?_
                refine gf_X8_211 X hP (kT_0 h_2) dX8_tried_78 ?_
                exact r_iret X hP hS (pr0 h) rfl dX8_tried_81
              · replace h := if_eln h h_6
                refine lv_tableOut (tgt := 82) hx hb dX8_tried_37 (by have z0 := lv_neT (a := 0) h_3 rfl; have z1 := lv_neT (a := 1) h_4 rfl; have z2 := lv_neT (a := 2) h_6 rfl; omega) (by decide) ?_
                refine lv_aload_n hx hb dX8_tried_82 rfl (lv_at hl 0 rfl) ?_
                refine gf_X8_214 X hP (kT_0 h_2) dX8_tried_83 ?_
                exact r_iret X hP hS (pr0 h) rfl dX8_tried_86
        · replace h := if_elp h hc
          refine lv_iconst (v := (-1)) hx hb dX8_tried_34 (by decide) ?_
          exact r_iret X hP hS (pr0 h) rfl dX8_tried_35
      · replace h := if_eln h hc
        refine lv_bipush (v := (-2)) hx hb dX8_tried_17 (by decide) ?_
        exact r_iret X hP hS (pr0 h) rfl dX8_tried_19
abbrev rmX8_way : Room := { frames := 1, cells := 0, slots := 0, locals := 21 }
def f_X8_way (nT : Nat) (M : Mem) (a1 : Int32) (a2 : Int32) (a3 : Int32) : Option (Int32) :=
  Option.bind (f_X8_isTicket M a1) fun r_1 => if (bI r_1) = 0 then (some (-2)) else (if a3 < 0 then (some (-2)) else (if a3 ≤ 1 then (gd (inR a1 20) <| gd (decide (a1.toNatClampNeg < nT)) <| if a2 < 0 then (some (-1)) else (if a2 < (gI M (189 + 4 * a1.toNatClampNeg) 13) then (if a3 = 0 then (gd (inR a2 6) <| some (gI M (189 + 4 * a1.toNatClampNeg + 1) a2.toNatClampNeg)) else (gd (inR a2 6) <| some (gI M (189 + 4 * a1.toNatClampNeg + 2) a2.toNatClampNeg))) else (some (-1)))) else (some (-2))))
set_option maxRecDepth 100000 in
set_option maxHeartbeats 4000000 in
theorem c_X8_way {l : Launch} {G : va_G} {cy : Nat → ClassId} {B nT : Nat} {M : Mem} {a1 : Int32} {a2 : Int32} {a3 : Int32} {out : Int32} (h : f_X8_way nT M a1 a2 a3 = some out) : Met l yX8_way (wsU yX8_way cX8_way 5 (some .int)) rmX8_way (va_Pc [.ref (B + 0), .int a1, .int a2, .int a3] (PU G B cy nT M)) (Qi G B cy nT out M) 0 0 (FB B) := by
  refine r_met (by decide +kernel) RX8 rfl (Nat.le_of_ble_eq_true rfl) ?_
  intro p e s m args below meth c ls X hP hl
  have hl : lv_has ls 5 [(0, .ref (B + 0)), (1, .int a1), (2, .int a2), (3, .int a3)] := hl
  have hS : va_S (FB B) s.heap s.heap [] := va_S.rf
  obtain ⟨hx, hb, hr, hml, hown, hts, hKn, hlk⟩ := id X
  unfold f_X8_way at h
  refine lv_aload_n hx hb dX8_way_0 rfl (lv_at hl 0 rfl) ?_
  refine lv_iload_n hx hb dX8_way_1 rfl (lv_at hl 1 rfl) ?_
  obtain ⟨r_1, h_1, h⟩ := bd_el h
  refine cl_i (rn_V (C := RX8) (ci := 8) X hP (c_X8_isTicket h_1) kq_0 rfl k_490 k_491 k_904 k_1 k_492 rfl hd_X8_isTicket (n := 1) ⟨⟨rfl, rfl⟩, Nat.le_of_ble_eq_true rfl, Nat.le_of_ble_eq_true rfl⟩ (As := [.int a1]) (rest := []) rfl hl.1 rfl (Nat.le_of_ble_eq_true rfl) dX8_way_2 ⟨Nat.zero_le _, Nat.zero_le _⟩) hS (fun H locs hP hS => ?_)
  refine lv_if_eq (tgt := 17) hx hb dX8_way_5 (by decide) (fun hc => ?_) (fun hc => ?_)
  · replace h := if_elp h hc
    refine lv_bipush (v := (-2)) hx hb dX8_way_17 (by decide) ?_
    exact r_iret X hP hS (pr0 h) rfl dX8_way_19
  · replace h := if_eln h hc
    refine lv_iload_n hx hb dX8_way_8 rfl (lv_at hl 3 rfl) ?_
    refine lv_if_lt (tgt := 17) hx hb dX8_way_9 (by decide) (fun hc => ?_) (fun hc => ?_)
    · replace h := if_elp h hc
      refine lv_bipush (v := (-2)) hx hb dX8_way_17 (by decide) ?_
      exact r_iret X hP hS (pr0 h) rfl dX8_way_19
    · replace h := if_eln h hc
      refine lv_iload_n hx hb dX8_way_12 rfl (lv_at hl 3 rfl) ?_
      refine lv_iconst (v := 1) hx hb dX8_way_13 (by decide) ?_
      refine lv_icmp_le (tgt := 20) hx hb dX8_way_14 (by decide) (fun hc => ?_) (fun hc => ?_)
      · replace h := if_elp h hc
        refine lv_aload_n hx hb dX8_way_20 rfl (lv_at hl 0 rfl) ?_
        refine gf_X8_39 X hP dX8_way_21 ?_
        refine lv_iload_n hx hb dX8_way_24 rfl (lv_at hl 1 rfl) ?_
        obtain ⟨g_1, h⟩ := gd_el h
        obtain ⟨g_2, h⟩ := gd_el h
        refine r_aaT X hP g_1 g_2 dX8_way_25 ?_
        have h_2 := okT_of g_2
        refine lv_astore (lv' := [(4, .ref (B + (189 + 4 * a1.toNatClampNeg))), (0, .ref (B + 0)), (1, .int a1), (2, .int a2), (3, .int a3)]) hx hb dX8_way_26 hl (by decide) rfl (fun ls hl => ?_)
        refine lv_iload_n hx hb dX8_way_28 rfl (lv_at hl 3 rfl) ?_
        refine lv_if_lt (tgt := 41) hx hb dX8_way_29 (by decide) (fun hc => ?_) (fun hc => ?_)
        · replace h := if_elp h hc
          refine lv_iconst (v := (-1)) hx hb dX8_way_41 (by decide) ?_
          exact r_iret X hP hS (pr0 h) rfl dX8_way_42
        · replace h := if_eln h hc
          refine lv_iload_n hx hb dX8_way_32 rfl (lv_at hl 3 rfl) ?_
          refine lv_aload hx hb dX8_way_33 (lv_at hl 0 rfl) ?_
          refine gf_X8_214 X hP (kT_0 h_2) dX8_way_35 ?_
          refine lv_icmp_lt (tgt := 43) hx hb dX8_way_38 (by decide) (fun hc => ?_) (fun hc => ?_)
          · replace h := if_elp h hc
            refine lv_iload_n hx hb dX8_way_43 rfl (lv_at hl 4 rfl) ?_
            refine lv_if_ne (tgt := 57) hx hb dX8_way_44 (by decide) (fun hc => ?_) (fun hc => ?_)
            · replace h := if_eln h hc
              refine lv_aload hx hb dX8_way_57 (lv_at hl 0 rfl) ?_
              refine gf_X8_220 X hP (kT_0 h_2) dX8_way_59 ?_
              refine lv_iload_n hx hb dX8_way_62 rfl (lv_at hl 3 rfl) ?_
              obtain ⟨g_3, h⟩ := gd_el h
              refine r_iald X hP (kT_2 h_2) g_3 dX8_way_63 ?_
              exact r_iret X hP hS (pr0 h) rfl dX8_way_64
            · replace h := if_elp h hc
              refine lv_aload hx hb dX8_way_47 (lv_at hl 0 rfl) ?_
              refine gf_X8_217 X hP (kT_0 h_2) dX8_way_49 ?_
              refine lv_iload_n hx hb dX8_way_52 rfl (lv_at hl 3 rfl) ?_
              obtain ⟨g_4, h⟩ := gd_el h
              refine r_iald X hP (kT_1 h_2) g_4 dX8_way_53 ?_
              refine lv_goto (tgt := 64) hx hb dX8_way_54 (by decide) ?_
              exact r_iret X hP hS (pr0 h) rfl dX8_way_64
          · replace h := if_eln h hc
            refine lv_iconst (v := (-1)) hx hb dX8_way_41 (by decide) ?_
            exact r_iret X hP hS (pr0 h) rfl dX8_way_42
      · replace h := if_eln h hc
        refine lv_bipush (v := (-2)) hx hb dX8_way_17 (by decide) ?_
        exact r_iret X hP hS (pr0 h) rfl dX8_way_19
abbrev rmX8_read : Room := { frames := 1, cells := 0, slots := 0, locals := 22 }
def f_X8_read (nT : Nat) (M : Mem) (a1 : Int32) (a2 : Int32) : Option (Int32) :=
  Option.bind (f_X8_isTicket M a1) fun r_1 => if (bI r_1) = 0 then (some (-2)) else (Option.bind (f_X8_isCell (Int32.toInt64 a2)) fun r_2 => if (bI r_2) = 0 then (some (-2)) else (gd (inR a1 20) <| gd (decide (a1.toNatClampNeg < nT)) <| Option.bind (f_X8_isAmong (gL M (189 + 4 * a1.toNatClampNeg) 11) a2) fun r_3 => if (bI r_3) = 0 then (some 0) else (some 1)))
set_option maxRecDepth 100000 in
set_option maxHeartbeats 4000000 in
theorem c_X8_read {l : Launch} {G : va_G} {cy : Nat → ClassId} {B nT : Nat} {M : Mem} {a1 : Int32} {a2 : Int32} {out : Int32} (h : f_X8_read nT M a1 a2 = some out) : Met l yX8_read (wsU yX8_read cX8_read 3 (some .int)) rmX8_read (va_Pc [.ref (B + 0), .int a1, .int a2] (PU G B cy nT M)) (Qi G B cy nT out M) 0 0 (FB B) := by
  refine r_met (by decide +kernel) RX8 rfl (Nat.le_of_ble_eq_true rfl) ?_
  intro p e s m args below meth c ls X hP hl
  have hl : lv_has ls 3 [(0, .ref (B + 0)), (1, .int a1), (2, .int a2)] := hl
  have hS : va_S (FB B) s.heap s.heap [] := va_S.rf
  obtain ⟨hx, hb, hr, hml, hown, hts, hKn, hlk⟩ := id X
  unfold f_X8_read at h
  refine lv_aload_n hx hb dX8_read_0 rfl (lv_at hl 0 rfl) ?_
  refine lv_iload_n hx hb dX8_read_1 rfl (lv_at hl 1 rfl) ?_
  obtain ⟨r_1, h_1, h⟩ := bd_el h
  refine cl_i (rn_V (C := RX8) (ci := 8) X hP (c_X8_isTicket h_1) kq_0 rfl k_490 k_491 k_904 k_1 k_492 rfl hd_X8_isTicket (n := 1) ⟨⟨rfl, rfl⟩, Nat.le_of_ble_eq_true rfl, Nat.le_of_ble_eq_true rfl⟩ (As := [.int a1]) (rest := []) rfl hl.1 rfl (Nat.le_of_ble_eq_true rfl) dX8_read_2 ⟨Nat.zero_le _, Nat.zero_le _⟩) hS (fun H locs hP hS => ?_)
  refine lv_if_eq (tgt := 16) hx hb dX8_read_5 (by decide) (fun hc => ?_) (fun hc => ?_)
  · replace h := if_elp h hc
    refine lv_bipush (v := (-2)) hx hb dX8_read_16 (by decide) ?_
    exact r_iret X hP hS (pr0 h) rfl dX8_read_18
  · replace h := if_eln h hc
    refine lv_iload_n hx hb dX8_read_8 rfl (lv_at hl 2 rfl) ?_
    refine lv_i2l (v := (Int32.toInt64 a2)) hx hb dX8_read_9 rfl ?_
    obtain ⟨r_2, h_2, h⟩ := bd_el h
    refine cl_i (rn_S X hP (c_X8_isCell h_2) k_186 k_187 k_1 k_188 hd_X8_isCell (n := 1) ⟨⟨rfl, rfl⟩, Nat.le_of_ble_eq_true rfl, Nat.le_of_ble_eq_true rfl⟩ (As := [.long (Int32.toInt64 a2)]) (rest := []) rfl hl.1 rfl (Nat.le_of_ble_eq_true rfl) dX8_read_10 ⟨Nat.zero_le _, Nat.zero_le _⟩) hS (fun H locs hP hS => ?_)
    refine lv_if_ne (tgt := 19) hx hb dX8_read_13 (by decide) (fun hc => ?_) (fun hc => ?_)
    · replace h := if_eln h hc
      refine lv_aload_n hx hb dX8_read_19 rfl (lv_at hl 0 rfl) ?_
      refine gf_X8_39 X hP dX8_read_20 ?_
      refine lv_iload_n hx hb dX8_read_23 rfl (lv_at hl 1 rfl) ?_
      obtain ⟨g_1, h⟩ := gd_el h
      obtain ⟨g_2, h⟩ := gd_el h
      refine r_aaT X hP g_1 g_2 dX8_read_24 ?_
      have h_3 := okT_of g_2
      refine gf_X8_201 X hP (kT_0 h_3) dX8_read_25 ?_
      refine lv_iload_n hx hb dX8_read_28 rfl (lv_at hl 2 rfl) ?_
      obtain ⟨r_3, h_4, h⟩ := bd_el h
      refine cl_i (rn_S X hP (c_X8_isAmong h_4) k_203 k_204 k_1 k_205 hd_X8_isAmong (n := 2) ⟨⟨rfl, rfl⟩, Nat.le_of_ble_eq_true rfl, Nat.le_of_ble_eq_true rfl⟩ (As := [.long (gL M (189 + 4 * a1.toNatClampNeg) 11), .int a2]) (rest := []) rfl hl.1 rfl (Nat.le_of_ble_eq_true rfl) dX8_read_29 ⟨Nat.zero_le _, Nat.zero_le _⟩) hS (fun H locs hP hS => ?_)
      refine lv_if_eq (tgt := 39) hx hb dX8_read_32 (by decide) (fun hc => ?_) (fun hc => ?_)
      · replace h := if_elp h hc
        refine lv_iconst (v := 0) hx hb dX8_read_39 (by decide) ?_
        exact r_iret X hP hS (pr0 h) rfl dX8_read_40
      · replace h := if_eln h hc
        refine lv_iconst (v := 1) hx hb dX8_read_35 (by decide) ?_
        refine lv_goto (tgt := 40) hx hb dX8_read_36 (by decide) ?_
        exact r_iret X hP hS (pr0 h) rfl dX8_read_40
    · replace h := if_elp h hc
      refine lv_bipush (v := (-2)) hx hb dX8_read_16 (by decide) ?_
      exact r_iret X hP hS (pr0 h) rfl dX8_read_18
abbrev rmX8_woken : Room := { frames := 1, cells := 0, slots := 0, locals := 21 }
def f_X8_woken (nT : Nat) (M : Mem) (a1 : Int32) (a2 : Int32) : Option (Int32) :=
  Option.bind (f_X8_isTicket M a1) fun r_1 => if (bI r_1) = 0 then (some (-2)) else (if a2 < 0 then (some (-2)) else (if a2 ≤ 1 then (if a2 = 0 then (gd (inR a1 20) <| gd (decide (a1.toNatClampNeg < nT)) <| some (gI M (189 + 4 * a1.toNatClampNeg) 7)) else (gd (inR a1 20) <| gd (decide (a1.toNatClampNeg < nT)) <| some (gI M (189 + 4 * a1.toNatClampNeg) 8))) else (some (-2))))
set_option maxRecDepth 100000 in
set_option maxHeartbeats 4000000 in
theorem c_X8_woken {l : Launch} {G : va_G} {cy : Nat → ClassId} {B nT : Nat} {M : Mem} {a1 : Int32} {a2 : Int32} {out : Int32} (h : f_X8_woken nT M a1 a2 = some out) : Met l yX8_woken (wsU yX8_woken cX8_woken 3 (some .int)) rmX8_woken (va_Pc [.ref (B + 0), .int a1, .int a2] (PU G B cy nT M)) (Qi G B cy nT out M) 0 0 (FB B) := by
  refine r_met (by decide +kernel) RX8 rfl (Nat.le_of_ble_eq_true rfl) ?_
  intro p e s m args below meth c ls X hP hl
  have hl : lv_has ls 3 [(0, .ref (B + 0)), (1, .int a1), (2, .int a2)] := hl
  have hS : va_S (FB B) s.heap s.heap [] := va_S.rf
  obtain ⟨hx, hb, hr, hml, hown, hts, hKn, hlk⟩ := id X
  unfold f_X8_woken at h
  refine lv_aload_n hx hb dX8_woken_0 rfl (lv_at hl 0 rfl) ?_
  refine lv_iload_n hx hb dX8_woken_1 rfl (lv_at hl 1 rfl) ?_
  obtain ⟨r_1, h_1, h⟩ := bd_el h
  refine cl_i (rn_V (C := RX8) (ci := 8) X hP (c_X8_isTicket h_1) kq_0 rfl k_490 k_491 k_904 k_1 k_492 rfl hd_X8_isTicket (n := 1) ⟨⟨rfl, rfl⟩, Nat.le_of_ble_eq_true rfl, Nat.le_of_ble_eq_true rfl⟩ (As := [.int a1]) (rest := []) rfl hl.1 rfl (Nat.le_of_ble_eq_true rfl) dX8_woken_2 ⟨Nat.zero_le _, Nat.zero_le _⟩) hS (fun H locs hP hS => ?_)
  refine lv_if_eq (tgt := 17) hx hb dX8_woken_5 (by decide) (fun hc => ?_) (fun hc => ?_)
  · replace h := if_elp h hc
    refine lv_bipush (v := (-2)) hx hb dX8_woken_17 (by decide) ?_
    exact r_iret X hP hS (pr0 h) rfl dX8_woken_19
  · replace h := if_eln h hc
    refine lv_iload_n hx hb dX8_woken_8 rfl (lv_at hl 2 rfl) ?_
    refine lv_if_lt (tgt := 17) hx hb dX8_woken_9 (by decide) (fun hc => ?_) (fun hc => ?_)
    · replace h := if_elp h hc
      refine lv_bipush (v := (-2)) hx hb dX8_woken_17 (by decide) ?_
      exact r_iret X hP hS (pr0 h) rfl dX8_woken_19
    · replace h := if_eln h hc
      refine lv_iload_n hx hb dX8_woken_12 rfl (lv_at hl 2 rfl) ?_
      refine lv_iconst (v := 1) hx hb dX8_woken_13 (by decide) ?_
      refine lv_icmp_le (tgt := 20) hx hb dX8_woken_14 (by decide) (fun hc => ?_) (fun hc => ?_)
      · replace h := if_elp h hc
        refine lv_iload_n hx hb dX8_woken_20 rfl (lv_at hl 2 rfl) ?_
        refine lv_if_ne (tgt := 36) hx hb dX8_woken_21 (by decide) (fun hc => ?_) (fun hc => ?_)
        · replace h := if_eln h hc
          refine lv_aload_n hx hb dX8_woken_36 rfl (lv_at hl 0 rfl) ?_
          refine gf_X8_39 X hP dX8_woken_37 ?_
          refine lv_iload_n hx hb dX8_woken_40 rfl (lv_at hl 1 rfl) ?_
          obtain ⟨g_1, h⟩ := gd_el h
          obtain ⟨g_2, h⟩ := gd_el h
          refine r_aaT X hP g_1 g_2 dX8_woken_41 ?_
          have h_2 := okT_of g_2
          refine gf_X8_230 X hP (kT_0 h_2) dX8_woken_42 ?_
          exact r_iret X hP hS (pr0 h) rfl dX8_woken_45
        · replace h := if_elp h hc
          refine lv_aload_n hx hb dX8_woken_24 rfl (lv_at hl 0 rfl) ?_
          refine gf_X8_39 X hP dX8_woken_25 ?_
          refine lv_iload_n hx hb dX8_woken_28 rfl (lv_at hl 1 rfl) ?_
          obtain ⟨g_3, h⟩ := gd_el h
          obtain ⟨g_4, h⟩ := gd_el h
          refine r_aaT X hP g_3 g_4 dX8_woken_29 ?_
          have h_3 := okT_of g_4
          refine gf_X8_227 X hP (kT_0 h_3) dX8_woken_30 ?_
          refine lv_goto (tgt := 45) hx hb dX8_woken_33 (by decide) ?_
          exact r_iret X hP hS (pr0 h) rfl dX8_woken_45
      · replace h := if_eln h hc
        refine lv_bipush (v := (-2)) hx hb dX8_woken_17 (by decide) ?_
        exact r_iret X hP hS (pr0 h) rfl dX8_woken_19
abbrev rmX8_order : Room := { frames := 0, cells := 0, slots := 0, locals := 0 }
def f_X8_order (M : Mem) (a1 : Int32) : Option (Int32) :=
  if a1 < 0 then (some (-1)) else (if (gI M 0 9) ≤ a1 then (some (-1)) else (gd (inR a1 20) <| some (gI M 118 a1.toNatClampNeg)))
set_option maxRecDepth 100000 in
set_option maxHeartbeats 4000000 in
theorem c_X8_order {l : Launch} {G : va_G} {cy : Nat → ClassId} {B nT : Nat} {M : Mem} {a1 : Int32} {out : Int32} (h : f_X8_order M a1 = some out) : Met l yX8_order (wsU yX8_order cX8_order 2 (some .int)) rmX8_order (va_Pc [.ref (B + 0), .int a1] (PU G B cy nT M)) (Qi G B cy nT out M) 0 0 (FB B) := by
  refine r_met (by decide +kernel) RX8 rfl (Nat.le_of_ble_eq_true rfl) ?_
  intro p e s m args below meth c ls X hP hl
  have hl : lv_has ls 2 [(0, .ref (B + 0)), (1, .int a1)] := hl
  have hS : va_S (FB B) s.heap s.heap [] := va_S.rf
  obtain ⟨hx, hb, hr, hml, hown, hts, hKn, hlk⟩ := id X
  unfold f_X8_order at h
  refine lv_iload_n hx hb dX8_order_0 rfl (lv_at hl 1 rfl) ?_
  refine lv_if_lt (tgt := 21) hx hb dX8_order_1 (by decide) (fun hc => ?_) (fun hc => ?_)
  · replace h := if_elp h hc
    refine lv_iconst (v := (-1)) hx hb dX8_order_21 (by decide) ?_
    exact r_iret X hP hS (pr0 h) rfl dX8_order_22
  · replace h := if_eln h hc
    refine lv_iload_n hx hb dX8_order_4 rfl (lv_at hl 1 rfl) ?_
    refine lv_aload_n hx hb dX8_order_5 rfl (lv_at hl 0 rfl) ?_
    refine gf_X8_233 X hP dX8_order_6 ?_
    refine lv_icmp_ge (tgt := 21) hx hb dX8_order_9 (by decide) (fun hc => ?_) (fun hc => ?_)
    · replace h := if_elp h hc
      refine lv_iconst (v := (-1)) hx hb dX8_order_21 (by decide) ?_
      exact r_iret X hP hS (pr0 h) rfl dX8_order_22
    · replace h := if_eln h hc
      refine lv_aload_n hx hb dX8_order_12 rfl (lv_at hl 0 rfl) ?_
      refine gf_X8_62 X hP dX8_order_13 ?_
      refine lv_iload_n hx hb dX8_order_16 rfl (lv_at hl 1 rfl) ?_
      obtain ⟨g_1, h⟩ := gd_el h
      refine r_iald X hP kq_118 g_1 dX8_order_17 ?_
      refine lv_goto (tgt := 22) hx hb dX8_order_18 (by decide) ?_
      exact r_iret X hP hS (pr0 h) rfl dX8_order_22
abbrev rmX8_note : Room := { frames := 1, cells := 0, slots := 0, locals := 21 }
def f_X8_note (M : Mem) (a1 : Int32) (a2 : Int32) : Option (Int32) :=
  if a2 < 0 then (some (-2)) else (if a2 ≤ 1 then (Option.bind (f_X3_keeps M a1) fun r_1 => if (bI r_1) = 0 then (some (-1)) else (if a2 = 0 then (gd (inR a1 40) <| some (gI M 23 a1.toNatClampNeg)) else (gd (inR a1 40) <| some (gI M 24 a1.toNatClampNeg)))) else (some (-2)))
set_option maxRecDepth 100000 in
set_option maxHeartbeats 4000000 in
theorem c_X8_note {l : Launch} {G : va_G} {cy : Nat → ClassId} {B nT : Nat} {M : Mem} {a1 : Int32} {a2 : Int32} {out : Int32} (h : f_X8_note M a1 a2 = some out) : Met l yX8_note (wsU yX8_note cX8_note 3 (some .int)) rmX8_note (va_Pc [.ref (B + 0), .int a1, .int a2] (PU G B cy nT M)) (Qi G B cy nT out M) 0 0 (FB B) := by
  refine r_met (by decide +kernel) RX8 rfl (Nat.le_of_ble_eq_true rfl) ?_
  intro p e s m args below meth c ls X hP hl
  have hl : lv_has ls 3 [(0, .ref (B + 0)), (1, .int a1), (2, .int a2)] := hl
  have hS : va_S (FB B) s.heap s.heap [] := va_S.rf
  obtain ⟨hx, hb, hr, hml, hown, hts, hKn, hlk⟩ := id X
  unfold f_X8_note at h
  refine lv_iload_n hx hb dX8_note_0 rfl (lv_at hl 2 rfl) ?_
  refine lv_if_lt (tgt := 9) hx hb dX8_note_1 (by decide) (fun hc => ?_) (fun hc => ?_)
  · replace h := if_elp h hc
    refine lv_bipush (v := (-2)) hx hb dX8_note_9 (by decide) ?_
    exact r_iret X hP hS (pr0 h) rfl dX8_note_11
  · replace h := if_eln h hc
    refine lv_iload_n hx hb dX8_note_4 rfl (lv_at hl 2 rfl) ?_
    refine lv_iconst (v := 1) hx hb dX8_note_5 (by decide) ?_
    refine lv_icmp_le (tgt := 12) hx hb dX8_note_6 (by decide) (fun hc => ?_) (fun hc => ?_)
    · replace h := if_elp h hc
      refine lv_aload_n hx hb dX8_note_12 rfl (lv_at hl 0 rfl) ?_
      refine gf_X8_33 X hP dX8_note_13 ?_
      refine lv_iload_n hx hb dX8_note_16 rfl (lv_at hl 1 rfl) ?_
      obtain ⟨r_1, h_1, h⟩ := bd_el h
      refine cl_i (rn_V (C := RX3) (ci := 3) X hP (c_X3_keeps h_1) kq_22 rfl k_522 k_523 k_524 k_6 k_525 rfl hd_X3_keeps (n := 1) ⟨⟨rfl, rfl⟩, Nat.le_of_ble_eq_true rfl, Nat.le_of_ble_eq_true rfl⟩ (As := [.int a1]) (rest := []) rfl hl.1 rfl (Nat.le_of_ble_eq_true rfl) dX8_note_17 ⟨Nat.zero_le _, Nat.zero_le _⟩) hS (fun H locs hP hS => ?_)
      refine lv_if_ne (tgt := 25) hx hb dX8_note_20 (by decide) (fun hc => ?_) (fun hc => ?_)
      · replace h := if_eln h hc
        refine lv_iload_n hx hb dX8_note_25 rfl (lv_at hl 2 rfl) ?_
        refine lv_if_ne (tgt := 41) hx hb dX8_note_26 (by decide) (fun hc => ?_) (fun hc => ?_)
        · replace h := if_eln h hc
          refine lv_aload_n hx hb dX8_note_41 rfl (lv_at hl 0 rfl) ?_
          refine gf_X8_33 X hP dX8_note_42 ?_
          refine gf_X8_242 X hP dX8_note_45 ?_
          refine lv_iload_n hx hb dX8_note_48 rfl (lv_at hl 1 rfl) ?_
          obtain ⟨g_1, h⟩ := gd_el h
          refine r_iald X hP kq_24 g_1 dX8_note_49 ?_
          exact r_iret X hP hS (pr0 h) rfl dX8_note_50
        · replace h := if_elp h hc
          refine lv_aload_n hx hb dX8_note_29 rfl (lv_at hl 0 rfl) ?_
          refine gf_X8_33 X hP dX8_note_30 ?_
          refine gf_X8_239 X hP dX8_note_33 ?_
          refine lv_iload_n hx hb dX8_note_36 rfl (lv_at hl 1 rfl) ?_
          obtain ⟨g_2, h⟩ := gd_el h
          refine r_iald X hP kq_23 g_2 dX8_note_37 ?_
          refine lv_goto (tgt := 50) hx hb dX8_note_38 (by decide) ?_
          exact r_iret X hP hS (pr0 h) rfl dX8_note_50
      · replace h := if_elp h hc
        refine lv_iconst (v := (-1)) hx hb dX8_note_23 (by decide) ?_
        exact r_iret X hP hS (pr0 h) rfl dX8_note_24
    · replace h := if_eln h hc
      refine lv_bipush (v := (-2)) hx hb dX8_note_9 (by decide) ?_
      exact r_iret X hP hS (pr0 h) rfl dX8_note_11
abbrev rmX8_noted : Room := { frames := 1, cells := 0, slots := 0, locals := 21 }
def f_X8_noted (M : Mem) (a1 : Int32) : Option (Int64) :=
  Option.bind (f_X3_keeps M a1) fun r_1 => if (bI r_1) = 0 then (some 0) else (gd (inR a1 40) <| some (gL M 25 a1.toNatClampNeg))
set_option maxRecDepth 100000 in
set_option maxHeartbeats 4000000 in
theorem c_X8_noted {l : Launch} {G : va_G} {cy : Nat → ClassId} {B nT : Nat} {M : Mem} {a1 : Int32} {out : Int64} (h : f_X8_noted M a1 = some out) : Met l yX8_noted (wsU yX8_noted cX8_noted 2 (some .long)) rmX8_noted (va_Pc [.ref (B + 0), .int a1] (PU G B cy nT M)) (Ql G B cy nT out M) 0 0 (FB B) := by
  refine r_met (by decide +kernel) RX8 rfl (Nat.le_of_ble_eq_true rfl) ?_
  intro p e s m args below meth c ls X hP hl
  have hl : lv_has ls 2 [(0, .ref (B + 0)), (1, .int a1)] := hl
  have hS : va_S (FB B) s.heap s.heap [] := va_S.rf
  obtain ⟨hx, hb, hr, hml, hown, hts, hKn, hlk⟩ := id X
  unfold f_X8_noted at h
  refine lv_aload_n hx hb dX8_noted_0 rfl (lv_at hl 0 rfl) ?_
  refine gf_X8_33 X hP dX8_noted_1 ?_
  refine lv_iload_n hx hb dX8_noted_4 rfl (lv_at hl 1 rfl) ?_
  obtain ⟨r_1, h_1, h⟩ := bd_el h
  refine cl_i (rn_V (C := RX3) (ci := 3) X hP (c_X3_keeps h_1) kq_22 rfl k_522 k_523 k_524 k_6 k_525 rfl hd_X3_keeps (n := 1) ⟨⟨rfl, rfl⟩, Nat.le_of_ble_eq_true rfl, Nat.le_of_ble_eq_true rfl⟩ (As := [.int a1]) (rest := []) rfl hl.1 rfl (Nat.le_of_ble_eq_true rfl) dX8_noted_5 ⟨Nat.zero_le _, Nat.zero_le _⟩) hS (fun H locs hP hS => ?_)
  refine lv_if_eq (tgt := 23) hx hb dX8_noted_8 (by decide) (fun hc => ?_) (fun hc => ?_)
  · replace h := if_elp h hc
    refine lv_lconst (v := 0) hx hb dX8_noted_23 rfl ?_
    exact r_lret X hP hS (pr0 h) rfl dX8_noted_24
  · replace h := if_eln h hc
    refine lv_aload_n hx hb dX8_noted_11 rfl (lv_at hl 0 rfl) ?_
    refine gf_X8_33 X hP dX8_noted_12 ?_
    refine gf_X8_243 X hP dX8_noted_15 ?_
    refine lv_iload_n hx hb dX8_noted_18 rfl (lv_at hl 1 rfl) ?_
    obtain ⟨g_1, h⟩ := gd_el h
    refine r_lald X hP kq_25 g_1 dX8_noted_19 ?_
    refine lv_goto (tgt := 24) hx hb dX8_noted_20 (by decide) ?_
    exact r_lret X hP hS (pr0 h) rfl dX8_noted_24
abbrev rmX8_howManyAre : Room := { frames := 0, cells := 0, slots := 0, locals := 0 }
def f_X8_howManyAre_28 (nT : Nat) (M : Mem) (K4 : Int32 → Int32 → Int32 → Option (Int32)) (v1 : Int32) (v2 : Int32) (v3 : Int32) : Option (Int32) :=
  lt (v3 + 1) fun v_1 => K4 v1 v2 v_1
set_option maxRecDepth 100000 in
set_option maxHeartbeats 4000000 in
theorem w_X8_howManyAre_28 (X : Cx p s m args meth c cX8_howManyAre RX8 4 (some .int) G cy) {M : Mem} {out : Int32} {K4 : Int32 → Int32 → Int32 → Option (Int32)} (hK4 : ∀ (H : Heap) (locs : List Loc) (ls : Array Slot) (v1 : Int32) (v2 : Int32) (v3 : Int32), Pic G B cy nT M H → va_S (FB B) s.heap H locs → lv_has ls 4 [(0, .ref (B + 0)), (1, .int v1), (2, .int v2), (3, .int v3)] → K4 v1 v2 v3 = some out → W p l e rmX8_howManyAre s m args below meth c H locs 0 0 (MQ below (Qi G B cy nT out M) args s 0 0 (FB B)) (F0 m 4 ls [])) {v1 : Int32} {v2 : Int32} {v3 : Int32} (hP : Pic G B cy nT M H) (hS : va_S (FB B) s.heap H locs) (hl : lv_has ls 4 [(0, .ref (B + 0)), (1, .int v1), (2, .int v2), (3, .int v3)]) (h : f_X8_howManyAre_28 nT M K4 v1 v2 v3 = some out) : W p l e rmX8_howManyAre s m args below meth c H locs 0 0 (MQ below (Qi G B cy nT out M) args s 0 0 (FB B)) (F0 m 28 ls []) := by
  obtain ⟨hx, hb, hr, hml, hown, hts, hKn, hlk⟩ := id X
  unfold f_X8_howManyAre_28 at h
  obtain ⟨v_1, e_1, h⟩ := lt_el h
  refine lv_iinc (v := v_1) (lv' := [(3, .int v_1), (0, .ref (B + 0)), (1, .int v1), (2, .int v2)]) hx hb dX8_howManyAre_28 hl (k := 3) rfl (by rw [e_1]; rfl) (by decide) rfl (fun ls hl => ?_)
  refine lv_goto (tgt := 4) hx hb dX8_howManyAre_31 (by decide) ?_
  exact hK4 _ _ _ _ _ _ hP hS (lv_sub hl [1, 2, 3, 0] rfl) h
def f_X8_howManyAre_4 (nT : Nat) (M : Mem) : Nat → Int32 → Int32 → Int32 → Option (Int32)
  | 0, _, _, _ => none
  | n + 1, v1, v2, v3 => if (gI M 0 8) ≤ v3 then (some v2) else (gd (inR v3 20) <| gd (decide (v3.toNatClampNeg < nT)) <| if (gI M (189 + 4 * v3.toNatClampNeg) 1) = v1 then (lt (v2 + 1) fun v_1 => f_X8_howManyAre_28 nT M (f_X8_howManyAre_4 nT M n) v1 v_1 v3) else (f_X8_howManyAre_28 nT M (f_X8_howManyAre_4 nT M n) v1 v2 v3))
set_option maxRecDepth 100000 in
set_option maxHeartbeats 4000000 in
theorem w_X8_howManyAre_4 (X : Cx p s m args meth c cX8_howManyAre RX8 4 (some .int) G cy) {M : Mem} {out : Int32} : ∀ n : Nat, ∀ (H : Heap) (locs : List Loc) (ls : Array Slot) (v1 : Int32) (v2 : Int32) (v3 : Int32), Pic G B cy nT M H → va_S (FB B) s.heap H locs → lv_has ls 4 [(0, .ref (B + 0)), (1, .int v1), (2, .int v2), (3, .int v3)] → f_X8_howManyAre_4 nT M n v1 v2 v3 = some out → W p l e rmX8_howManyAre s m args below meth c H locs 0 0 (MQ below (Qi G B cy nT out M) args s 0 0 (FB B)) (F0 m 4 ls []) := by
  obtain ⟨hx, hb, hr, hml, hown, hts, hKn, hlk⟩ := id X
  intro n
  induction n with
  | zero =>
    intro H locs ls v1 v2 v3 hP hS hl h
    cases h
  | succ n ih =>
    intro H locs ls v1 v2 v3 hP hS hl h
    rw [f_X8_howManyAre_4] at h
    refine lv_iload_n hx hb dX8_howManyAre_4 rfl (lv_at hl 3 rfl) ?_
    refine lv_aload_n hx hb dX8_howManyAre_5 rfl (lv_at hl 0 rfl) ?_
    refine gf_X8_151 X hP dX8_howManyAre_6 ?_
    refine lv_icmp_ge (tgt := 34) hx hb dX8_howManyAre_9 (by decide) (fun hc => ?_) (fun hc => ?_)
    · replace h := if_elp h hc
      refine lv_iload_n hx hb dX8_howManyAre_34 rfl (lv_at hl 2 rfl) ?_
      exact r_iret X hP hS (pr0 h) rfl dX8_howManyAre_35
    · replace h := if_eln h hc
      refine lv_aload_n hx hb dX8_howManyAre_12 rfl (lv_at hl 0 rfl) ?_
      refine gf_X8_39 X hP dX8_howManyAre_13 ?_
      refine lv_iload_n hx hb dX8_howManyAre_16 rfl (lv_at hl 3 rfl) ?_
      obtain ⟨g_1, h⟩ := gd_el h
      obtain ⟨g_2, h⟩ := gd_el h
      refine r_aaT X hP g_1 g_2 dX8_howManyAre_17 ?_
      have h_1 := okT_of g_2
      refine gf_X8_167 X hP (kT_0 h_1) dX8_howManyAre_18 ?_
      refine lv_iload_n hx hb dX8_howManyAre_21 rfl (lv_at hl 1 rfl) ?_
      refine lv_icmp_ne (tgt := 28) hx hb dX8_howManyAre_22 (by decide) (fun hc => ?_) (fun hc => ?_)
      · replace h := if_eln h hc
        exact w_X8_howManyAre_28 X ih hP hS (lv_sub hl [0, 1, 2, 3] rfl) h
      · replace h := if_elp h hc
        obtain ⟨v_1, e_1, h⟩ := lt_el h
        refine lv_iinc (v := v_1) (lv' := [(2, .int v_1), (0, .ref (B + 0)), (1, .int v1), (3, .int v3)]) hx hb dX8_howManyAre_25 hl (k := 2) rfl (by rw [e_1]; rfl) (by decide) rfl (fun ls hl => ?_)
        exact w_X8_howManyAre_28 X ih hP hS (lv_sub hl [1, 2, 0, 3] rfl) h
def f_X8_howManyAre (nT : Nat) (M : Mem) (a1 : Int32) : Option (Int32) :=
  f_X8_howManyAre_4 nT M FU a1 0 0
set_option maxRecDepth 100000 in
set_option maxHeartbeats 4000000 in
theorem c_X8_howManyAre {l : Launch} {G : va_G} {cy : Nat → ClassId} {B nT : Nat} {M : Mem} {a1 : Int32} {out : Int32} (h : f_X8_howManyAre nT M a1 = some out) : Met l yX8_howManyAre (wsU yX8_howManyAre cX8_howManyAre 4 (some .int)) rmX8_howManyAre (va_Pc [.ref (B + 0), .int a1] (PU G B cy nT M)) (Qi G B cy nT out M) 0 0 (FB B) := by
  refine r_met (by decide +kernel) RX8 rfl (Nat.le_of_ble_eq_true rfl) ?_
  intro p e s m args below meth c ls X hP hl
  have hl : lv_has ls 4 [(0, .ref (B + 0)), (1, .int a1)] := hl
  have hS : va_S (FB B) s.heap s.heap [] := va_S.rf
  obtain ⟨hx, hb, hr, hml, hown, hts, hKn, hlk⟩ := id X
  unfold f_X8_howManyAre at h
  refine lv_iconst (v := 0) hx hb dX8_howManyAre_0 (by decide) ?_
  refine lv_istore_n (lv' := [(2, .int 0), (0, .ref (B + 0)), (1, .int a1)]) hx hb dX8_howManyAre_1 rfl hl (by decide) rfl (fun ls hl => ?_)
  refine lv_iconst (v := 0) hx hb dX8_howManyAre_2 (by decide) ?_
  refine lv_istore_n (lv' := [(3, .int 0), (2, .int 0), (0, .ref (B + 0)), (1, .int a1)]) hx hb dX8_howManyAre_3 rfl hl (by decide) rfl (fun ls hl => ?_)
  exact w_X8_howManyAre_4 X FU _ _ _ _ _ _ hP hS (lv_sub hl [2, 3, 1, 0] rfl) h
abbrev rmX8_count : Room := { frames := 1, cells := 0, slots := 0, locals := 23 }
def f_X8_count (nT : Nat) (M : Mem) (a1 : Int32) : Option (Int32) :=
  if a1 = 0 then (some (gI M 0 8)) else if a1 = 1 then (Option.bind (f_X8_howManyAre nT M 0) fun r_1 => some r_1) else if a1 = 2 then (Option.bind (f_X8_howManyAre nT M 3) fun r_2 => some r_2) else if a1 = 3 then (some (gI M 0 9)) else if a1 = 4 then (some (gI M 0 10)) else if a1 = 5 then (some (gI M 0 11)) else if a1 = 6 then (some (gI M 22 3)) else if a1 = 7 then (some (gI M 17 4)) else some (-2)
set_option maxRecDepth 100000 in
set_option maxHeartbeats 4000000 in
theorem c_X8_count {l : Launch} {G : va_G} {cy : Nat → ClassId} {B nT : Nat} {M : Mem} {a1 : Int32} {out : Int32} (h : f_X8_count nT M a1 = some out) : Met l yX8_count (wsU yX8_count cX8_count 2 (some .int)) rmX8_count (va_Pc [.ref (B + 0), .int a1] (PU G B cy nT M)) (Qi G B cy nT out M) 0 0 (FB B) := by
  refine r_met (by decide +kernel) RX8 rfl (Nat.le_of_ble_eq_true rfl) ?_
  intro p e s m args below meth c ls X hP hl
  have hl : lv_has ls 2 [(0, .ref (B + 0)), (1, .int a1)] := hl
  have hS : va_S (FB B) s.heap s.heap [] := va_S.rf
  obtain ⟨hx, hb, hr, hml, hown, hts, hKn, hlk⟩ := id X
  unfold f_X8_count at h
  refine lv_iload_n hx hb dX8_count_0 rfl (lv_at hl 1 rfl) ?_
  by_cases h_1 : a1 = 0
  · replace h := if_elp h h_1
    refine lv_tableIn (off := 47) (tgt := 48) hx hb dX8_count_1 (by rw [h_1]; decide) (by rw [h_1]; decide) (by rw [h_1]; rfl) (by decide) ?_
    refine lv_aload_n hx hb dX8_count_48 rfl (lv_at hl 0 rfl) ?_
    refine gf_X8_151 X hP dX8_count_49 ?_
    exact r_iret X hP hS (pr0 h) rfl dX8_count_52
  · replace h := if_eln h h_1
    by_cases h_2 : a1 = 1
    · replace h := if_elp h h_2
      refine lv_tableIn (off := 52) (tgt := 53) hx hb dX8_count_1 (by rw [h_2]; decide) (by rw [h_2]; decide) (by rw [h_2]; rfl) (by decide) ?_
      refine lv_aload_n hx hb dX8_count_53 rfl (lv_at hl 0 rfl) ?_
      refine lv_iconst (v := 0) hx hb dX8_count_54 (by decide) ?_
      obtain ⟨r_1, h_3, h⟩ := bd_el h
      refine cl_i (rn_V (C := RX8) (ci := 8) X hP (c_X8_howManyAre h_3) kq_0 rfl k_534 k_535 k_905 k_1 k_536 rfl hd_X8_howManyAre (n := 1) ⟨⟨rfl, rfl⟩, Nat.le_of_ble_eq_true rfl, Nat.le_of_ble_eq_true rfl⟩ (As := [.int 0]) (rest := []) rfl hl.1 rfl (Nat.le_of_ble_eq_true rfl) dX8_count_55 ⟨Nat.zero_le _, Nat.zero_le _⟩) hS (fun H locs hP hS => ?_)
      exact r_iret X hP hS (pr0 h) rfl dX8_count_58
    · replace h := if_eln h h_2
      by_cases h_4 : a1 = 2
      · replace h := if_elp h h_4
        refine lv_tableIn (off := 58) (tgt := 59) hx hb dX8_count_1 (by rw [h_4]; decide) (by rw [h_4]; decide) (by rw [h_4]; rfl) (by decide) ?_
        refine lv_aload_n hx hb dX8_count_59 rfl (lv_at hl 0 rfl) ?_
        refine lv_iconst (v := 3) hx hb dX8_count_60 (by decide) ?_
        obtain ⟨r_2, h_5, h⟩ := bd_el h
        refine cl_i (rn_V (C := RX8) (ci := 8) X hP (c_X8_howManyAre h_5) kq_0 rfl k_534 k_535 k_905 k_1 k_536 rfl hd_X8_howManyAre (n := 1) ⟨⟨rfl, rfl⟩, Nat.le_of_ble_eq_true rfl, Nat.le_of_ble_eq_true rfl⟩ (As := [.int 3]) (rest := []) rfl hl.1 rfl (Nat.le_of_ble_eq_true rfl) dX8_count_61 ⟨Nat.zero_le _, Nat.zero_le _⟩) hS (fun H locs hP hS => ?_)
        exact r_iret X hP hS (pr0 h) rfl dX8_count_64
      · replace h := if_eln h h_4
        by_cases h_6 : a1 = 3
        · replace h := if_elp h h_6
          refine lv_tableIn (off := 64) (tgt := 65) hx hb dX8_count_1 (by rw [h_6]; decide) (by rw [h_6]; decide) (by rw [h_6]; rfl) (by decide) ?_
          refine lv_aload_n hx hb dX8_count_65 rfl (lv_at hl 0 rfl) ?_
          refine gf_X8_233 X hP dX8_count_66 ?_
          exact r_iret X hP hS (pr0 h) rfl dX8_count_69
        · replace h := if_eln h h_6
          by_cases h_7 : a1 = 4
          · replace h := if_elp h h_7
            refine lv_tableIn (off := 69) (tgt := 70) hx hb dX8_count_1 (by rw [h_7]; decide) (by rw [h_7]; decide) (by rw [h_7]; rfl) (by decide) ?_
            refine lv_aload_n hx hb dX8_count_70 rfl (lv_at hl 0 rfl) ?_
            refine gf_X8_249 X hP dX8_count_71 ?_
            exact r_iret X hP hS (pr0 h) rfl dX8_count_74
          · replace h := if_eln h h_7
            by_cases h_8 : a1 = 5
            · replace h := if_elp h h_8
              refine lv_tableIn (off := 74) (tgt := 75) hx hb dX8_count_1 (by rw [h_8]; decide) (by rw [h_8]; decide) (by rw [h_8]; rfl) (by decide) ?_
              refine lv_aload_n hx hb dX8_count_75 rfl (lv_at hl 0 rfl) ?_
              refine gf_X8_252 X hP dX8_count_76 ?_
              exact r_iret X hP hS (pr0 h) rfl dX8_count_79
            · replace h := if_eln h h_8
              by_cases h_9 : a1 = 6
              · replace h := if_elp h h_9
                refine lv_tableIn (off := 79) (tgt := 80) hx hb dX8_count_1 (by rw [h_9]; decide) (by rw [h_9]; decide) (by rw [h_9]; rfl) (by decide) ?_
                refine lv_aload_n hx hb dX8_count_80 rfl (lv_at hl 0 rfl) ?_
                refine gf_X8_33 X hP dX8_count_81 ?_
                refine gf_X8_255 X hP dX8_count_84 ?_
                exact r_iret X hP hS (pr0 h) rfl dX8_count_87
              · replace h := if_eln h h_9
                by_cases h_10 : a1 = 7
                · replace h := if_elp h h_10
                  refine lv_tableIn (off := 87) (tgt := 88) hx hb dX8_count_1 (by rw [h_10]; decide) (by rw [h_10]; decide) (by rw [h_10]; rfl) (by decide) ?_
                  refine lv_aload_n hx hb dX8_count_88 rfl (lv_at hl 0 rfl) ?_
                  refine gf_X8_26 X hP dX8_count_89 ?_
                  refine gf_X8_145 X hP dX8_count_92 ?_
                  exact r_iret X hP hS (pr0 h) rfl dX8_count_95
                · replace h := if_eln h h_10
                  refine lv_tableOut (tgt := 96) hx hb dX8_count_1 (by have z0 := lv_neT (a := 0) h_1 rfl; have z1 := lv_neT (a := 1) h_2 rfl; have z2 := lv_neT (a := 2) h_4 rfl; have z3 := lv_neT (a := 3) h_6 rfl; have z4 := lv_neT (a := 4) h_7 rfl; have z5 := lv_neT (a := 5) h_8 rfl; have z6 := lv_neT (a := 6) h_9 rfl; have z7 := lv_neT (a := 7) h_10 rfl; omega) (by decide) ?_
                  refine lv_bipush (v := (-2)) hx hb dX8_count_96 (by decide) ?_
                  exact r_iret X hP hS (pr0 h) rfl dX8_count_98
abbrev rmX8_digest : Room := { frames := 2, cells := 0, slots := 0, locals := 45 }
def f_X8_digest_151 (nT : Nat) (M : Mem) : Nat → Int64 → Int32 → Option (Int64)
  | 0, _, _ => none
  | n + 1, v1, v3 => if (gI M 0 9) ≤ v3 then (some v1) else (Option.bind (f_X8_order M v3) fun r_1 => lt ((31 * v1) + (Int32.toInt64 r_1)) fun v_1 => lt (v3 + 1) fun v_2 => (f_X8_digest_151 nT M n) v_1 v_2)
set_option maxRecDepth 100000 in
set_option maxHeartbeats 4000000 in
theorem w_X8_digest_151 (X : Cx p s m args meth c cX8_digest RX8 5 (some .long) G cy) {M : Mem} {out : Int64} : ∀ n : Nat, ∀ (H : Heap) (locs : List Loc) (ls : Array Slot) (v1 : Int64) (v3 : Int32), Pic G B cy nT M H → va_S (FB B) s.heap H locs → lv_has ls 5 [(0, .ref (B + 0)), (1, .long v1), (3, .int v3)] → f_X8_digest_151 nT M n v1 v3 = some out → W p l e rmX8_digest s m args below meth c H locs 0 0 (MQ below (Ql G B cy nT out M) args s 0 0 (FB B)) (F0 m 151 ls []) := by
  obtain ⟨hx, hb, hr, hml, hown, hts, hKn, hlk⟩ := id X
  intro n
  induction n with
  | zero =>
    intro H locs ls v1 v3 hP hS hl h
    cases h
  | succ n ih =>
    intro H locs ls v1 v3 hP hS hl h
    rw [f_X8_digest_151] at h
    refine lv_iload_n hx hb dX8_digest_151 rfl (lv_at hl 2 rfl) ?_
    refine lv_aload_n hx hb dX8_digest_152 rfl (lv_at hl 0 rfl) ?_
    refine gf_X8_233 X hP dX8_digest_153 ?_
    refine lv_icmp_ge (tgt := 178) hx hb dX8_digest_156 (by decide) (fun hc => ?_) (fun hc => ?_)
    · replace h := if_elp h hc
      refine lv_lload_n hx hb dX8_digest_178 rfl (lv_at hl 1 rfl) ?_
      exact r_lret X hP hS (pr0 h) rfl dX8_digest_179
    · replace h := if_eln h hc
      refine lv_ldc2 (v := 31) hx hb hown (hts _ k_542) dX8_digest_159 ?_
      refine lv_lload_n hx hb dX8_digest_162 rfl (lv_at hl 1 rfl) ?_
      refine lv_lmul hx hb dX8_digest_163 ?_
      refine lv_aload_n hx hb dX8_digest_164 rfl (lv_at hl 0 rfl) ?_
      refine lv_iload_n hx hb dX8_digest_165 rfl (lv_at hl 2 rfl) ?_
      obtain ⟨r_1, h_1, h⟩ := bd_el h
      refine cl_i (rn_V (C := RX8) (ci := 8) X hP (c_X8_order h_1) kq_0 rfl k_548 k_515 k_516 k_1 k_517 rfl hd_X8_order (n := 1) ⟨⟨rfl, rfl⟩, Nat.le_of_ble_eq_true rfl, Nat.le_of_ble_eq_true rfl⟩ (As := [.int v3]) (rest := [.long (31 * v1)]) rfl hl.1 rfl (Nat.le_of_ble_eq_true rfl) dX8_digest_166 ⟨Nat.zero_le _, Nat.zero_le _⟩) hS (fun H locs hP hS => ?_)
      refine lv_i2l (v := (Int32.toInt64 r_1)) hx hb dX8_digest_169 rfl ?_
      refine lv_ladd hx hb dX8_digest_170 ?_
      obtain ⟨v_1, e_1, h⟩ := lt_el h
      refine r_topl e_1 ?_
      refine lv_lstore_n (lv' := [(1, .long v_1), (0, .ref (B + 0)), (3, .int v3)]) hx hb dX8_digest_171 rfl hl (by decide) rfl (fun ls hl => ?_)
      obtain ⟨v_2, e_2, h⟩ := lt_el h
      refine lv_iinc (v := v_2) (lv' := [(3, .int v_2), (1, .long v_1), (0, .ref (B + 0))]) hx hb dX8_digest_172 hl (k := 2) rfl (by rw [e_2]; rfl) (by decide) rfl (fun ls hl => ?_)
      refine lv_goto (tgt := 151) hx hb dX8_digest_175 (by decide) ?_
      exact ih _ _ _ _ _ hP hS (lv_sub hl [2, 1, 0] rfl) h
def f_X8_digest_116 (nT : Nat) (M : Mem) (K75 : Int64 → Int32 → Option (Int64)) : Nat → Int64 → Int32 → Int32 → Option (Int64)
  | 0, _, _, _ => none
  | n + 1, v1, v3, v4 => if 8 ≤ v4 then (lt (v3 + 1) fun v_1 => K75 v1 v_1) else (Option.bind (f_X8_answer nT M v3 v4) fun r_1 => lt ((31 * v1) + r_1) fun v_2 => lt (v4 + 1) fun v_3 => (f_X8_digest_116 nT M K75 n) v_2 v3 v_3)
set_option maxRecDepth 100000 in
set_option maxHeartbeats 4000000 in
theorem w_X8_digest_116 (X : Cx p s m args meth c cX8_digest RX8 5 (some .long) G cy) {M : Mem} {out : Int64} {K75 : Int64 → Int32 → Option (Int64)} (hK75 : ∀ (H : Heap) (locs : List Loc) (ls : Array Slot) (v1 : Int64) (v3 : Int32), Pic G B cy nT M H → va_S (FB B) s.heap H locs → lv_has ls 5 [(0, .ref (B + 0)), (1, .long v1), (3, .int v3)] → K75 v1 v3 = some out → W p l e rmX8_digest s m args below meth c H locs 0 0 (MQ below (Ql G B cy nT out M) args s 0 0 (FB B)) (F0 m 75 ls [])) : ∀ n : Nat, ∀ (H : Heap) (locs : List Loc) (ls : Array Slot) (v1 : Int64) (v3 : Int32) (v4 : Int32), Pic G B cy nT M H → va_S (FB B) s.heap H locs → lv_has ls 5 [(0, .ref (B + 0)), (1, .long v1), (3, .int v3), (4, .int v4)] → f_X8_digest_116 nT M K75 n v1 v3 v4 = some out → W p l e rmX8_digest s m args below meth c H locs 0 0 (MQ below (Ql G B cy nT out M) args s 0 0 (FB B)) (F0 m 116 ls []) := by
  obtain ⟨hx, hb, hr, hml, hown, hts, hKn, hlk⟩ := id X
  intro n
  induction n with
  | zero =>
    intro H locs ls v1 v3 v4 hP hS hl h
    cases h
  | succ n ih =>
    intro H locs ls v1 v3 v4 hP hS hl h
    rw [f_X8_digest_116] at h
    refine lv_iload hx hb dX8_digest_116 (lv_at hl 3 rfl) ?_
    refine lv_bipush (v := 8) hx hb dX8_digest_118 (by decide) ?_
    refine lv_icmp_ge (tgt := 143) hx hb dX8_digest_120 (by decide) (fun hc => ?_) (fun hc => ?_)
    · replace h := if_elp h hc
      obtain ⟨v_1, e_1, h⟩ := lt_el h
      refine lv_iinc (v := v_1) (lv' := [(3, .int v_1), (0, .ref (B + 0)), (1, .long v1), (4, .int v4)]) hx hb dX8_digest_143 hl (k := 2) rfl (by rw [e_1]; rfl) (by decide) rfl (fun ls hl => ?_)
      refine lv_goto (tgt := 75) hx hb dX8_digest_146 (by decide) ?_
      exact hK75 _ _ _ _ _ hP hS (lv_sub hl [1, 2, 0] rfl) h
    · replace h := if_eln h hc
      refine lv_ldc2 (v := 31) hx hb hown (hts _ k_542) dX8_digest_123 ?_
      refine lv_lload_n hx hb dX8_digest_126 rfl (lv_at hl 1 rfl) ?_
      refine lv_lmul hx hb dX8_digest_127 ?_
      refine lv_aload_n hx hb dX8_digest_128 rfl (lv_at hl 0 rfl) ?_
      refine lv_iload_n hx hb dX8_digest_129 rfl (lv_at hl 2 rfl) ?_
      refine lv_iload hx hb dX8_digest_130 (lv_at hl 3 rfl) ?_
      obtain ⟨r_1, h_1, h⟩ := bd_el h
      refine cl_l (rn_V (C := RX8) (ci := 8) X hP (c_X8_answer h_1) kq_0 rfl k_547 k_494 k_495 k_1 k_496 rfl hd_X8_answer (n := 2) ⟨⟨rfl, rfl⟩, Nat.le_of_ble_eq_true rfl, Nat.le_of_ble_eq_true rfl⟩ (As := [.int v3, .int v4]) (rest := [.long (31 * v1)]) rfl hl.1 rfl (Nat.le_of_ble_eq_true rfl) dX8_digest_132 ⟨Nat.zero_le _, Nat.zero_le _⟩) hS (fun H locs hP hS => ?_)
      refine lv_ladd hx hb dX8_digest_135 ?_
      obtain ⟨v_2, e_2, h⟩ := lt_el h
      refine r_topl e_2 ?_
      refine lv_lstore_n (lv' := [(1, .long v_2), (0, .ref (B + 0)), (3, .int v3), (4, .int v4)]) hx hb dX8_digest_136 rfl hl (by decide) rfl (fun ls hl => ?_)
      obtain ⟨v_3, e_3, h⟩ := lt_el h
      refine lv_iinc (v := v_3) (lv' := [(4, .int v_3), (1, .long v_2), (0, .ref (B + 0)), (3, .int v3)]) hx hb dX8_digest_137 hl (k := 3) rfl (by rw [e_3]; rfl) (by decide) rfl (fun ls hl => ?_)
      refine lv_goto (tgt := 116) hx hb dX8_digest_140 (by decide) ?_
      exact ih _ _ _ _ _ _ hP hS (lv_sub hl [2, 1, 3, 0] rfl) h
def f_X8_digest_86 (nT : Nat) (M : Mem) (K75 : Int64 → Int32 → Option (Int64)) : Nat → Int64 → Int32 → Int32 → Option (Int64)
  | 0, _, _, _ => none
  | n + 1, v1, v3, v4 => if 5 < v4 then (f_X8_digest_116 nT M K75 FU v1 v3 0) else (Option.bind (f_X8_ticket nT M v3 v4) fun r_1 => lt ((31 * v1) + (Int32.toInt64 r_1)) fun v_1 => lt (v4 + 1) fun v_2 => (f_X8_digest_86 nT M K75 n) v_1 v3 v_2)
set_option maxRecDepth 100000 in
set_option maxHeartbeats 4000000 in
theorem w_X8_digest_86 (X : Cx p s m args meth c cX8_digest RX8 5 (some .long) G cy) {M : Mem} {out : Int64} {K75 : Int64 → Int32 → Option (Int64)} (hK75 : ∀ (H : Heap) (locs : List Loc) (ls : Array Slot) (v1 : Int64) (v3 : Int32), Pic G B cy nT M H → va_S (FB B) s.heap H locs → lv_has ls 5 [(0, .ref (B + 0)), (1, .long v1), (3, .int v3)] → K75 v1 v3 = some out → W p l e rmX8_digest s m args below meth c H locs 0 0 (MQ below (Ql G B cy nT out M) args s 0 0 (FB B)) (F0 m 75 ls [])) : ∀ n : Nat, ∀ (H : Heap) (locs : List Loc) (ls : Array Slot) (v1 : Int64) (v3 : Int32) (v4 : Int32), Pic G B cy nT M H → va_S (FB B) s.heap H locs → lv_has ls 5 [(0, .ref (B + 0)), (1, .long v1), (3, .int v3), (4, .int v4)] → f_X8_digest_86 nT M K75 n v1 v3 v4 = some out → W p l e rmX8_digest s m args below meth c H locs 0 0 (MQ below (Ql G B cy nT out M) args s 0 0 (FB B)) (F0 m 86 ls []) := by
  obtain ⟨hx, hb, hr, hml, hown, hts, hKn, hlk⟩ := id X
  intro n
  induction n with
  | zero =>
    intro H locs ls v1 v3 v4 hP hS hl h
    cases h
  | succ n ih =>
    intro H locs ls v1 v3 v4 hP hS hl h
    rw [f_X8_digest_86] at h
    refine lv_iload hx hb dX8_digest_86 (lv_at hl 3 rfl) ?_
    refine lv_iconst (v := 5) hx hb dX8_digest_88 (by decide) ?_
    refine lv_icmp_gt (tgt := 113) hx hb dX8_digest_89 (by decide) (fun hc => ?_) (fun hc => ?_)
    · replace h := if_elp h hc
      refine lv_iconst (v := 0) hx hb dX8_digest_113 (by decide) ?_
      refine lv_istore (lv' := [(4, .int 0), (0, .ref (B + 0)), (1, .long v1), (3, .int v3)]) hx hb dX8_digest_114 hl (by decide) rfl (fun ls hl => ?_)
      exact w_X8_digest_116 X hK75 FU _ _ _ _ _ _ hP hS (lv_sub hl [1, 2, 3, 0] rfl) h
    · replace h := if_eln h hc
      refine lv_ldc2 (v := 31) hx hb hown (hts _ k_542) dX8_digest_92 ?_
      refine lv_lload_n hx hb dX8_digest_95 rfl (lv_at hl 1 rfl) ?_
      refine lv_lmul hx hb dX8_digest_96 ?_
      refine lv_aload_n hx hb dX8_digest_97 rfl (lv_at hl 0 rfl) ?_
      refine lv_iload_n hx hb dX8_digest_98 rfl (lv_at hl 2 rfl) ?_
      refine lv_iload hx hb dX8_digest_99 (lv_at hl 3 rfl) ?_
      obtain ⟨r_1, h_1, h⟩ := bd_el h
      refine cl_i (rn_V (C := RX8) (ci := 8) X hP (c_X8_ticket h_1) kq_0 rfl k_546 k_487 k_488 k_1 k_489 rfl hd_X8_ticket (n := 2) ⟨⟨rfl, rfl⟩, Nat.le_of_ble_eq_true rfl, Nat.le_of_ble_eq_true rfl⟩ (As := [.int v3, .int v4]) (rest := [.long (31 * v1)]) rfl hl.1 rfl (Nat.le_of_ble_eq_true rfl) dX8_digest_101 ⟨Nat.zero_le _, Nat.zero_le _⟩) hS (fun H locs hP hS => ?_)
      refine lv_i2l (v := (Int32.toInt64 r_1)) hx hb dX8_digest_104 rfl ?_
      refine lv_ladd hx hb dX8_digest_105 ?_
      obtain ⟨v_1, e_1, h⟩ := lt_el h
      refine r_topl e_1 ?_
      refine lv_lstore_n (lv' := [(1, .long v_1), (0, .ref (B + 0)), (3, .int v3), (4, .int v4)]) hx hb dX8_digest_106 rfl hl (by decide) rfl (fun ls hl => ?_)
      obtain ⟨v_2, e_2, h⟩ := lt_el h
      refine lv_iinc (v := v_2) (lv' := [(4, .int v_2), (1, .long v_1), (0, .ref (B + 0)), (3, .int v3)]) hx hb dX8_digest_107 hl (k := 3) rfl (by rw [e_2]; rfl) (by decide) rfl (fun ls hl => ?_)
      refine lv_goto (tgt := 86) hx hb dX8_digest_110 (by decide) ?_
      exact ih _ _ _ _ _ _ hP hS (lv_sub hl [2, 1, 3, 0] rfl) h
def f_X8_digest_75 (nT : Nat) (M : Mem) : Nat → Int64 → Int32 → Option (Int64)
  | 0, _, _ => none
  | n + 1, v1, v3 => if (gI M 0 8) ≤ v3 then (f_X8_digest_151 nT M FU v1 0) else (f_X8_digest_86 nT M (f_X8_digest_75 nT M n) FU v1 v3 0)
set_option maxRecDepth 100000 in
set_option maxHeartbeats 4000000 in
theorem w_X8_digest_75 (X : Cx p s m args meth c cX8_digest RX8 5 (some .long) G cy) {M : Mem} {out : Int64} : ∀ n : Nat, ∀ (H : Heap) (locs : List Loc) (ls : Array Slot) (v1 : Int64) (v3 : Int32), Pic G B cy nT M H → va_S (FB B) s.heap H locs → lv_has ls 5 [(0, .ref (B + 0)), (1, .long v1), (3, .int v3)] → f_X8_digest_75 nT M n v1 v3 = some out → W p l e rmX8_digest s m args below meth c H locs 0 0 (MQ below (Ql G B cy nT out M) args s 0 0 (FB B)) (F0 m 75 ls []) := by
  obtain ⟨hx, hb, hr, hml, hown, hts, hKn, hlk⟩ := id X
  intro n
  induction n with
  | zero =>
    intro H locs ls v1 v3 hP hS hl h
    cases h
  | succ n ih =>
    intro H locs ls v1 v3 hP hS hl h
    rw [f_X8_digest_75] at h
    refine lv_iload_n hx hb dX8_digest_75 rfl (lv_at hl 2 rfl) ?_
    refine lv_aload_n hx hb dX8_digest_76 rfl (lv_at hl 0 rfl) ?_
    refine gf_X8_151 X hP dX8_digest_77 ?_
    refine lv_icmp_ge (tgt := 149) hx hb dX8_digest_80 (by decide) (fun hc => ?_) (fun hc => ?_)
    · replace h := if_elp h hc
      refine lv_iconst (v := 0) hx hb dX8_digest_149 (by decide) ?_
      refine lv_istore_n (lv' := [(3, .int 0), (0, .ref (B + 0)), (1, .long v1)]) hx hb dX8_digest_150 rfl hl (by decide) rfl (fun ls hl => ?_)
      exact w_X8_digest_151 X FU _ _ _ _ _ hP hS (lv_sub hl [1, 2, 0] rfl) h
    · replace h := if_eln h hc
      refine lv_iconst (v := 0) hx hb dX8_digest_83 (by decide) ?_
      refine lv_istore (lv' := [(4, .int 0), (0, .ref (B + 0)), (1, .long v1), (3, .int v3)]) hx hb dX8_digest_84 hl (by decide) rfl (fun ls hl => ?_)
      exact w_X8_digest_86 X ih FU _ _ _ _ _ _ hP hS (lv_sub hl [1, 2, 3, 0] rfl) h
def f_X8_digest_40 (nT : Nat) (M : Mem) (K6 : Int64 → Int32 → Option (Int64)) : Nat → Int64 → Int32 → Int32 → Option (Int64)
  | 0, _, _, _ => none
  | n + 1, v1, v3, v4 => if 3 < v4 then (lt (v3 + 1) fun v_1 => K6 v1 v_1) else (Option.bind (f_X8_cell M v3 v4) fun r_1 => lt ((31 * v1) + (Int32.toInt64 r_1)) fun v_2 => lt (v4 + 1) fun v_3 => (f_X8_digest_40 nT M K6 n) v_2 v3 v_3)
set_option maxRecDepth 100000 in
set_option maxHeartbeats 4000000 in
theorem w_X8_digest_40 (X : Cx p s m args meth c cX8_digest RX8 5 (some .long) G cy) {M : Mem} {out : Int64} {K6 : Int64 → Int32 → Option (Int64)} (hK6 : ∀ (H : Heap) (locs : List Loc) (ls : Array Slot) (v1 : Int64) (v3 : Int32), Pic G B cy nT M H → va_S (FB B) s.heap H locs → lv_has ls 5 [(0, .ref (B + 0)), (1, .long v1), (3, .int v3)] → K6 v1 v3 = some out → W p l e rmX8_digest s m args below meth c H locs 0 0 (MQ below (Ql G B cy nT out M) args s 0 0 (FB B)) (F0 m 6 ls [])) : ∀ n : Nat, ∀ (H : Heap) (locs : List Loc) (ls : Array Slot) (v1 : Int64) (v3 : Int32) (v4 : Int32), Pic G B cy nT M H → va_S (FB B) s.heap H locs → lv_has ls 5 [(0, .ref (B + 0)), (1, .long v1), (3, .int v3), (4, .int v4)] → f_X8_digest_40 nT M K6 n v1 v3 v4 = some out → W p l e rmX8_digest s m args below meth c H locs 0 0 (MQ below (Ql G B cy nT out M) args s 0 0 (FB B)) (F0 m 40 ls []) := by
  obtain ⟨hx, hb, hr, hml, hown, hts, hKn, hlk⟩ := id X
  intro n
  induction n with
  | zero =>
    intro H locs ls v1 v3 v4 hP hS hl h
    cases h
  | succ n ih =>
    intro H locs ls v1 v3 v4 hP hS hl h
    rw [f_X8_digest_40] at h
    refine lv_iload hx hb dX8_digest_40 (lv_at hl 3 rfl) ?_
    refine lv_iconst (v := 3) hx hb dX8_digest_42 (by decide) ?_
    refine lv_icmp_gt (tgt := 67) hx hb dX8_digest_43 (by decide) (fun hc => ?_) (fun hc => ?_)
    · replace h := if_elp h hc
      obtain ⟨v_1, e_1, h⟩ := lt_el h
      refine lv_iinc (v := v_1) (lv' := [(3, .int v_1), (0, .ref (B + 0)), (1, .long v1), (4, .int v4)]) hx hb dX8_digest_67 hl (k := 2) rfl (by rw [e_1]; rfl) (by decide) rfl (fun ls hl => ?_)
      refine lv_goto (tgt := 6) hx hb dX8_digest_70 (by decide) ?_
      exact hK6 _ _ _ _ _ hP hS (lv_sub hl [1, 2, 0] rfl) h
    · replace h := if_eln h hc
      refine lv_ldc2 (v := 31) hx hb hown (hts _ k_542) dX8_digest_46 ?_
      refine lv_lload_n hx hb dX8_digest_49 rfl (lv_at hl 1 rfl) ?_
      refine lv_lmul hx hb dX8_digest_50 ?_
      refine lv_aload_n hx hb dX8_digest_51 rfl (lv_at hl 0 rfl) ?_
      refine lv_iload_n hx hb dX8_digest_52 rfl (lv_at hl 2 rfl) ?_
      refine lv_iload hx hb dX8_digest_53 (lv_at hl 3 rfl) ?_
      obtain ⟨r_1, h_1, h⟩ := bd_el h
      refine cl_i (rn_V (C := RX8) (ci := 8) X hP (c_X8_cell h_1) kq_0 rfl k_545 k_230 k_231 k_1 k_232 rfl hd_X8_cell (n := 2) ⟨⟨rfl, rfl⟩, Nat.le_of_ble_eq_true rfl, Nat.le_of_ble_eq_true rfl⟩ (As := [.int v3, .int v4]) (rest := [.long (31 * v1)]) rfl hl.1 rfl (Nat.le_of_ble_eq_true rfl) dX8_digest_55 ⟨Nat.zero_le _, Nat.zero_le _⟩) hS (fun H locs hP hS => ?_)
      refine lv_i2l (v := (Int32.toInt64 r_1)) hx hb dX8_digest_58 rfl ?_
      refine lv_ladd hx hb dX8_digest_59 ?_
      obtain ⟨v_2, e_2, h⟩ := lt_el h
      refine r_topl e_2 ?_
      refine lv_lstore_n (lv' := [(1, .long v_2), (0, .ref (B + 0)), (3, .int v3), (4, .int v4)]) hx hb dX8_digest_60 rfl hl (by decide) rfl (fun ls hl => ?_)
      obtain ⟨v_3, e_3, h⟩ := lt_el h
      refine lv_iinc (v := v_3) (lv' := [(4, .int v_3), (1, .long v_2), (0, .ref (B + 0)), (3, .int v3)]) hx hb dX8_digest_61 hl (k := 3) rfl (by rw [e_3]; rfl) (by decide) rfl (fun ls hl => ?_)
      refine lv_goto (tgt := 40) hx hb dX8_digest_64 (by decide) ?_
      exact ih _ _ _ _ _ _ hP hS (lv_sub hl [2, 1, 3, 0] rfl) h
def f_X8_digest_6 (nT : Nat) (M : Mem) : Nat → Int64 → Int32 → Option (Int64)
  | 0, _, _ => none
  | n + 1, v1, v3 => if 40 ≤ v3 then (f_X8_digest_75 nT M FU v1 0) else (Option.bind (f_X8_holds M v3) fun r_1 => lt ((31 * v1) + (Int32.toInt64 r_1)) fun v_1 => Option.bind (f_X8_value M v3) fun r_2 => lt ((31 * v_1) + r_2) fun v_2 => f_X8_digest_40 nT M (f_X8_digest_6 nT M n) FU v_2 v3 0)
set_option maxRecDepth 100000 in
set_option maxHeartbeats 4000000 in
theorem w_X8_digest_6 (X : Cx p s m args meth c cX8_digest RX8 5 (some .long) G cy) {M : Mem} {out : Int64} : ∀ n : Nat, ∀ (H : Heap) (locs : List Loc) (ls : Array Slot) (v1 : Int64) (v3 : Int32), Pic G B cy nT M H → va_S (FB B) s.heap H locs → lv_has ls 5 [(0, .ref (B + 0)), (1, .long v1), (3, .int v3)] → f_X8_digest_6 nT M n v1 v3 = some out → W p l e rmX8_digest s m args below meth c H locs 0 0 (MQ below (Ql G B cy nT out M) args s 0 0 (FB B)) (F0 m 6 ls []) := by
  obtain ⟨hx, hb, hr, hml, hown, hts, hKn, hlk⟩ := id X
  intro n
  induction n with
  | zero =>
    intro H locs ls v1 v3 hP hS hl h
    cases h
  | succ n ih =>
    intro H locs ls v1 v3 hP hS hl h
    rw [f_X8_digest_6] at h
    refine lv_iload_n hx hb dX8_digest_6 rfl (lv_at hl 2 rfl) ?_
    refine lv_bipush (v := 40) hx hb dX8_digest_7 (by decide) ?_
    refine lv_icmp_ge (tgt := 73) hx hb dX8_digest_9 (by decide) (fun hc => ?_) (fun hc => ?_)
    · replace h := if_elp h hc
      refine lv_iconst (v := 0) hx hb dX8_digest_73 (by decide) ?_
      refine lv_istore_n (lv' := [(3, .int 0), (0, .ref (B + 0)), (1, .long v1)]) hx hb dX8_digest_74 rfl hl (by decide) rfl (fun ls hl => ?_)
      exact w_X8_digest_75 X FU _ _ _ _ _ hP hS (lv_sub hl [1, 2, 0] rfl) h
    · replace h := if_eln h hc
      refine lv_ldc2 (v := 31) hx hb hown (hts _ k_542) dX8_digest_12 ?_
      refine lv_lload_n hx hb dX8_digest_15 rfl (lv_at hl 1 rfl) ?_
      refine lv_lmul hx hb dX8_digest_16 ?_
      refine lv_aload_n hx hb dX8_digest_17 rfl (lv_at hl 0 rfl) ?_
      refine lv_iload_n hx hb dX8_digest_18 rfl (lv_at hl 2 rfl) ?_
      obtain ⟨r_1, h_1, h⟩ := bd_el h
      refine cl_i (rn_V (C := RX8) (ci := 8) X hP (c_X8_holds h_1) kq_0 rfl k_543 k_222 k_223 k_1 k_224 rfl hd_X8_holds (n := 1) ⟨⟨rfl, rfl⟩, Nat.le_of_ble_eq_true rfl, Nat.le_of_ble_eq_true rfl⟩ (As := [.int v3]) (rest := [.long (31 * v1)]) rfl hl.1 rfl (Nat.le_of_ble_eq_true rfl) dX8_digest_19 ⟨Nat.zero_le _, Nat.zero_le _⟩) hS (fun H locs hP hS => ?_)
      refine lv_i2l (v := (Int32.toInt64 r_1)) hx hb dX8_digest_22 rfl ?_
      refine lv_ladd hx hb dX8_digest_23 ?_
      obtain ⟨v_1, e_1, h⟩ := lt_el h
      refine r_topl e_1 ?_
      refine lv_lstore_n (lv' := [(1, .long v_1), (0, .ref (B + 0)), (3, .int v3)]) hx hb dX8_digest_24 rfl hl (by decide) rfl (fun ls hl => ?_)
      refine lv_ldc2 (v := 31) hx hb hown (hts _ k_542) dX8_digest_25 ?_
      refine lv_lload_n hx hb dX8_digest_28 rfl (lv_at hl 0 rfl) ?_
      refine lv_lmul hx hb dX8_digest_29 ?_
      refine lv_aload_n hx hb dX8_digest_30 rfl (lv_at hl 1 rfl) ?_
      refine lv_iload_n hx hb dX8_digest_31 rfl (lv_at hl 2 rfl) ?_
      obtain ⟨r_2, h_2, h⟩ := bd_el h
      refine cl_l (rn_V (C := RX8) (ci := 8) X hP (c_X8_value h_2) kq_0 rfl k_544 k_226 k_227 k_1 k_228 rfl hd_X8_value (n := 1) ⟨⟨rfl, rfl⟩, Nat.le_of_ble_eq_true rfl, Nat.le_of_ble_eq_true rfl⟩ (As := [.int v3]) (rest := [.long (31 * v_1)]) rfl hl.1 rfl (Nat.le_of_ble_eq_true rfl) dX8_digest_32 ⟨Nat.zero_le _, Nat.zero_le _⟩) hS (fun H locs hP hS => ?_)
      refine lv_ladd hx hb dX8_digest_35 ?_
      obtain ⟨v_2, e_2, h⟩ := lt_el h
      refine r_topl e_2 ?_
      refine lv_lstore_n (lv' := [(1, .long v_2), (0, .ref (B + 0)), (3, .int v3)]) hx hb dX8_digest_36 rfl hl (by decide) rfl (fun ls hl => ?_)
      refine lv_iconst (v := 0) hx hb dX8_digest_37 (by decide) ?_
      refine lv_istore (lv' := [(4, .int 0), (1, .long v_2), (0, .ref (B + 0)), (3, .int v3)]) hx hb dX8_digest_38 hl (by decide) rfl (fun ls hl => ?_)
      exact w_X8_digest_40 X ih FU _ _ _ _ _ _ hP hS (lv_sub hl [2, 1, 3, 0] rfl) h
def f_X8_digest (nT : Nat) (M : Mem) : Option (Int64) :=
  f_X8_digest_6 nT M FU 17 0
set_option maxRecDepth 100000 in
set_option maxHeartbeats 4000000 in
theorem c_X8_digest {l : Launch} {G : va_G} {cy : Nat → ClassId} {B nT : Nat} {M : Mem} {out : Int64} (h : f_X8_digest nT M = some out) : Met l yX8_digest (wsU yX8_digest cX8_digest 5 (some .long)) rmX8_digest (va_Pc [.ref (B + 0)] (PU G B cy nT M)) (Ql G B cy nT out M) 0 0 (FB B) := by
  refine r_met (by decide +kernel) RX8 rfl (Nat.le_of_ble_eq_true rfl) ?_
  intro p e s m args below meth c ls X hP hl
  have hl : lv_has ls 5 [(0, .ref (B + 0))] := hl
  have hS : va_S (FB B) s.heap s.heap [] := va_S.rf
  obtain ⟨hx, hb, hr, hml, hown, hts, hKn, hlk⟩ := id X
  unfold f_X8_digest at h
  refine lv_ldc2 (v := 17) hx hb hown (hts _ k_541) dX8_digest_0 ?_
  refine lv_lstore_n (lv' := [(1, .long 17), (0, .ref (B + 0))]) hx hb dX8_digest_3 rfl hl (by decide) rfl (fun ls hl => ?_)
  refine lv_iconst (v := 0) hx hb dX8_digest_4 (by decide) ?_
  refine lv_istore_n (lv' := [(3, .int 0), (1, .long 17), (0, .ref (B + 0))]) hx hb dX8_digest_5 rfl hl (by decide) rfl (fun ls hl => ?_)
  exact w_X8_digest_6 X FU _ _ _ _ _ hP hS (lv_sub hl [2, 1, 0] rfl) h
abbrev rmX9_in : Room := { frames := 0, cells := 0, slots := 0, locals := 0 }
def f_X9_in (a0 : Int64) (a2 : Int64) (a4 : Int64) : Option (Bool) :=
  if a0 < a2 then (some false) else (if a4 < a0 then (some false) else (some true))
set_option maxRecDepth 100000 in
set_option maxHeartbeats 4000000 in
theorem c_X9_in {l : Launch} {G : va_G} {cy : Nat → ClassId} {B nT : Nat} {M : Mem} {a0 : Int64} {a2 : Int64} {a4 : Int64} {out : Bool} (h : f_X9_in a0 a2 a4 = some out) : Met l yX9_in (wsU yX9_in cX9_in 6 (some .boolean)) rmX9_in (va_Pc [.long a0, .long a2, .long a4] (PU G B cy nT M)) (Qi G B cy nT (bI out) M) 0 0 (FB B) := by
  refine r_met (by decide +kernel) RX9 rfl (Nat.le_of_ble_eq_true rfl) ?_
  intro p e s m args below meth c ls X hP hl
  have hl : lv_has ls 6 [(0, .long a0), (2, .long a2), (4, .long a4)] := hl
  have hS : va_S (FB B) s.heap s.heap [] := va_S.rf
  obtain ⟨hx, hb, hr, hml, hown, hts, hKn, hlk⟩ := id X
  unfold f_X9_in at h
  refine lv_lload_n hx hb dX9_in_0 rfl (lv_at hl 0 rfl) ?_
  refine lv_lload_n hx hb dX9_in_1 rfl (lv_at hl 1 rfl) ?_
  refine W.lcmp hx hb dX9_in_2 ?_
  refine lv_if_lt (tgt := 17) hx hb dX9_in_3 (by decide) (fun hc => ?_) (fun hc => ?_)
  · replace h := if_elp h (lc_lt.mp hc)
    refine lv_iconst (v := 0) hx hb dX9_in_17 (by decide) ?_
    exact r_zret X hP hS rfl (prz h) rfl dX9_in_18
  · replace h := if_eln h (fun z => hc (lc_lt.mpr z))
    refine lv_lload_n hx hb dX9_in_6 rfl (lv_at hl 0 rfl) ?_
    refine lv_lload hx hb dX9_in_7 (lv_at hl 2 rfl) ?_
    refine W.lcmp hx hb dX9_in_9 ?_
    refine lv_if_gt (tgt := 17) hx hb dX9_in_10 (by decide) (fun hc => ?_) (fun hc => ?_)
    · replace h := if_elp h (lc_gt.mp hc)
      refine lv_iconst (v := 0) hx hb dX9_in_17 (by decide) ?_
      exact r_zret X hP hS rfl (prz h) rfl dX9_in_18
    · replace h := if_eln h (fun z => hc (lc_gt.mpr z))
      refine lv_iconst (v := 1) hx hb dX9_in_13 (by decide) ?_
      refine lv_goto (tgt := 18) hx hb dX9_in_14 (by decide) ?_
      exact r_zret X hP hS rfl (prz h) rfl dX9_in_18
abbrev rmX9_isCell : Room := { frames := 1, cells := 0, slots := 0, locals := 25 }
def f_X9_isCell (a0 : Int64) : Option (Bool) :=
  Option.bind (f_X9_in a0 0 39) fun r_1 => some r_1
set_option maxRecDepth 100000 in
set_option maxHeartbeats 4000000 in
theorem c_X9_isCell {l : Launch} {G : va_G} {cy : Nat → ClassId} {B nT : Nat} {M : Mem} {a0 : Int64} {out : Bool} (h : f_X9_isCell a0 = some out) : Met l yX9_isCell (wsU yX9_isCell cX9_isCell 2 (some .boolean)) rmX9_isCell (va_Pc [.long a0] (PU G B cy nT M)) (Qi G B cy nT (bI out) M) 0 0 (FB B) := by
  refine r_met (by decide +kernel) RX9 rfl (Nat.le_of_ble_eq_true rfl) ?_
  intro p e s m args below meth c ls X hP hl
  have hl : lv_has ls 2 [(0, .long a0)] := hl
  have hS : va_S (FB B) s.heap s.heap [] := va_S.rf
  obtain ⟨hx, hb, hr, hml, hown, hts, hKn, hlk⟩ := id X
  unfold f_X9_isCell at h
  refine lv_lload_n hx hb dX9_isCell_0 rfl (lv_at hl 0 rfl) ?_
  refine lv_lconst (v := 0) hx hb dX9_isCell_1 rfl ?_
  refine lv_ldc2 (v := 39) hx hb hown (hts _ k_645) dX9_isCell_2 ?_
  obtain ⟨r_1, h_1, h⟩ := bd_el h
  refine cl_i (rn_S X hP (c_X9_in h_1) k_646 k_647 k_9 k_648 hd_X9_in (n := 3) ⟨⟨rfl, rfl⟩, Nat.le_of_ble_eq_true rfl, Nat.le_of_ble_eq_true rfl⟩ (As := [.long a0, .long 0, .long 39]) (rest := []) rfl hl.1 rfl (Nat.le_of_ble_eq_true rfl) dX9_isCell_5 ⟨Nat.zero_le _, Nat.zero_le _⟩) hS (fun H locs hP hS => ?_)
  exact r_zret X hP hS (nar_bI _) (prz h) rfl dX9_isCell_8
abbrev rmX9_isTrade : Room := { frames := 1, cells := 0, slots := 0, locals := 25 }
def f_X9_isTrade (a0 : Int32) : Option (Bool) :=
  Option.bind (f_X9_in (Int32.toInt64 a0) 0 15) fun r_1 => some r_1
set_option maxRecDepth 100000 in
set_option maxHeartbeats 4000000 in
theorem c_X9_isTrade {l : Launch} {G : va_G} {cy : Nat → ClassId} {B nT : Nat} {M : Mem} {a0 : Int32} {out : Bool} (h : f_X9_isTrade a0 = some out) : Met l yX9_isTrade (wsU yX9_isTrade cX9_isTrade 1 (some .boolean)) rmX9_isTrade (va_Pc [.int a0] (PU G B cy nT M)) (Qi G B cy nT (bI out) M) 0 0 (FB B) := by
  refine r_met (by decide +kernel) RX9 rfl (Nat.le_of_ble_eq_true rfl) ?_
  intro p e s m args below meth c ls X hP hl
  have hl : lv_has ls 1 [(0, .int a0)] := hl
  have hS : va_S (FB B) s.heap s.heap [] := va_S.rf
  obtain ⟨hx, hb, hr, hml, hown, hts, hKn, hlk⟩ := id X
  unfold f_X9_isTrade at h
  refine lv_iload_n hx hb dX9_isTrade_0 rfl (lv_at hl 0 rfl) ?_
  refine lv_i2l (v := (Int32.toInt64 a0)) hx hb dX9_isTrade_1 rfl ?_
  refine lv_lconst (v := 0) hx hb dX9_isTrade_2 rfl ?_
  refine lv_ldc2 (v := 15) hx hb hown (hts _ k_691) dX9_isTrade_3 ?_
  obtain ⟨r_1, h_1, h⟩ := bd_el h
  refine cl_i (rn_S X hP (c_X9_in h_1) k_646 k_647 k_9 k_648 hd_X9_in (n := 3) ⟨⟨rfl, rfl⟩, Nat.le_of_ble_eq_true rfl, Nat.le_of_ble_eq_true rfl⟩ (As := [.long (Int32.toInt64 a0), .long 0, .long 15]) (rest := []) rfl hl.1 rfl (Nat.le_of_ble_eq_true rfl) dX9_isTrade_6 ⟨Nat.zero_le _, Nat.zero_le _⟩) hS (fun H locs hP hS => ?_)
  exact r_zret X hP hS (nar_bI _) (prz h) rfl dX9_isTrade_9
abbrev rmX9_isTicket : Room := { frames := 1, cells := 0, slots := 0, locals := 25 }
def f_X9_isTicket (M : Mem) (a1 : Int32) : Option (Bool) :=
  Option.bind (f_X9_in (Int32.toInt64 a1) 0 (Int32.toInt64 ((gI M 119 18) - 1))) fun r_1 => some r_1
set_option maxRecDepth 100000 in
set_option maxHeartbeats 4000000 in
theorem c_X9_isTicket {l : Launch} {G : va_G} {cy : Nat → ClassId} {B nT : Nat} {M : Mem} {a1 : Int32} {out : Bool} (h : f_X9_isTicket M a1 = some out) : Met l yX9_isTicket (wsU yX9_isTicket cX9_isTicket 2 (some .boolean)) rmX9_isTicket (va_Pc [.ref (B + 119), .int a1] (PU G B cy nT M)) (Qi G B cy nT (bI out) M) 0 0 (FB B) := by
  refine r_met (by decide +kernel) RX9 rfl (Nat.le_of_ble_eq_true rfl) ?_
  intro p e s m args below meth c ls X hP hl
  have hl : lv_has ls 2 [(0, .ref (B + 119)), (1, .int a1)] := hl
  have hS : va_S (FB B) s.heap s.heap [] := va_S.rf
  obtain ⟨hx, hb, hr, hml, hown, hts, hKn, hlk⟩ := id X
  unfold f_X9_isTicket at h
  refine lv_iload_n hx hb dX9_isTicket_0 rfl (lv_at hl 1 rfl) ?_
  refine lv_i2l (v := (Int32.toInt64 a1)) hx hb dX9_isTicket_1 rfl ?_
  refine lv_lconst (v := 0) hx hb dX9_isTicket_2 rfl ?_
  refine lv_aload_n hx hb dX9_isTicket_3 rfl (lv_at hl 0 rfl) ?_
  refine gf_X9_231 X hP dX9_isTicket_4 ?_
  refine lv_iconst (v := 1) hx hb dX9_isTicket_7 (by decide) ?_
  refine lv_isub hx hb dX9_isTicket_8 ?_
  refine lv_i2l (v := (Int32.toInt64 ((gI M 119 18) - 1))) hx hb dX9_isTicket_9 rfl ?_
  obtain ⟨r_1, h_1, h⟩ := bd_el h
  refine cl_i (rn_S X hP (c_X9_in h_1) k_646 k_647 k_9 k_648 hd_X9_in (n := 3) ⟨⟨rfl, rfl⟩, Nat.le_of_ble_eq_true rfl, Nat.le_of_ble_eq_true rfl⟩ (As := [.long (Int32.toInt64 a1), .long 0, .long (Int32.toInt64 ((gI M 119 18) - 1))]) (rest := []) rfl hl.1 rfl (Nat.le_of_ble_eq_true rfl) dX9_isTicket_10 ⟨Nat.zero_le _, Nat.zero_le _⟩) hS (fun H locs hP hS => ?_)
  exact r_zret X hP hS (nar_bI _) (prz h) rfl dX9_isTicket_13
abbrev rmX9_tells : Room := { frames := 0, cells := 0, slots := 0, locals := 0 }
def f_X9_tells_109 (K50 : Mem → Int32 → Int32 → Option (Int32 × Mem)) (M : Mem) (v1 : Int32) (v7 : Int32) : Option (Int32 × Mem) :=
  lt (v7 + 1) fun v_1 => K50 M v1 v_1
set_option maxRecDepth 100000 in
set_option maxHeartbeats 4000000 in
theorem w_X9_tells_109 (X : Cx p s m args meth c cX9_tells RX9 8 (some .int) G cy) {out : Int32 × Mem} {K50 : Mem → Int32 → Int32 → Option (Int32 × Mem)} (hK50 : ∀ (H : Heap) (locs : List Loc) (ls : Array Slot) (M : Mem) (v1 : Int32) (v7 : Int32), Pic G B cy nT M H → va_S (FB B) s.heap H locs → lv_has ls 8 [(0, .ref (B + 119)), (1, .int v1), (7, .int v7)] → K50 M v1 v7 = some out → W p l e rmX9_tells s m args below meth c H locs 0 0 (MQ below (Qi G B cy nT out.1 out.2) args s 0 0 (FB B)) (F0 m 50 ls [])) {M : Mem} {v1 : Int32} {v7 : Int32} (hP : Pic G B cy nT M H) (hS : va_S (FB B) s.heap H locs) (hl : lv_has ls 8 [(0, .ref (B + 119)), (1, .int v1), (7, .int v7)]) (h : f_X9_tells_109 K50 M v1 v7 = some out) : W p l e rmX9_tells s m args below meth c H locs 0 0 (MQ below (Qi G B cy nT out.1 out.2) args s 0 0 (FB B)) (F0 m 109 ls []) := by
  obtain ⟨hx, hb, hr, hml, hown, hts, hKn, hlk⟩ := id X
  unfold f_X9_tells_109 at h
  obtain ⟨v_1, e_1, h⟩ := lt_el h
  refine lv_iinc (v := v_1) (lv' := [(7, .int v_1), (0, .ref (B + 119)), (1, .int v1)]) hx hb dX9_tells_109 hl (k := 2) rfl (by rw [e_1]; rfl) (by decide) rfl (fun ls hl => ?_)
  refine lv_goto (tgt := 50) hx hb dX9_tells_112 (by decide) ?_
  exact hK50 _ _ _ _ _ _ hP hS (lv_sub hl [1, 2, 0] rfl) h
def f_X9_tells_50 : Nat → Mem → Int32 → Int32 → Option (Int32 × Mem)
  | 0, _, _, _ => none
  | n + 1, M, v1, v7 => if (gI M 119 18) ≤ v7 then (gd (inR v1 40) <| some ((gI M 124 v1.toNatClampNeg), M)) else (gd (inR v7 20) <| if (gI M 138 v7.toNatClampNeg) = 3 then (gd (inR ((40 * v7) + v1) 800) <| if (bI (gB M 151 ((40 * v7) + v1).toNatClampNeg)) = 0 then (f_X9_tells_109 (f_X9_tells_50 n) M v1 v7) else (gd (inR v7 20) <| lt (sI M 138 v7.toNatClampNeg 0) fun M_1 => gd (inR v7 20) <| lt (sI M_1 144 v7.toNatClampNeg v1) fun M_2 => gd (inR v7 20) <| lt (sI M_2 145 v7.toNatClampNeg (-1)) fun M_3 => f_X9_tells_109 (f_X9_tells_50 n) M_3 v1 v7)) else (f_X9_tells_109 (f_X9_tells_50 n) M v1 v7))
set_option maxRecDepth 100000 in
set_option maxHeartbeats 4000000 in
theorem w_X9_tells_50 (X : Cx p s m args meth c cX9_tells RX9 8 (some .int) G cy) {out : Int32 × Mem} : ∀ n : Nat, ∀ (H : Heap) (locs : List Loc) (ls : Array Slot) (M : Mem) (v1 : Int32) (v7 : Int32), Pic G B cy nT M H → va_S (FB B) s.heap H locs → lv_has ls 8 [(0, .ref (B + 119)), (1, .int v1), (7, .int v7)] → f_X9_tells_50 n M v1 v7 = some out → W p l e rmX9_tells s m args below meth c H locs 0 0 (MQ below (Qi G B cy nT out.1 out.2) args s 0 0 (FB B)) (F0 m 50 ls []) := by
  obtain ⟨hx, hb, hr, hml, hown, hts, hKn, hlk⟩ := id X
  intro n
  induction n with
  | zero =>
    intro H locs ls M v1 v7 hP hS hl h
    cases h
  | succ n ih =>
    intro H locs ls M v1 v7 hP hS hl h
    rw [f_X9_tells_50] at h
    refine lv_iload hx hb dX9_tells_50 (lv_at hl 2 rfl) ?_
    refine lv_aload_n hx hb dX9_tells_52 rfl (lv_at hl 0 rfl) ?_
    refine gf_X9_231 X hP dX9_tells_53 ?_
    refine lv_icmp_ge (tgt := 115) hx hb dX9_tells_56 (by decide) (fun hc => ?_) (fun hc => ?_)
    · replace h := if_elp h hc
      refine lv_aload_n hx hb dX9_tells_115 rfl (lv_at hl 0 rfl) ?_
      refine gf_X9_23 X hP dX9_tells_116 ?_
      refine lv_iload_n hx hb dX9_tells_119 rfl (lv_at hl 1 rfl) ?_
      obtain ⟨g_1, h⟩ := gd_el h
      refine r_iald X hP kq_124 g_1 dX9_tells_120 ?_
      exact r_iret X hP hS (pr1 h) (pr2 h) dX9_tells_121
    · replace h := if_eln h hc
      refine lv_aload_n hx hb dX9_tells_59 rfl (lv_at hl 0 rfl) ?_
      refine gf_X9_65 X hP dX9_tells_60 ?_
      refine lv_iload hx hb dX9_tells_63 (lv_at hl 2 rfl) ?_
      obtain ⟨g_2, h⟩ := gd_el h
      refine r_iald X hP kq_138 g_2 dX9_tells_65 ?_
      refine lv_iconst (v := 3) hx hb dX9_tells_66 (by decide) ?_
      refine lv_icmp_ne (tgt := 109) hx hb dX9_tells_67 (by decide) (fun hc => ?_) (fun hc => ?_)
      · replace h := if_eln h hc
        exact w_X9_tells_109 X ih hP hS (lv_sub hl [0, 1, 2] rfl) h
      · replace h := if_elp h hc
        refine lv_aload_n hx hb dX9_tells_70 rfl (lv_at hl 0 rfl) ?_
        refine gf_X9_105 X hP dX9_tells_71 ?_
        refine lv_bipush (v := 40) hx hb dX9_tells_74 (by decide) ?_
        refine lv_iload hx hb dX9_tells_76 (lv_at hl 2 rfl) ?_
        refine lv_imul hx hb dX9_tells_78 ?_
        refine lv_iload_n hx hb dX9_tells_79 rfl (lv_at hl 1 rfl) ?_
        refine lv_iadd hx hb dX9_tells_80 ?_
        obtain ⟨g_3, h⟩ := gd_el h
        refine r_zald X hP kq_151 g_3 dX9_tells_81 ?_
        refine lv_if_eq (tgt := 109) hx hb dX9_tells_82 (by decide) (fun hc => ?_) (fun hc => ?_)
        · replace h := if_elp h hc
          exact w_X9_tells_109 X ih hP hS (lv_sub hl [0, 1, 2] rfl) h
        · replace h := if_eln h hc
          refine lv_aload_n hx hb dX9_tells_85 rfl (lv_at hl 0 rfl) ?_
          refine gf_X9_65 X hP dX9_tells_86 ?_
          refine lv_iload hx hb dX9_tells_89 (lv_at hl 2 rfl) ?_
          refine lv_iconst (v := 0) hx hb dX9_tells_91 (by decide) ?_
          obtain ⟨g_4, h⟩ := gd_el h
          obtain ⟨M_1, e_1, h⟩ := lt_el h
          refine r_iast X hP hS kq_138 g_4 e_1 dX9_tells_92 (fun H locs hP hS => ?_)
          refine lv_aload_n hx hb dX9_tells_93 rfl (lv_at hl 0 rfl) ?_
          refine gf_X9_83 X hP dX9_tells_94 ?_
          refine lv_iload hx hb dX9_tells_97 (lv_at hl 2 rfl) ?_
          refine lv_iload_n hx hb dX9_tells_99 rfl (lv_at hl 1 rfl) ?_
          obtain ⟨g_5, h⟩ := gd_el h
          obtain ⟨M_2, e_2, h⟩ := lt_el h
          refine r_iast X hP hS kq_144 g_5 e_2 dX9_tells_100 (fun H locs hP hS => ?_)
          refine lv_aload_n hx hb dX9_tells_101 rfl (lv_at hl 0 rfl) ?_
          refine gf_X9_86 X hP dX9_tells_102 ?_
          refine lv_iload hx hb dX9_tells_105 (lv_at hl 2 rfl) ?_
          refine lv_iconst (v := (-1)) hx hb dX9_tells_107 (by decide) ?_
          obtain ⟨g_6, h⟩ := gd_el h
          obtain ⟨M_3, e_3, h⟩ := lt_el h
          refine r_iast X hP hS kq_145 g_6 e_3 dX9_tells_108 (fun H locs hP hS => ?_)
          exact w_X9_tells_109 X ih hP hS (lv_sub hl [0, 1, 2] rfl) h
def f_X9_tells (M : Mem) (a1 : Int32) (a2 : Int32) (a3 : Int64) (a5 : Int32) (a6 : Int32) : Option (Int32 × Mem) :=
  gd (inR a1 40) <| lt (sI M 120 a1.toNatClampNeg a2) fun M_1 => gd (inR a1 40) <| lt (sL M_1 121 a1.toNatClampNeg a3) fun M_2 => gd (inR a1 40) <| lt (sI M_2 122 a1.toNatClampNeg a5) fun M_3 => gd (inR a1 40) <| lt (sI M_3 123 a1.toNatClampNeg a6) fun M_4 => gd (inR a1 40) <| gd (inR a1 40) <| lt (sI M_4 124 a1.toNatClampNeg ((gI M_4 124 a1.toNatClampNeg) + 1)) fun M_5 => gd (inR a1 40) <| lt (sI M_5 125 a1.toNatClampNeg (-1)) fun M_6 => f_X9_tells_50 FU M_6 a1 0
set_option maxRecDepth 100000 in
set_option maxHeartbeats 4000000 in
theorem c_X9_tells {l : Launch} {G : va_G} {cy : Nat → ClassId} {B nT : Nat} {M : Mem} {a1 : Int32} {a2 : Int32} {a3 : Int64} {a5 : Int32} {a6 : Int32} {out : Int32 × Mem} (h : f_X9_tells M a1 a2 a3 a5 a6 = some out) : Met l yX9_tells (wsU yX9_tells cX9_tells 8 (some .int)) rmX9_tells (va_Pc [.ref (B + 119), .int a1, .int a2, .long a3, .int a5, .int a6] (PU G B cy nT M)) (Qi G B cy nT out.1 out.2) 0 0 (FB B) := by
  refine r_met (by decide +kernel) RX9 rfl (Nat.le_of_ble_eq_true rfl) ?_
  intro p e s m args below meth c ls X hP hl
  have hl : lv_has ls 8 [(0, .ref (B + 119)), (1, .int a1), (2, .int a2), (3, .long a3), (5, .int a5), (6, .int a6)] := hl
  have hS : va_S (FB B) s.heap s.heap [] := va_S.rf
  obtain ⟨hx, hb, hr, hml, hown, hts, hKn, hlk⟩ := id X
  unfold f_X9_tells at h
  refine lv_aload_n hx hb dX9_tells_0 rfl (lv_at hl 0 rfl) ?_
  refine gf_X9_7 X hP dX9_tells_1 ?_
  refine lv_iload_n hx hb dX9_tells_4 rfl (lv_at hl 1 rfl) ?_
  refine lv_iload_n hx hb dX9_tells_5 rfl (lv_at hl 2 rfl) ?_
  obtain ⟨g_1, h⟩ := gd_el h
  obtain ⟨M_1, e_1, h⟩ := lt_el h
  refine r_iast X hP hS kq_120 g_1 e_1 dX9_tells_6 (fun H locs hP hS => ?_)
  refine lv_aload_n hx hb dX9_tells_7 rfl (lv_at hl 0 rfl) ?_
  refine gf_X9_13 X hP dX9_tells_8 ?_
  refine lv_iload_n hx hb dX9_tells_11 rfl (lv_at hl 1 rfl) ?_
  refine lv_lload_n hx hb dX9_tells_12 rfl (lv_at hl 3 rfl) ?_
  obtain ⟨g_2, h⟩ := gd_el h
  obtain ⟨M_2, e_2, h⟩ := lt_el h
  refine r_last X hP hS kq_121 g_2 e_2 dX9_tells_13 (fun H locs hP hS => ?_)
  refine lv_aload_n hx hb dX9_tells_14 rfl (lv_at hl 0 rfl) ?_
  refine gf_X9_17 X hP dX9_tells_15 ?_
  refine lv_iload_n hx hb dX9_tells_18 rfl (lv_at hl 1 rfl) ?_
  refine lv_iload hx hb dX9_tells_19 (lv_at hl 4 rfl) ?_
  obtain ⟨g_3, h⟩ := gd_el h
  obtain ⟨M_3, e_3, h⟩ := lt_el h
  refine r_iast X hP hS kq_122 g_3 e_3 dX9_tells_21 (fun H locs hP hS => ?_)
  refine lv_aload_n hx hb dX9_tells_22 rfl (lv_at hl 0 rfl) ?_
  refine gf_X9_20 X hP dX9_tells_23 ?_
  refine lv_iload_n hx hb dX9_tells_26 rfl (lv_at hl 1 rfl) ?_
  refine lv_iload hx hb dX9_tells_27 (lv_at hl 5 rfl) ?_
  obtain ⟨g_4, h⟩ := gd_el h
  obtain ⟨M_4, e_4, h⟩ := lt_el h
  refine r_iast X hP hS kq_123 g_4 e_4 dX9_tells_29 (fun H locs hP hS => ?_)
  refine lv_aload_n hx hb dX9_tells_30 rfl (lv_at hl 0 rfl) ?_
  refine gf_X9_23 X hP dX9_tells_31 ?_
  refine lv_iload_n hx hb dX9_tells_34 rfl (lv_at hl 1 rfl) ?_
  refine lv_dup2_11 hx hb dX9_tells_35 rfl rfl ?_
  obtain ⟨g_5, h⟩ := gd_el h
  refine r_iald X hP kq_124 g_5 dX9_tells_36 ?_
  refine lv_iconst (v := 1) hx hb dX9_tells_37 (by decide) ?_
  refine lv_iadd hx hb dX9_tells_38 ?_
  obtain ⟨g_6, h⟩ := gd_el h
  obtain ⟨M_5, e_5, h⟩ := lt_el h
  refine r_iast X hP hS kq_124 g_6 e_5 dX9_tells_39 (fun H locs hP hS => ?_)
  refine lv_aload_n hx hb dX9_tells_40 rfl (lv_at hl 0 rfl) ?_
  refine gf_X9_26 X hP dX9_tells_41 ?_
  refine lv_iload_n hx hb dX9_tells_44 rfl (lv_at hl 1 rfl) ?_
  refine lv_iconst (v := (-1)) hx hb dX9_tells_45 (by decide) ?_
  obtain ⟨g_7, h⟩ := gd_el h
  obtain ⟨M_6, e_6, h⟩ := lt_el h
  refine r_iast X hP hS kq_125 g_7 e_6 dX9_tells_46 (fun H locs hP hS => ?_)
  refine lv_iconst (v := 0) hx hb dX9_tells_47 (by decide) ?_
  refine lv_istore (lv' := [(7, .int 0), (0, .ref (B + 119)), (1, .int a1), (2, .int a2), (3, .long a3), (5, .int a5), (6, .int a6)]) hx hb dX9_tells_48 hl (by decide) rfl (fun ls hl => ?_)
  exact w_X9_tells_50 X FU _ _ _ _ _ _ hP hS (lv_sub hl [1, 2, 0] rfl) h
end METHS

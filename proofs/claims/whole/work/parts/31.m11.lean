section METHS
variable {p : Program} {l : Launch} {e : Env} {s : State} {m : MethodId} {args : Array Value} {below : List Frame} {meth : Method} {c : Code} {H : Heap} {locs : List Loc} {G : va_G} {cy : Nat → ClassId} {B nT : Nat} {ls : Array Slot}
abbrev rmX9_way : Room := { frames := 2, cells := 0, slots := 0, locals := 46 }
def f_X9_way (M : Mem) (a1 : Int32) (a2 : Int32) (a3 : Int32) : Option (Int32) :=
  Option.bind (f_X9_isTicket M a1) fun r_1 => if (bI r_1) = 0 then (some (-2)) else (Option.bind (f_X9_in (Int32.toInt64 a3) 0 1) fun r_2 => if (bI r_2) = 0 then (some (-2)) else (gd (inR a1 20) <| if (bI (gB M 148 a1.toNatClampNeg)) = 0 then (some (-1)) else (gd (inR a1 20) <| Option.bind (f_X9_in (Int32.toInt64 a2) 0 (Int32.toInt64 ((gI M 152 a1.toNatClampNeg) - 1))) fun r_3 => if (bI r_3) = 0 then (some (-1)) else (if a3 = 0 then (gd (inR ((6 * a1) + a2) 120) <| some (gI M 153 ((6 * a1) + a2).toNatClampNeg)) else (gd (inR ((6 * a1) + a2) 120) <| some (gI M 154 ((6 * a1) + a2).toNatClampNeg))))))
set_option maxRecDepth 100000 in
set_option maxHeartbeats 4000000 in
theorem c_X9_way {l : Launch} {G : va_G} {cy : Nat → ClassId} {B nT : Nat} {M : Mem} {a1 : Int32} {a2 : Int32} {a3 : Int32} {out : Int32} (h : f_X9_way M a1 a2 a3 = some out) : Met l yX9_way (wsU yX9_way cX9_way 4 (some .int)) rmX9_way (va_Pc [.ref (B + 119), .int a1, .int a2, .int a3] (PU G B cy nT M)) (Qi G B cy nT out M) 0 0 (FB B) := by
  refine r_met (by decide +kernel) RX9 rfl (Nat.le_of_ble_eq_true rfl) ?_
  intro p e s m args below meth c ls X hP hl
  have hl : lv_has ls 4 [(0, .ref (B + 119)), (1, .int a1), (2, .int a2), (3, .int a3)] := hl
  have hS : va_S (FB B) s.heap s.heap [] := va_S.rf
  obtain ⟨hx, hb, hr, hml, hown, hts, hKn, hlk⟩ := id X
  unfold f_X9_way at h
  refine lv_aload_n hx hb dX9_way_0 rfl (lv_at hl 0 rfl) ?_
  refine lv_iload_n hx hb dX9_way_1 rfl (lv_at hl 1 rfl) ?_
  obtain ⟨r_1, h_1, h⟩ := bd_el h
  refine cl_i (rn_V (C := RX9) (ci := 9) X hP (c_X9_isTicket h_1) kq_119 rfl k_822 k_823 k_935 k_9 k_824 rfl hd_X9_isTicket (n := 1) ⟨⟨rfl, rfl⟩, Nat.le_of_ble_eq_true rfl, Nat.le_of_ble_eq_true rfl⟩ (As := [.int a1]) (rest := []) rfl hl.1 rfl (Nat.le_of_ble_eq_true rfl) dX9_way_2 ⟨Nat.zero_le _, Nat.zero_le _⟩) hS (fun H locs hP hS => ?_)
  refine lv_if_eq (tgt := 18) hx hb dX9_way_5 (by decide) (fun hc => ?_) (fun hc => ?_)
  · replace h := if_elp h hc
    refine lv_bipush (v := (-2)) hx hb dX9_way_18 (by decide) ?_
    exact r_iret X hP hS (pr0 h) rfl dX9_way_20
  · replace h := if_eln h hc
    refine lv_iload_n hx hb dX9_way_8 rfl (lv_at hl 3 rfl) ?_
    refine lv_i2l (v := (Int32.toInt64 a3)) hx hb dX9_way_9 rfl ?_
    refine lv_lconst (v := 0) hx hb dX9_way_10 rfl ?_
    refine lv_lconst (v := 1) hx hb dX9_way_11 rfl ?_
    obtain ⟨r_2, h_2, h⟩ := bd_el h
    refine cl_i (rn_S X hP (c_X9_in h_2) k_646 k_647 k_9 k_648 hd_X9_in (n := 3) ⟨⟨rfl, rfl⟩, Nat.le_of_ble_eq_true rfl, Nat.le_of_ble_eq_true rfl⟩ (As := [.long (Int32.toInt64 a3), .long 0, .long 1]) (rest := []) rfl hl.1 rfl (Nat.le_of_ble_eq_true rfl) dX9_way_12 ⟨Nat.zero_le _, Nat.zero_le _⟩) hS (fun H locs hP hS => ?_)
    refine lv_if_ne (tgt := 21) hx hb dX9_way_15 (by decide) (fun hc => ?_) (fun hc => ?_)
    · replace h := if_eln h hc
      refine lv_aload_n hx hb dX9_way_21 rfl (lv_at hl 0 rfl) ?_
      refine gf_X9_95 X hP dX9_way_22 ?_
      refine lv_iload_n hx hb dX9_way_25 rfl (lv_at hl 1 rfl) ?_
      obtain ⟨g_1, h⟩ := gd_el h
      refine r_zald X hP kq_148 g_1 dX9_way_26 ?_
      refine lv_if_eq (tgt := 48) hx hb dX9_way_27 (by decide) (fun hc => ?_) (fun hc => ?_)
      · replace h := if_elp h hc
        refine lv_iconst (v := (-1)) hx hb dX9_way_48 (by decide) ?_
        exact r_iret X hP hS (pr0 h) rfl dX9_way_49
      · replace h := if_eln h hc
        refine lv_iload_n hx hb dX9_way_30 rfl (lv_at hl 2 rfl) ?_
        refine lv_i2l (v := (Int32.toInt64 a2)) hx hb dX9_way_31 rfl ?_
        refine lv_lconst (v := 0) hx hb dX9_way_32 rfl ?_
        refine lv_aload_n hx hb dX9_way_33 rfl (lv_at hl 0 rfl) ?_
        refine gf_X9_108 X hP dX9_way_34 ?_
        refine lv_iload_n hx hb dX9_way_37 rfl (lv_at hl 1 rfl) ?_
        obtain ⟨g_2, h⟩ := gd_el h
        refine r_iald X hP kq_152 g_2 dX9_way_38 ?_
        refine lv_iconst (v := 1) hx hb dX9_way_39 (by decide) ?_
        refine lv_isub hx hb dX9_way_40 ?_
        refine lv_i2l (v := (Int32.toInt64 ((gI M 152 a1.toNatClampNeg) - 1))) hx hb dX9_way_41 rfl ?_
        obtain ⟨r_3, h_3, h⟩ := bd_el h
        refine cl_i (rn_S X hP (c_X9_in h_3) k_646 k_647 k_9 k_648 hd_X9_in (n := 3) ⟨⟨rfl, rfl⟩, Nat.le_of_ble_eq_true rfl, Nat.le_of_ble_eq_true rfl⟩ (As := [.long (Int32.toInt64 a2), .long 0, .long (Int32.toInt64 ((gI M 152 a1.toNatClampNeg) - 1))]) (rest := []) rfl hl.1 rfl (Nat.le_of_ble_eq_true rfl) dX9_way_42 ⟨Nat.zero_le _, Nat.zero_le _⟩) hS (fun H locs hP hS => ?_)
        refine lv_if_ne (tgt := 50) hx hb dX9_way_45 (by decide) (fun hc => ?_) (fun hc => ?_)
        · replace h := if_eln h hc
          refine lv_iload_n hx hb dX9_way_50 rfl (lv_at hl 3 rfl) ?_
          refine lv_if_ne (tgt := 68) hx hb dX9_way_51 (by decide) (fun hc => ?_) (fun hc => ?_)
          · replace h := if_eln h hc
            refine lv_aload_n hx hb dX9_way_68 rfl (lv_at hl 0 rfl) ?_
            refine gf_X9_114 X hP dX9_way_69 ?_
            refine lv_bipush (v := 6) hx hb dX9_way_72 (by decide) ?_
            refine lv_iload_n hx hb dX9_way_74 rfl (lv_at hl 1 rfl) ?_
            refine lv_imul hx hb dX9_way_75 ?_
            refine lv_iload_n hx hb dX9_way_76 rfl (lv_at hl 2 rfl) ?_
            refine lv_iadd hx hb dX9_way_77 ?_
            obtain ⟨g_3, h⟩ := gd_el h
            refine r_iald X hP kq_154 g_3 dX9_way_78 ?_
            exact r_iret X hP hS (pr0 h) rfl dX9_way_79
          · replace h := if_elp h hc
            refine lv_aload_n hx hb dX9_way_54 rfl (lv_at hl 0 rfl) ?_
            refine gf_X9_111 X hP dX9_way_55 ?_
            refine lv_bipush (v := 6) hx hb dX9_way_58 (by decide) ?_
            refine lv_iload_n hx hb dX9_way_60 rfl (lv_at hl 1 rfl) ?_
            refine lv_imul hx hb dX9_way_61 ?_
            refine lv_iload_n hx hb dX9_way_62 rfl (lv_at hl 2 rfl) ?_
            refine lv_iadd hx hb dX9_way_63 ?_
            obtain ⟨g_4, h⟩ := gd_el h
            refine r_iald X hP kq_153 g_4 dX9_way_64 ?_
            refine lv_goto (tgt := 79) hx hb dX9_way_65 (by decide) ?_
            exact r_iret X hP hS (pr0 h) rfl dX9_way_79
        · replace h := if_elp h hc
          refine lv_iconst (v := (-1)) hx hb dX9_way_48 (by decide) ?_
          exact r_iret X hP hS (pr0 h) rfl dX9_way_49
    · replace h := if_elp h hc
      refine lv_bipush (v := (-2)) hx hb dX9_way_18 (by decide) ?_
      exact r_iret X hP hS (pr0 h) rfl dX9_way_20
abbrev rmX9_read : Room := { frames := 2, cells := 0, slots := 0, locals := 46 }
def f_X9_read (M : Mem) (a1 : Int32) (a2 : Int32) : Option (Int32) :=
  Option.bind (f_X9_isTicket M a1) fun r_1 => if (bI r_1) = 0 then (some (-2)) else (Option.bind (f_X9_isCell (Int32.toInt64 a2)) fun r_2 => if (bI r_2) = 0 then (some (-2)) else (gd (inR a1 20) <| if (bI (gB M 148 a1.toNatClampNeg)) = 0 then (some 0) else (gd (inR ((40 * a1) + a2) 800) <| if (bI (gB M 151 ((40 * a1) + a2).toNatClampNeg)) = 0 then (some 0) else (some 1))))
set_option maxRecDepth 100000 in
set_option maxHeartbeats 4000000 in
theorem c_X9_read {l : Launch} {G : va_G} {cy : Nat → ClassId} {B nT : Nat} {M : Mem} {a1 : Int32} {a2 : Int32} {out : Int32} (h : f_X9_read M a1 a2 = some out) : Met l yX9_read (wsU yX9_read cX9_read 3 (some .int)) rmX9_read (va_Pc [.ref (B + 119), .int a1, .int a2] (PU G B cy nT M)) (Qi G B cy nT out M) 0 0 (FB B) := by
  refine r_met (by decide +kernel) RX9 rfl (Nat.le_of_ble_eq_true rfl) ?_
  intro p e s m args below meth c ls X hP hl
  have hl : lv_has ls 3 [(0, .ref (B + 119)), (1, .int a1), (2, .int a2)] := hl
  have hS : va_S (FB B) s.heap s.heap [] := va_S.rf
  obtain ⟨hx, hb, hr, hml, hown, hts, hKn, hlk⟩ := id X
  unfold f_X9_read at h
  refine lv_aload_n hx hb dX9_read_0 rfl (lv_at hl 0 rfl) ?_
  refine lv_iload_n hx hb dX9_read_1 rfl (lv_at hl 1 rfl) ?_
  obtain ⟨r_1, h_1, h⟩ := bd_el h
  refine cl_i (rn_V (C := RX9) (ci := 9) X hP (c_X9_isTicket h_1) kq_119 rfl k_822 k_823 k_935 k_9 k_824 rfl hd_X9_isTicket (n := 1) ⟨⟨rfl, rfl⟩, Nat.le_of_ble_eq_true rfl, Nat.le_of_ble_eq_true rfl⟩ (As := [.int a1]) (rest := []) rfl hl.1 rfl (Nat.le_of_ble_eq_true rfl) dX9_read_2 ⟨Nat.zero_le _, Nat.zero_le _⟩) hS (fun H locs hP hS => ?_)
  refine lv_if_eq (tgt := 16) hx hb dX9_read_5 (by decide) (fun hc => ?_) (fun hc => ?_)
  · replace h := if_elp h hc
    refine lv_bipush (v := (-2)) hx hb dX9_read_16 (by decide) ?_
    exact r_iret X hP hS (pr0 h) rfl dX9_read_18
  · replace h := if_eln h hc
    refine lv_iload_n hx hb dX9_read_8 rfl (lv_at hl 2 rfl) ?_
    refine lv_i2l (v := (Int32.toInt64 a2)) hx hb dX9_read_9 rfl ?_
    obtain ⟨r_2, h_2, h⟩ := bd_el h
    refine cl_i (rn_S X hP (c_X9_isCell h_2) k_642 k_643 k_9 k_644 hd_X9_isCell (n := 1) ⟨⟨rfl, rfl⟩, Nat.le_of_ble_eq_true rfl, Nat.le_of_ble_eq_true rfl⟩ (As := [.long (Int32.toInt64 a2)]) (rest := []) rfl hl.1 rfl (Nat.le_of_ble_eq_true rfl) dX9_read_10 ⟨Nat.zero_le _, Nat.zero_le _⟩) hS (fun H locs hP hS => ?_)
    refine lv_if_ne (tgt := 19) hx hb dX9_read_13 (by decide) (fun hc => ?_) (fun hc => ?_)
    · replace h := if_eln h hc
      refine lv_aload_n hx hb dX9_read_19 rfl (lv_at hl 0 rfl) ?_
      refine gf_X9_95 X hP dX9_read_20 ?_
      refine lv_iload_n hx hb dX9_read_23 rfl (lv_at hl 1 rfl) ?_
      obtain ⟨g_1, h⟩ := gd_el h
      refine r_zald X hP kq_148 g_1 dX9_read_24 ?_
      refine lv_if_eq (tgt := 46) hx hb dX9_read_25 (by decide) (fun hc => ?_) (fun hc => ?_)
      · replace h := if_elp h hc
        refine lv_iconst (v := 0) hx hb dX9_read_46 (by decide) ?_
        exact r_iret X hP hS (pr0 h) rfl dX9_read_47
      · replace h := if_eln h hc
        refine lv_aload_n hx hb dX9_read_28 rfl (lv_at hl 0 rfl) ?_
        refine gf_X9_105 X hP dX9_read_29 ?_
        refine lv_bipush (v := 40) hx hb dX9_read_32 (by decide) ?_
        refine lv_iload_n hx hb dX9_read_34 rfl (lv_at hl 1 rfl) ?_
        refine lv_imul hx hb dX9_read_35 ?_
        refine lv_iload_n hx hb dX9_read_36 rfl (lv_at hl 2 rfl) ?_
        refine lv_iadd hx hb dX9_read_37 ?_
        obtain ⟨g_2, h⟩ := gd_el h
        refine r_zald X hP kq_151 g_2 dX9_read_38 ?_
        refine lv_if_eq (tgt := 46) hx hb dX9_read_39 (by decide) (fun hc => ?_) (fun hc => ?_)
        · replace h := if_elp h hc
          refine lv_iconst (v := 0) hx hb dX9_read_46 (by decide) ?_
          exact r_iret X hP hS (pr0 h) rfl dX9_read_47
        · replace h := if_eln h hc
          refine lv_iconst (v := 1) hx hb dX9_read_42 (by decide) ?_
          refine lv_goto (tgt := 47) hx hb dX9_read_43 (by decide) ?_
          exact r_iret X hP hS (pr0 h) rfl dX9_read_47
    · replace h := if_elp h hc
      refine lv_bipush (v := (-2)) hx hb dX9_read_16 (by decide) ?_
      exact r_iret X hP hS (pr0 h) rfl dX9_read_18
abbrev rmX9_woken : Room := { frames := 2, cells := 0, slots := 0, locals := 46 }
def f_X9_woken (M : Mem) (a1 : Int32) (a2 : Int32) : Option (Int32) :=
  Option.bind (f_X9_isTicket M a1) fun r_1 => if (bI r_1) = 0 then (some (-2)) else (Option.bind (f_X9_in (Int32.toInt64 a2) 0 1) fun r_2 => if (bI r_2) = 0 then (some (-2)) else (if a2 = 0 then (gd (inR a1 20) <| some (gI M 144 a1.toNatClampNeg)) else (gd (inR a1 20) <| some (gI M 145 a1.toNatClampNeg))))
set_option maxRecDepth 100000 in
set_option maxHeartbeats 4000000 in
theorem c_X9_woken {l : Launch} {G : va_G} {cy : Nat → ClassId} {B nT : Nat} {M : Mem} {a1 : Int32} {a2 : Int32} {out : Int32} (h : f_X9_woken M a1 a2 = some out) : Met l yX9_woken (wsU yX9_woken cX9_woken 3 (some .int)) rmX9_woken (va_Pc [.ref (B + 119), .int a1, .int a2] (PU G B cy nT M)) (Qi G B cy nT out M) 0 0 (FB B) := by
  refine r_met (by decide +kernel) RX9 rfl (Nat.le_of_ble_eq_true rfl) ?_
  intro p e s m args below meth c ls X hP hl
  have hl : lv_has ls 3 [(0, .ref (B + 119)), (1, .int a1), (2, .int a2)] := hl
  have hS : va_S (FB B) s.heap s.heap [] := va_S.rf
  obtain ⟨hx, hb, hr, hml, hown, hts, hKn, hlk⟩ := id X
  unfold f_X9_woken at h
  refine lv_aload_n hx hb dX9_woken_0 rfl (lv_at hl 0 rfl) ?_
  refine lv_iload_n hx hb dX9_woken_1 rfl (lv_at hl 1 rfl) ?_
  obtain ⟨r_1, h_1, h⟩ := bd_el h
  refine cl_i (rn_V (C := RX9) (ci := 9) X hP (c_X9_isTicket h_1) kq_119 rfl k_822 k_823 k_935 k_9 k_824 rfl hd_X9_isTicket (n := 1) ⟨⟨rfl, rfl⟩, Nat.le_of_ble_eq_true rfl, Nat.le_of_ble_eq_true rfl⟩ (As := [.int a1]) (rest := []) rfl hl.1 rfl (Nat.le_of_ble_eq_true rfl) dX9_woken_2 ⟨Nat.zero_le _, Nat.zero_le _⟩) hS (fun H locs hP hS => ?_)
  refine lv_if_eq (tgt := 18) hx hb dX9_woken_5 (by decide) (fun hc => ?_) (fun hc => ?_)
  · replace h := if_elp h hc
    refine lv_bipush (v := (-2)) hx hb dX9_woken_18 (by decide) ?_
    exact r_iret X hP hS (pr0 h) rfl dX9_woken_20
  · replace h := if_eln h hc
    refine lv_iload_n hx hb dX9_woken_8 rfl (lv_at hl 2 rfl) ?_
    refine lv_i2l (v := (Int32.toInt64 a2)) hx hb dX9_woken_9 rfl ?_
    refine lv_lconst (v := 0) hx hb dX9_woken_10 rfl ?_
    refine lv_lconst (v := 1) hx hb dX9_woken_11 rfl ?_
    obtain ⟨r_2, h_2, h⟩ := bd_el h
    refine cl_i (rn_S X hP (c_X9_in h_2) k_646 k_647 k_9 k_648 hd_X9_in (n := 3) ⟨⟨rfl, rfl⟩, Nat.le_of_ble_eq_true rfl, Nat.le_of_ble_eq_true rfl⟩ (As := [.long (Int32.toInt64 a2), .long 0, .long 1]) (rest := []) rfl hl.1 rfl (Nat.le_of_ble_eq_true rfl) dX9_woken_12 ⟨Nat.zero_le _, Nat.zero_le _⟩) hS (fun H locs hP hS => ?_)
    refine lv_if_ne (tgt := 21) hx hb dX9_woken_15 (by decide) (fun hc => ?_) (fun hc => ?_)
    · replace h := if_eln h hc
      refine lv_iload_n hx hb dX9_woken_21 rfl (lv_at hl 2 rfl) ?_
      refine lv_if_ne (tgt := 34) hx hb dX9_woken_22 (by decide) (fun hc => ?_) (fun hc => ?_)
      · replace h := if_eln h hc
        refine lv_aload_n hx hb dX9_woken_34 rfl (lv_at hl 0 rfl) ?_
        refine gf_X9_86 X hP dX9_woken_35 ?_
        refine lv_iload_n hx hb dX9_woken_38 rfl (lv_at hl 1 rfl) ?_
        obtain ⟨g_1, h⟩ := gd_el h
        refine r_iald X hP kq_145 g_1 dX9_woken_39 ?_
        exact r_iret X hP hS (pr0 h) rfl dX9_woken_40
      · replace h := if_elp h hc
        refine lv_aload_n hx hb dX9_woken_25 rfl (lv_at hl 0 rfl) ?_
        refine gf_X9_83 X hP dX9_woken_26 ?_
        refine lv_iload_n hx hb dX9_woken_29 rfl (lv_at hl 1 rfl) ?_
        obtain ⟨g_2, h⟩ := gd_el h
        refine r_iald X hP kq_144 g_2 dX9_woken_30 ?_
        refine lv_goto (tgt := 40) hx hb dX9_woken_31 (by decide) ?_
        exact r_iret X hP hS (pr0 h) rfl dX9_woken_40
    · replace h := if_elp h hc
      refine lv_bipush (v := (-2)) hx hb dX9_woken_18 (by decide) ?_
      exact r_iret X hP hS (pr0 h) rfl dX9_woken_20
abbrev rmX9_order : Room := { frames := 1, cells := 0, slots := 0, locals := 25 }
def f_X9_order (M : Mem) (a1 : Int32) : Option (Int32) :=
  Option.bind (f_X9_in (Int32.toInt64 a1) 0 (Int32.toInt64 ((gI M 119 38) - 1))) fun r_1 => if (bI r_1) = 0 then (some (-1)) else (gd (inR a1 20) <| some (gI M 155 a1.toNatClampNeg))
set_option maxRecDepth 100000 in
set_option maxHeartbeats 4000000 in
theorem c_X9_order {l : Launch} {G : va_G} {cy : Nat → ClassId} {B nT : Nat} {M : Mem} {a1 : Int32} {out : Int32} (h : f_X9_order M a1 = some out) : Met l yX9_order (wsU yX9_order cX9_order 2 (some .int)) rmX9_order (va_Pc [.ref (B + 119), .int a1] (PU G B cy nT M)) (Qi G B cy nT out M) 0 0 (FB B) := by
  refine r_met (by decide +kernel) RX9 rfl (Nat.le_of_ble_eq_true rfl) ?_
  intro p e s m args below meth c ls X hP hl
  have hl : lv_has ls 2 [(0, .ref (B + 119)), (1, .int a1)] := hl
  have hS : va_S (FB B) s.heap s.heap [] := va_S.rf
  obtain ⟨hx, hb, hr, hml, hown, hts, hKn, hlk⟩ := id X
  unfold f_X9_order at h
  refine lv_iload_n hx hb dX9_order_0 rfl (lv_at hl 1 rfl) ?_
  refine lv_i2l (v := (Int32.toInt64 a1)) hx hb dX9_order_1 rfl ?_
  refine lv_lconst (v := 0) hx hb dX9_order_2 rfl ?_
  refine lv_aload_n hx hb dX9_order_3 rfl (lv_at hl 0 rfl) ?_
  refine gf_X9_365 X hP dX9_order_4 ?_
  refine lv_iconst (v := 1) hx hb dX9_order_7 (by decide) ?_
  refine lv_isub hx hb dX9_order_8 ?_
  refine lv_i2l (v := (Int32.toInt64 ((gI M 119 38) - 1))) hx hb dX9_order_9 rfl ?_
  obtain ⟨r_1, h_1, h⟩ := bd_el h
  refine cl_i (rn_S X hP (c_X9_in h_1) k_646 k_647 k_9 k_648 hd_X9_in (n := 3) ⟨⟨rfl, rfl⟩, Nat.le_of_ble_eq_true rfl, Nat.le_of_ble_eq_true rfl⟩ (As := [.long (Int32.toInt64 a1), .long 0, .long (Int32.toInt64 ((gI M 119 38) - 1))]) (rest := []) rfl hl.1 rfl (Nat.le_of_ble_eq_true rfl) dX9_order_10 ⟨Nat.zero_le _, Nat.zero_le _⟩) hS (fun H locs hP hS => ?_)
  refine lv_if_eq (tgt := 25) hx hb dX9_order_13 (by decide) (fun hc => ?_) (fun hc => ?_)
  · replace h := if_elp h hc
    refine lv_iconst (v := (-1)) hx hb dX9_order_25 (by decide) ?_
    exact r_iret X hP hS (pr0 h) rfl dX9_order_26
  · replace h := if_eln h hc
    refine lv_aload_n hx hb dX9_order_16 rfl (lv_at hl 0 rfl) ?_
    refine gf_X9_121 X hP dX9_order_17 ?_
    refine lv_iload_n hx hb dX9_order_20 rfl (lv_at hl 1 rfl) ?_
    obtain ⟨g_1, h⟩ := gd_el h
    refine r_iald X hP kq_155 g_1 dX9_order_21 ?_
    refine lv_goto (tgt := 26) hx hb dX9_order_22 (by decide) ?_
    exact r_iret X hP hS (pr0 h) rfl dX9_order_26
abbrev rmX9_isNote : Room := { frames := 1, cells := 0, slots := 0, locals := 25 }
def f_X9_isNote (M : Mem) (a1 : Int32) : Option (Bool) :=
  Option.bind (f_X9_in (Int32.toInt64 a1) 0 39) fun r_1 => if (bI r_1) = 0 then (some false) else (if (gI M 119 42) ≤ a1 then (some false) else (some true))
set_option maxRecDepth 100000 in
set_option maxHeartbeats 4000000 in
theorem c_X9_isNote {l : Launch} {G : va_G} {cy : Nat → ClassId} {B nT : Nat} {M : Mem} {a1 : Int32} {out : Bool} (h : f_X9_isNote M a1 = some out) : Met l yX9_isNote (wsU yX9_isNote cX9_isNote 2 (some .boolean)) rmX9_isNote (va_Pc [.ref (B + 119), .int a1] (PU G B cy nT M)) (Qi G B cy nT (bI out) M) 0 0 (FB B) := by
  refine r_met (by decide +kernel) RX9 rfl (Nat.le_of_ble_eq_true rfl) ?_
  intro p e s m args below meth c ls X hP hl
  have hl : lv_has ls 2 [(0, .ref (B + 119)), (1, .int a1)] := hl
  have hS : va_S (FB B) s.heap s.heap [] := va_S.rf
  obtain ⟨hx, hb, hr, hml, hown, hts, hKn, hlk⟩ := id X
  unfold f_X9_isNote at h
  refine lv_iload_n hx hb dX9_isNote_0 rfl (lv_at hl 1 rfl) ?_
  refine lv_i2l (v := (Int32.toInt64 a1)) hx hb dX9_isNote_1 rfl ?_
  refine lv_lconst (v := 0) hx hb dX9_isNote_2 rfl ?_
  refine lv_ldc2 (v := 39) hx hb hown (hts _ k_645) dX9_isNote_3 ?_
  obtain ⟨r_1, h_1, h⟩ := bd_el h
  refine cl_i (rn_S X hP (c_X9_in h_1) k_646 k_647 k_9 k_648 hd_X9_in (n := 3) ⟨⟨rfl, rfl⟩, Nat.le_of_ble_eq_true rfl, Nat.le_of_ble_eq_true rfl⟩ (As := [.long (Int32.toInt64 a1), .long 0, .long 39]) (rest := []) rfl hl.1 rfl (Nat.le_of_ble_eq_true rfl) dX9_isNote_6 ⟨Nat.zero_le _, Nat.zero_le _⟩) hS (fun H locs hP hS => ?_)
  refine lv_if_eq (tgt := 24) hx hb dX9_isNote_9 (by decide) (fun hc => ?_) (fun hc => ?_)
  · replace h := if_elp h hc
    refine lv_iconst (v := 0) hx hb dX9_isNote_24 (by decide) ?_
    exact r_zret X hP hS rfl (prz h) rfl dX9_isNote_25
  · replace h := if_eln h hc
    refine lv_iload_n hx hb dX9_isNote_12 rfl (lv_at hl 1 rfl) ?_
    refine lv_aload_n hx hb dX9_isNote_13 rfl (lv_at hl 0 rfl) ?_
    refine gf_X9_368 X hP dX9_isNote_14 ?_
    refine lv_icmp_ge (tgt := 24) hx hb dX9_isNote_17 (by decide) (fun hc => ?_) (fun hc => ?_)
    · replace h := if_elp h hc
      refine lv_iconst (v := 0) hx hb dX9_isNote_24 (by decide) ?_
      exact r_zret X hP hS rfl (prz h) rfl dX9_isNote_25
    · replace h := if_eln h hc
      refine lv_iconst (v := 1) hx hb dX9_isNote_20 (by decide) ?_
      refine lv_goto (tgt := 25) hx hb dX9_isNote_21 (by decide) ?_
      exact r_zret X hP hS rfl (prz h) rfl dX9_isNote_25
abbrev rmX9_note : Room := { frames := 2, cells := 0, slots := 0, locals := 46 }
def f_X9_note (M : Mem) (a1 : Int32) (a2 : Int32) : Option (Int32) :=
  Option.bind (f_X9_in (Int32.toInt64 a2) 0 1) fun r_1 => if (bI r_1) = 0 then (some (-2)) else (Option.bind (f_X9_isNote M a1) fun r_2 => if (bI r_2) = 0 then (some (-1)) else (if a2 = 0 then (gd (inR a1 40) <| some (gI M 156 a1.toNatClampNeg)) else (gd (inR a1 40) <| some (gI M 157 a1.toNatClampNeg))))
set_option maxRecDepth 100000 in
set_option maxHeartbeats 4000000 in
theorem c_X9_note {l : Launch} {G : va_G} {cy : Nat → ClassId} {B nT : Nat} {M : Mem} {a1 : Int32} {a2 : Int32} {out : Int32} (h : f_X9_note M a1 a2 = some out) : Met l yX9_note (wsU yX9_note cX9_note 3 (some .int)) rmX9_note (va_Pc [.ref (B + 119), .int a1, .int a2] (PU G B cy nT M)) (Qi G B cy nT out M) 0 0 (FB B) := by
  refine r_met (by decide +kernel) RX9 rfl (Nat.le_of_ble_eq_true rfl) ?_
  intro p e s m args below meth c ls X hP hl
  have hl : lv_has ls 3 [(0, .ref (B + 119)), (1, .int a1), (2, .int a2)] := hl
  have hS : va_S (FB B) s.heap s.heap [] := va_S.rf
  obtain ⟨hx, hb, hr, hml, hown, hts, hKn, hlk⟩ := id X
  unfold f_X9_note at h
  refine lv_iload_n hx hb dX9_note_0 rfl (lv_at hl 2 rfl) ?_
  refine lv_i2l (v := (Int32.toInt64 a2)) hx hb dX9_note_1 rfl ?_
  refine lv_lconst (v := 0) hx hb dX9_note_2 rfl ?_
  refine lv_lconst (v := 1) hx hb dX9_note_3 rfl ?_
  obtain ⟨r_1, h_1, h⟩ := bd_el h
  refine cl_i (rn_S X hP (c_X9_in h_1) k_646 k_647 k_9 k_648 hd_X9_in (n := 3) ⟨⟨rfl, rfl⟩, Nat.le_of_ble_eq_true rfl, Nat.le_of_ble_eq_true rfl⟩ (As := [.long (Int32.toInt64 a2), .long 0, .long 1]) (rest := []) rfl hl.1 rfl (Nat.le_of_ble_eq_true rfl) dX9_note_4 ⟨Nat.zero_le _, Nat.zero_le _⟩) hS (fun H locs hP hS => ?_)
  refine lv_if_ne (tgt := 13) hx hb dX9_note_7 (by decide) (fun hc => ?_) (fun hc => ?_)
  · replace h := if_eln h hc
    refine lv_aload_n hx hb dX9_note_13 rfl (lv_at hl 0 rfl) ?_
    refine lv_iload_n hx hb dX9_note_14 rfl (lv_at hl 1 rfl) ?_
    obtain ⟨r_2, h_2, h⟩ := bd_el h
    refine cl_i (rn_V (C := RX9) (ci := 9) X hP (c_X9_isNote h_2) kq_119 rfl k_853 k_854 k_936 k_9 k_855 rfl hd_X9_isNote (n := 1) ⟨⟨rfl, rfl⟩, Nat.le_of_ble_eq_true rfl, Nat.le_of_ble_eq_true rfl⟩ (As := [.int a1]) (rest := []) rfl hl.1 rfl (Nat.le_of_ble_eq_true rfl) dX9_note_15 ⟨Nat.zero_le _, Nat.zero_le _⟩) hS (fun H locs hP hS => ?_)
    refine lv_if_ne (tgt := 25) hx hb dX9_note_18 (by decide) (fun hc => ?_) (fun hc => ?_)
    · replace h := if_eln h hc
      refine lv_iload_n hx hb dX9_note_25 rfl (lv_at hl 2 rfl) ?_
      refine lv_if_ne (tgt := 38) hx hb dX9_note_26 (by decide) (fun hc => ?_) (fun hc => ?_)
      · replace h := if_eln h hc
        refine lv_aload_n hx hb dX9_note_38 rfl (lv_at hl 0 rfl) ?_
        refine gf_X9_127 X hP dX9_note_39 ?_
        refine lv_iload_n hx hb dX9_note_42 rfl (lv_at hl 1 rfl) ?_
        obtain ⟨g_1, h⟩ := gd_el h
        refine r_iald X hP kq_157 g_1 dX9_note_43 ?_
        exact r_iret X hP hS (pr0 h) rfl dX9_note_44
      · replace h := if_elp h hc
        refine lv_aload_n hx hb dX9_note_29 rfl (lv_at hl 0 rfl) ?_
        refine gf_X9_124 X hP dX9_note_30 ?_
        refine lv_iload_n hx hb dX9_note_33 rfl (lv_at hl 1 rfl) ?_
        obtain ⟨g_2, h⟩ := gd_el h
        refine r_iald X hP kq_156 g_2 dX9_note_34 ?_
        refine lv_goto (tgt := 44) hx hb dX9_note_35 (by decide) ?_
        exact r_iret X hP hS (pr0 h) rfl dX9_note_44
    · replace h := if_elp h hc
      refine lv_iconst (v := (-1)) hx hb dX9_note_21 (by decide) ?_
      refine lv_goto (tgt := 44) hx hb dX9_note_22 (by decide) ?_
      exact r_iret X hP hS (pr0 h) rfl dX9_note_44
  · replace h := if_elp h hc
    refine lv_bipush (v := (-2)) hx hb dX9_note_10 (by decide) ?_
    exact r_iret X hP hS (pr0 h) rfl dX9_note_12
abbrev rmX9_noted : Room := { frames := 2, cells := 0, slots := 0, locals := 46 }
def f_X9_noted (M : Mem) (a1 : Int32) : Option (Int64) :=
  Option.bind (f_X9_isNote M a1) fun r_1 => if (bI r_1) = 0 then (some 0) else (gd (inR a1 40) <| some (gL M 158 a1.toNatClampNeg))
set_option maxRecDepth 100000 in
set_option maxHeartbeats 4000000 in
theorem c_X9_noted {l : Launch} {G : va_G} {cy : Nat → ClassId} {B nT : Nat} {M : Mem} {a1 : Int32} {out : Int64} (h : f_X9_noted M a1 = some out) : Met l yX9_noted (wsU yX9_noted cX9_noted 2 (some .long)) rmX9_noted (va_Pc [.ref (B + 119), .int a1] (PU G B cy nT M)) (Ql G B cy nT out M) 0 0 (FB B) := by
  refine r_met (by decide +kernel) RX9 rfl (Nat.le_of_ble_eq_true rfl) ?_
  intro p e s m args below meth c ls X hP hl
  have hl : lv_has ls 2 [(0, .ref (B + 119)), (1, .int a1)] := hl
  have hS : va_S (FB B) s.heap s.heap [] := va_S.rf
  obtain ⟨hx, hb, hr, hml, hown, hts, hKn, hlk⟩ := id X
  unfold f_X9_noted at h
  refine lv_aload_n hx hb dX9_noted_0 rfl (lv_at hl 0 rfl) ?_
  refine lv_iload_n hx hb dX9_noted_1 rfl (lv_at hl 1 rfl) ?_
  obtain ⟨r_1, h_1, h⟩ := bd_el h
  refine cl_i (rn_V (C := RX9) (ci := 9) X hP (c_X9_isNote h_1) kq_119 rfl k_853 k_854 k_936 k_9 k_855 rfl hd_X9_isNote (n := 1) ⟨⟨rfl, rfl⟩, Nat.le_of_ble_eq_true rfl, Nat.le_of_ble_eq_true rfl⟩ (As := [.int a1]) (rest := []) rfl hl.1 rfl (Nat.le_of_ble_eq_true rfl) dX9_noted_2 ⟨Nat.zero_le _, Nat.zero_le _⟩) hS (fun H locs hP hS => ?_)
  refine lv_if_eq (tgt := 17) hx hb dX9_noted_5 (by decide) (fun hc => ?_) (fun hc => ?_)
  · replace h := if_elp h hc
    refine lv_lconst (v := 0) hx hb dX9_noted_17 rfl ?_
    exact r_lret X hP hS (pr0 h) rfl dX9_noted_18
  · replace h := if_eln h hc
    refine lv_aload_n hx hb dX9_noted_8 rfl (lv_at hl 0 rfl) ?_
    refine gf_X9_130 X hP dX9_noted_9 ?_
    refine lv_iload_n hx hb dX9_noted_12 rfl (lv_at hl 1 rfl) ?_
    obtain ⟨g_1, h⟩ := gd_el h
    refine r_lald X hP kq_158 g_1 dX9_noted_13 ?_
    refine lv_goto (tgt := 18) hx hb dX9_noted_14 (by decide) ?_
    exact r_lret X hP hS (pr0 h) rfl dX9_noted_18
abbrev rmX9_count : Room := { frames := 1, cells := 0, slots := 0, locals := 23 }
def f_X9_count (M : Mem) (a1 : Int32) : Option (Int32) :=
  if a1 = 0 then (some (gI M 119 18)) else if a1 = 1 then (Option.bind (f_X9_many M 0) fun r_1 => some r_1) else if a1 = 2 then (Option.bind (f_X9_many M 3) fun r_2 => some r_2) else if a1 = 3 then (some (gI M 119 38)) else if a1 = 4 then (some (gI M 119 40)) else if a1 = 5 then (some (gI M 119 41)) else if a1 = 6 then (some (gI M 119 42)) else if a1 = 7 then (some (gI M 119 13)) else some (-2)
set_option maxRecDepth 100000 in
set_option maxHeartbeats 4000000 in
theorem c_X9_count {l : Launch} {G : va_G} {cy : Nat → ClassId} {B nT : Nat} {M : Mem} {a1 : Int32} {out : Int32} (h : f_X9_count M a1 = some out) : Met l yX9_count (wsU yX9_count cX9_count 2 (some .int)) rmX9_count (va_Pc [.ref (B + 119), .int a1] (PU G B cy nT M)) (Qi G B cy nT out M) 0 0 (FB B) := by
  refine r_met (by decide +kernel) RX9 rfl (Nat.le_of_ble_eq_true rfl) ?_
  intro p e s m args below meth c ls X hP hl
  have hl : lv_has ls 2 [(0, .ref (B + 119)), (1, .int a1)] := hl
  have hS : va_S (FB B) s.heap s.heap [] := va_S.rf
  obtain ⟨hx, hb, hr, hml, hown, hts, hKn, hlk⟩ := id X
  unfold f_X9_count at h
  refine lv_iload_n hx hb dX9_count_0 rfl (lv_at hl 1 rfl) ?_
  by_cases h_1 : a1 = 0
  · replace h := if_elp h h_1
    refine lv_tableIn (off := 47) (tgt := 48) hx hb dX9_count_1 (by rw [h_1]; decide) (by rw [h_1]; decide) (by rw [h_1]; rfl) (by decide) ?_
    refine lv_aload_n hx hb dX9_count_48 rfl (lv_at hl 0 rfl) ?_
    refine gf_X9_231 X hP dX9_count_49 ?_
    exact r_iret X hP hS (pr0 h) rfl dX9_count_52
  · replace h := if_eln h h_1
    by_cases h_2 : a1 = 1
    · replace h := if_elp h h_2
      refine lv_tableIn (off := 52) (tgt := 53) hx hb dX9_count_1 (by rw [h_2]; decide) (by rw [h_2]; decide) (by rw [h_2]; rfl) (by decide) ?_
      refine lv_aload_n hx hb dX9_count_53 rfl (lv_at hl 0 rfl) ?_
      refine lv_iconst (v := 0) hx hb dX9_count_54 (by decide) ?_
      obtain ⟨r_1, h_3, h⟩ := bd_el h
      refine cl_i (rn_V (C := RX9) (ci := 9) X hP (c_X9_many h_3) kq_119 rfl k_724 k_725 k_907 k_9 k_726 rfl hd_X9_many (n := 1) ⟨⟨rfl, rfl⟩, Nat.le_of_ble_eq_true rfl, Nat.le_of_ble_eq_true rfl⟩ (As := [.int 0]) (rest := []) rfl hl.1 rfl (Nat.le_of_ble_eq_true rfl) dX9_count_55 ⟨Nat.zero_le _, Nat.zero_le _⟩) hS (fun H locs hP hS => ?_)
      exact r_iret X hP hS (pr0 h) rfl dX9_count_58
    · replace h := if_eln h h_2
      by_cases h_4 : a1 = 2
      · replace h := if_elp h h_4
        refine lv_tableIn (off := 58) (tgt := 59) hx hb dX9_count_1 (by rw [h_4]; decide) (by rw [h_4]; decide) (by rw [h_4]; rfl) (by decide) ?_
        refine lv_aload_n hx hb dX9_count_59 rfl (lv_at hl 0 rfl) ?_
        refine lv_iconst (v := 3) hx hb dX9_count_60 (by decide) ?_
        obtain ⟨r_2, h_5, h⟩ := bd_el h
        refine cl_i (rn_V (C := RX9) (ci := 9) X hP (c_X9_many h_5) kq_119 rfl k_724 k_725 k_907 k_9 k_726 rfl hd_X9_many (n := 1) ⟨⟨rfl, rfl⟩, Nat.le_of_ble_eq_true rfl, Nat.le_of_ble_eq_true rfl⟩ (As := [.int 3]) (rest := []) rfl hl.1 rfl (Nat.le_of_ble_eq_true rfl) dX9_count_61 ⟨Nat.zero_le _, Nat.zero_le _⟩) hS (fun H locs hP hS => ?_)
        exact r_iret X hP hS (pr0 h) rfl dX9_count_64
      · replace h := if_eln h h_4
        by_cases h_6 : a1 = 3
        · replace h := if_elp h h_6
          refine lv_tableIn (off := 64) (tgt := 65) hx hb dX9_count_1 (by rw [h_6]; decide) (by rw [h_6]; decide) (by rw [h_6]; rfl) (by decide) ?_
          refine lv_aload_n hx hb dX9_count_65 rfl (lv_at hl 0 rfl) ?_
          refine gf_X9_365 X hP dX9_count_66 ?_
          exact r_iret X hP hS (pr0 h) rfl dX9_count_69
        · replace h := if_eln h h_6
          by_cases h_7 : a1 = 4
          · replace h := if_elp h h_7
            refine lv_tableIn (off := 69) (tgt := 70) hx hb dX9_count_1 (by rw [h_7]; decide) (by rw [h_7]; decide) (by rw [h_7]; rfl) (by decide) ?_
            refine lv_aload_n hx hb dX9_count_70 rfl (lv_at hl 0 rfl) ?_
            refine gf_X9_393 X hP dX9_count_71 ?_
            exact r_iret X hP hS (pr0 h) rfl dX9_count_74
          · replace h := if_eln h h_7
            by_cases h_8 : a1 = 5
            · replace h := if_elp h h_8
              refine lv_tableIn (off := 74) (tgt := 75) hx hb dX9_count_1 (by rw [h_8]; decide) (by rw [h_8]; decide) (by rw [h_8]; rfl) (by decide) ?_
              refine lv_aload_n hx hb dX9_count_75 rfl (lv_at hl 0 rfl) ?_
              refine gf_X9_351 X hP dX9_count_76 ?_
              exact r_iret X hP hS (pr0 h) rfl dX9_count_79
            · replace h := if_eln h h_8
              by_cases h_9 : a1 = 6
              · replace h := if_elp h h_9
                refine lv_tableIn (off := 79) (tgt := 80) hx hb dX9_count_1 (by rw [h_9]; decide) (by rw [h_9]; decide) (by rw [h_9]; rfl) (by decide) ?_
                refine lv_aload_n hx hb dX9_count_80 rfl (lv_at hl 0 rfl) ?_
                refine gf_X9_368 X hP dX9_count_81 ?_
                exact r_iret X hP hS (pr0 h) rfl dX9_count_84
              · replace h := if_eln h h_9
                by_cases h_10 : a1 = 7
                · replace h := if_elp h h_10
                  refine lv_tableIn (off := 84) (tgt := 85) hx hb dX9_count_1 (by rw [h_10]; decide) (by rw [h_10]; decide) (by rw [h_10]; rfl) (by decide) ?_
                  refine lv_aload_n hx hb dX9_count_85 rfl (lv_at hl 0 rfl) ?_
                  refine gf_X9_264 X hP dX9_count_86 ?_
                  exact r_iret X hP hS (pr0 h) rfl dX9_count_89
                · replace h := if_eln h h_10
                  refine lv_tableOut (tgt := 90) hx hb dX9_count_1 (by have z0 := lv_neT (a := 0) h_1 rfl; have z1 := lv_neT (a := 1) h_2 rfl; have z2 := lv_neT (a := 2) h_4 rfl; have z3 := lv_neT (a := 3) h_6 rfl; have z4 := lv_neT (a := 4) h_7 rfl; have z5 := lv_neT (a := 5) h_8 rfl; have z6 := lv_neT (a := 6) h_9 rfl; have z7 := lv_neT (a := 7) h_10 rfl; omega) (by decide) ?_
                  refine lv_bipush (v := (-2)) hx hb dX9_count_90 (by decide) ?_
                  exact r_iret X hP hS (pr0 h) rfl dX9_count_92
abbrev rmX9_digest : Room := { frames := 3, cells := 0, slots := 0, locals := 68 }
def f_X9_digest_153 (M : Mem) : Nat → Int64 → Int32 → Option (Int64)
  | 0, _, _ => none
  | n + 1, v1, v3 => if (gI M 119 38) ≤ v3 then (some v1) else (gd (inR v3 20) <| lt ((31 * v1) + (Int32.toInt64 (gI M 155 v3.toNatClampNeg))) fun v_1 => lt (v3 + 1) fun v_2 => (f_X9_digest_153 M n) v_1 v_2)
set_option maxRecDepth 100000 in
set_option maxHeartbeats 4000000 in
theorem w_X9_digest_153 (X : Cx p s m args meth c cX9_digest RX9 5 (some .long) G cy) {M : Mem} {out : Int64} : ∀ n : Nat, ∀ (H : Heap) (locs : List Loc) (ls : Array Slot) (v1 : Int64) (v3 : Int32), Pic G B cy nT M H → va_S (FB B) s.heap H locs → lv_has ls 5 [(0, .ref (B + 119)), (1, .long v1), (3, .int v3)] → f_X9_digest_153 M n v1 v3 = some out → W p l e rmX9_digest s m args below meth c H locs 0 0 (MQ below (Ql G B cy nT out M) args s 0 0 (FB B)) (F0 m 153 ls []) := by
  obtain ⟨hx, hb, hr, hml, hown, hts, hKn, hlk⟩ := id X
  intro n
  induction n with
  | zero =>
    intro H locs ls v1 v3 hP hS hl h
    cases h
  | succ n ih =>
    intro H locs ls v1 v3 hP hS hl h
    rw [f_X9_digest_153] at h
    refine lv_iload_n hx hb dX9_digest_153 rfl (lv_at hl 2 rfl) ?_
    refine lv_aload_n hx hb dX9_digest_154 rfl (lv_at hl 0 rfl) ?_
    refine gf_X9_365 X hP dX9_digest_155 ?_
    refine lv_icmp_ge (tgt := 181) hx hb dX9_digest_158 (by decide) (fun hc => ?_) (fun hc => ?_)
    · replace h := if_elp h hc
      refine lv_lload_n hx hb dX9_digest_181 rfl (lv_at hl 1 rfl) ?_
      exact r_lret X hP hS (pr0 h) rfl dX9_digest_182
    · replace h := if_eln h hc
      refine lv_ldc2 (v := 31) hx hb hown (hts _ k_869) dX9_digest_161 ?_
      refine lv_lload_n hx hb dX9_digest_164 rfl (lv_at hl 1 rfl) ?_
      refine lv_lmul hx hb dX9_digest_165 ?_
      refine lv_aload_n hx hb dX9_digest_166 rfl (lv_at hl 0 rfl) ?_
      refine gf_X9_121 X hP dX9_digest_167 ?_
      refine lv_iload_n hx hb dX9_digest_170 rfl (lv_at hl 2 rfl) ?_
      obtain ⟨g_1, h⟩ := gd_el h
      refine r_iald X hP kq_155 g_1 dX9_digest_171 ?_
      refine lv_i2l (v := (Int32.toInt64 (gI M 155 v3.toNatClampNeg))) hx hb dX9_digest_172 rfl ?_
      refine lv_ladd hx hb dX9_digest_173 ?_
      obtain ⟨v_1, e_1, h⟩ := lt_el h
      refine r_topl e_1 ?_
      refine lv_lstore_n (lv' := [(1, .long v_1), (0, .ref (B + 119)), (3, .int v3)]) hx hb dX9_digest_174 rfl hl (by decide) rfl (fun ls hl => ?_)
      obtain ⟨v_2, e_2, h⟩ := lt_el h
      refine lv_iinc (v := v_2) (lv' := [(3, .int v_2), (1, .long v_1), (0, .ref (B + 119))]) hx hb dX9_digest_175 hl (k := 2) rfl (by rw [e_2]; rfl) (by decide) rfl (fun ls hl => ?_)
      refine lv_goto (tgt := 153) hx hb dX9_digest_178 (by decide) ?_
      exact ih _ _ _ _ _ hP hS (lv_sub hl [2, 1, 0] rfl) h
def f_X9_digest_118 (M : Mem) (K76 : Int64 → Int32 → Option (Int64)) : Nat → Int64 → Int32 → Int32 → Option (Int64)
  | 0, _, _, _ => none
  | n + 1, v1, v3, v4 => if 8 ≤ v4 then (lt (v3 + 1) fun v_1 => K76 v1 v_1) else (Option.bind (f_X9_answer M v3 v4) fun r_1 => lt ((31 * v1) + r_1) fun v_2 => lt (v4 + 1) fun v_3 => (f_X9_digest_118 M K76 n) v_2 v3 v_3)
set_option maxRecDepth 100000 in
set_option maxHeartbeats 4000000 in
theorem w_X9_digest_118 (X : Cx p s m args meth c cX9_digest RX9 5 (some .long) G cy) {M : Mem} {out : Int64} {K76 : Int64 → Int32 → Option (Int64)} (hK76 : ∀ (H : Heap) (locs : List Loc) (ls : Array Slot) (v1 : Int64) (v3 : Int32), Pic G B cy nT M H → va_S (FB B) s.heap H locs → lv_has ls 5 [(0, .ref (B + 119)), (1, .long v1), (3, .int v3)] → K76 v1 v3 = some out → W p l e rmX9_digest s m args below meth c H locs 0 0 (MQ below (Ql G B cy nT out M) args s 0 0 (FB B)) (F0 m 76 ls [])) : ∀ n : Nat, ∀ (H : Heap) (locs : List Loc) (ls : Array Slot) (v1 : Int64) (v3 : Int32) (v4 : Int32), Pic G B cy nT M H → va_S (FB B) s.heap H locs → lv_has ls 5 [(0, .ref (B + 119)), (1, .long v1), (3, .int v3), (4, .int v4)] → f_X9_digest_118 M K76 n v1 v3 v4 = some out → W p l e rmX9_digest s m args below meth c H locs 0 0 (MQ below (Ql G B cy nT out M) args s 0 0 (FB B)) (F0 m 118 ls []) := by
  obtain ⟨hx, hb, hr, hml, hown, hts, hKn, hlk⟩ := id X
  intro n
  induction n with
  | zero =>
    intro H locs ls v1 v3 v4 hP hS hl h
    cases h
  | succ n ih =>
    intro H locs ls v1 v3 v4 hP hS hl h
    rw [f_X9_digest_118] at h
    refine lv_iload hx hb dX9_digest_118 (lv_at hl 3 rfl) ?_
    refine lv_bipush (v := 8) hx hb dX9_digest_120 (by decide) ?_
    refine lv_icmp_ge (tgt := 145) hx hb dX9_digest_122 (by decide) (fun hc => ?_) (fun hc => ?_)
    · replace h := if_elp h hc
      obtain ⟨v_1, e_1, h⟩ := lt_el h
      refine lv_iinc (v := v_1) (lv' := [(3, .int v_1), (0, .ref (B + 119)), (1, .long v1), (4, .int v4)]) hx hb dX9_digest_145 hl (k := 2) rfl (by rw [e_1]; rfl) (by decide) rfl (fun ls hl => ?_)
      refine lv_goto (tgt := 76) hx hb dX9_digest_148 (by decide) ?_
      exact hK76 _ _ _ _ _ hP hS (lv_sub hl [1, 2, 0] rfl) h
    · replace h := if_eln h hc
      refine lv_ldc2 (v := 31) hx hb hown (hts _ k_869) dX9_digest_125 ?_
      refine lv_lload_n hx hb dX9_digest_128 rfl (lv_at hl 1 rfl) ?_
      refine lv_lmul hx hb dX9_digest_129 ?_
      refine lv_aload_n hx hb dX9_digest_130 rfl (lv_at hl 0 rfl) ?_
      refine lv_iload_n hx hb dX9_digest_131 rfl (lv_at hl 2 rfl) ?_
      refine lv_iload hx hb dX9_digest_132 (lv_at hl 3 rfl) ?_
      obtain ⟨r_1, h_1, h⟩ := bd_el h
      refine cl_l (rn_V (C := RX9) (ci := 9) X hP (c_X9_answer h_1) kq_119 rfl k_873 k_826 k_827 k_9 k_828 rfl hd_X9_answer (n := 2) ⟨⟨rfl, rfl⟩, Nat.le_of_ble_eq_true rfl, Nat.le_of_ble_eq_true rfl⟩ (As := [.int v3, .int v4]) (rest := [.long (31 * v1)]) rfl hl.1 rfl (Nat.le_of_ble_eq_true rfl) dX9_digest_134 ⟨Nat.zero_le _, Nat.zero_le _⟩) hS (fun H locs hP hS => ?_)
      refine lv_ladd hx hb dX9_digest_137 ?_
      obtain ⟨v_2, e_2, h⟩ := lt_el h
      refine r_topl e_2 ?_
      refine lv_lstore_n (lv' := [(1, .long v_2), (0, .ref (B + 119)), (3, .int v3), (4, .int v4)]) hx hb dX9_digest_138 rfl hl (by decide) rfl (fun ls hl => ?_)
      obtain ⟨v_3, e_3, h⟩ := lt_el h
      refine lv_iinc (v := v_3) (lv' := [(4, .int v_3), (1, .long v_2), (0, .ref (B + 119)), (3, .int v3)]) hx hb dX9_digest_139 hl (k := 3) rfl (by rw [e_3]; rfl) (by decide) rfl (fun ls hl => ?_)
      refine lv_goto (tgt := 118) hx hb dX9_digest_142 (by decide) ?_
      exact ih _ _ _ _ _ _ hP hS (lv_sub hl [2, 1, 3, 0] rfl) h
def f_X9_digest_87 (M : Mem) (K76 : Int64 → Int32 → Option (Int64)) : Nat → Int64 → Int32 → Int32 → Option (Int64)
  | 0, _, _, _ => none
  | n + 1, v1, v3, v4 => if 6 ≤ v4 then (f_X9_digest_118 M K76 FU v1 v3 0) else (Option.bind (f_X9_ticket M v3 v4) fun r_1 => lt ((31 * v1) + (Int32.toInt64 r_1)) fun v_1 => lt (v4 + 1) fun v_2 => (f_X9_digest_87 M K76 n) v_1 v3 v_2)
set_option maxRecDepth 100000 in
set_option maxHeartbeats 4000000 in
theorem w_X9_digest_87 (X : Cx p s m args meth c cX9_digest RX9 5 (some .long) G cy) {M : Mem} {out : Int64} {K76 : Int64 → Int32 → Option (Int64)} (hK76 : ∀ (H : Heap) (locs : List Loc) (ls : Array Slot) (v1 : Int64) (v3 : Int32), Pic G B cy nT M H → va_S (FB B) s.heap H locs → lv_has ls 5 [(0, .ref (B + 119)), (1, .long v1), (3, .int v3)] → K76 v1 v3 = some out → W p l e rmX9_digest s m args below meth c H locs 0 0 (MQ below (Ql G B cy nT out M) args s 0 0 (FB B)) (F0 m 76 ls [])) : ∀ n : Nat, ∀ (H : Heap) (locs : List Loc) (ls : Array Slot) (v1 : Int64) (v3 : Int32) (v4 : Int32), Pic G B cy nT M H → va_S (FB B) s.heap H locs → lv_has ls 5 [(0, .ref (B + 119)), (1, .long v1), (3, .int v3), (4, .int v4)] → f_X9_digest_87 M K76 n v1 v3 v4 = some out → W p l e rmX9_digest s m args below meth c H locs 0 0 (MQ below (Ql G B cy nT out M) args s 0 0 (FB B)) (F0 m 87 ls []) := by
  obtain ⟨hx, hb, hr, hml, hown, hts, hKn, hlk⟩ := id X
  intro n
  induction n with
  | zero =>
    intro H locs ls v1 v3 v4 hP hS hl h
    cases h
  | succ n ih =>
    intro H locs ls v1 v3 v4 hP hS hl h
    rw [f_X9_digest_87] at h
    refine lv_iload hx hb dX9_digest_87 (lv_at hl 3 rfl) ?_
    refine lv_bipush (v := 6) hx hb dX9_digest_89 (by decide) ?_
    refine lv_icmp_ge (tgt := 115) hx hb dX9_digest_91 (by decide) (fun hc => ?_) (fun hc => ?_)
    · replace h := if_elp h hc
      refine lv_iconst (v := 0) hx hb dX9_digest_115 (by decide) ?_
      refine lv_istore (lv' := [(4, .int 0), (0, .ref (B + 119)), (1, .long v1), (3, .int v3)]) hx hb dX9_digest_116 hl (by decide) rfl (fun ls hl => ?_)
      exact w_X9_digest_118 X hK76 FU _ _ _ _ _ _ hP hS (lv_sub hl [1, 2, 3, 0] rfl) h
    · replace h := if_eln h hc
      refine lv_ldc2 (v := 31) hx hb hown (hts _ k_869) dX9_digest_94 ?_
      refine lv_lload_n hx hb dX9_digest_97 rfl (lv_at hl 1 rfl) ?_
      refine lv_lmul hx hb dX9_digest_98 ?_
      refine lv_aload_n hx hb dX9_digest_99 rfl (lv_at hl 0 rfl) ?_
      refine lv_iload_n hx hb dX9_digest_100 rfl (lv_at hl 2 rfl) ?_
      refine lv_iload hx hb dX9_digest_101 (lv_at hl 3 rfl) ?_
      obtain ⟨r_1, h_1, h⟩ := bd_el h
      refine cl_i (rn_V (C := RX9) (ci := 9) X hP (c_X9_ticket h_1) kq_119 rfl k_872 k_819 k_820 k_9 k_821 rfl hd_X9_ticket (n := 2) ⟨⟨rfl, rfl⟩, Nat.le_of_ble_eq_true rfl, Nat.le_of_ble_eq_true rfl⟩ (As := [.int v3, .int v4]) (rest := [.long (31 * v1)]) rfl hl.1 rfl (Nat.le_of_ble_eq_true rfl) dX9_digest_103 ⟨Nat.zero_le _, Nat.zero_le _⟩) hS (fun H locs hP hS => ?_)
      refine lv_i2l (v := (Int32.toInt64 r_1)) hx hb dX9_digest_106 rfl ?_
      refine lv_ladd hx hb dX9_digest_107 ?_
      obtain ⟨v_1, e_1, h⟩ := lt_el h
      refine r_topl e_1 ?_
      refine lv_lstore_n (lv' := [(1, .long v_1), (0, .ref (B + 119)), (3, .int v3), (4, .int v4)]) hx hb dX9_digest_108 rfl hl (by decide) rfl (fun ls hl => ?_)
      obtain ⟨v_2, e_2, h⟩ := lt_el h
      refine lv_iinc (v := v_2) (lv' := [(4, .int v_2), (1, .long v_1), (0, .ref (B + 119)), (3, .int v3)]) hx hb dX9_digest_109 hl (k := 3) rfl (by rw [e_2]; rfl) (by decide) rfl (fun ls hl => ?_)
      refine lv_goto (tgt := 87) hx hb dX9_digest_112 (by decide) ?_
      exact ih _ _ _ _ _ _ hP hS (lv_sub hl [2, 1, 3, 0] rfl) h
def f_X9_digest_76 (M : Mem) : Nat → Int64 → Int32 → Option (Int64)
  | 0, _, _ => none
  | n + 1, v1, v3 => if (gI M 119 18) ≤ v3 then (f_X9_digest_153 M FU v1 0) else (f_X9_digest_87 M (f_X9_digest_76 M n) FU v1 v3 0)
set_option maxRecDepth 100000 in
set_option maxHeartbeats 4000000 in
theorem w_X9_digest_76 (X : Cx p s m args meth c cX9_digest RX9 5 (some .long) G cy) {M : Mem} {out : Int64} : ∀ n : Nat, ∀ (H : Heap) (locs : List Loc) (ls : Array Slot) (v1 : Int64) (v3 : Int32), Pic G B cy nT M H → va_S (FB B) s.heap H locs → lv_has ls 5 [(0, .ref (B + 119)), (1, .long v1), (3, .int v3)] → f_X9_digest_76 M n v1 v3 = some out → W p l e rmX9_digest s m args below meth c H locs 0 0 (MQ below (Ql G B cy nT out M) args s 0 0 (FB B)) (F0 m 76 ls []) := by
  obtain ⟨hx, hb, hr, hml, hown, hts, hKn, hlk⟩ := id X
  intro n
  induction n with
  | zero =>
    intro H locs ls v1 v3 hP hS hl h
    cases h
  | succ n ih =>
    intro H locs ls v1 v3 hP hS hl h
    rw [f_X9_digest_76] at h
    refine lv_iload_n hx hb dX9_digest_76 rfl (lv_at hl 2 rfl) ?_
    refine lv_aload_n hx hb dX9_digest_77 rfl (lv_at hl 0 rfl) ?_
    refine gf_X9_231 X hP dX9_digest_78 ?_
    refine lv_icmp_ge (tgt := 151) hx hb dX9_digest_81 (by decide) (fun hc => ?_) (fun hc => ?_)
    · replace h := if_elp h hc
      refine lv_iconst (v := 0) hx hb dX9_digest_151 (by decide) ?_
      refine lv_istore_n (lv' := [(3, .int 0), (0, .ref (B + 119)), (1, .long v1)]) hx hb dX9_digest_152 rfl hl (by decide) rfl (fun ls hl => ?_)
      exact w_X9_digest_153 X FU _ _ _ _ _ hP hS (lv_sub hl [1, 2, 0] rfl) h
    · replace h := if_eln h hc
      refine lv_iconst (v := 0) hx hb dX9_digest_84 (by decide) ?_
      refine lv_istore (lv' := [(4, .int 0), (0, .ref (B + 119)), (1, .long v1), (3, .int v3)]) hx hb dX9_digest_85 hl (by decide) rfl (fun ls hl => ?_)
      exact w_X9_digest_87 X ih FU _ _ _ _ _ _ hP hS (lv_sub hl [1, 2, 3, 0] rfl) h
def f_X9_digest_41 (M : Mem) (K6 : Int64 → Int32 → Option (Int64)) : Nat → Int64 → Int32 → Int32 → Option (Int64)
  | 0, _, _, _ => none
  | n + 1, v1, v3, v4 => if 4 ≤ v4 then (lt (v3 + 1) fun v_1 => K6 v1 v_1) else (Option.bind (f_X9_cell M v3 v4) fun r_1 => lt ((31 * v1) + (Int32.toInt64 r_1)) fun v_2 => lt (v4 + 1) fun v_3 => (f_X9_digest_41 M K6 n) v_2 v3 v_3)
set_option maxRecDepth 100000 in
set_option maxHeartbeats 4000000 in
theorem w_X9_digest_41 (X : Cx p s m args meth c cX9_digest RX9 5 (some .long) G cy) {M : Mem} {out : Int64} {K6 : Int64 → Int32 → Option (Int64)} (hK6 : ∀ (H : Heap) (locs : List Loc) (ls : Array Slot) (v1 : Int64) (v3 : Int32), Pic G B cy nT M H → va_S (FB B) s.heap H locs → lv_has ls 5 [(0, .ref (B + 119)), (1, .long v1), (3, .int v3)] → K6 v1 v3 = some out → W p l e rmX9_digest s m args below meth c H locs 0 0 (MQ below (Ql G B cy nT out M) args s 0 0 (FB B)) (F0 m 6 ls [])) : ∀ n : Nat, ∀ (H : Heap) (locs : List Loc) (ls : Array Slot) (v1 : Int64) (v3 : Int32) (v4 : Int32), Pic G B cy nT M H → va_S (FB B) s.heap H locs → lv_has ls 5 [(0, .ref (B + 119)), (1, .long v1), (3, .int v3), (4, .int v4)] → f_X9_digest_41 M K6 n v1 v3 v4 = some out → W p l e rmX9_digest s m args below meth c H locs 0 0 (MQ below (Ql G B cy nT out M) args s 0 0 (FB B)) (F0 m 41 ls []) := by
  obtain ⟨hx, hb, hr, hml, hown, hts, hKn, hlk⟩ := id X
  intro n
  induction n with
  | zero =>
    intro H locs ls v1 v3 v4 hP hS hl h
    cases h
  | succ n ih =>
    intro H locs ls v1 v3 v4 hP hS hl h
    rw [f_X9_digest_41] at h
    refine lv_iload hx hb dX9_digest_41 (lv_at hl 3 rfl) ?_
    refine lv_iconst (v := 4) hx hb dX9_digest_43 (by decide) ?_
    refine lv_icmp_ge (tgt := 68) hx hb dX9_digest_44 (by decide) (fun hc => ?_) (fun hc => ?_)
    · replace h := if_elp h hc
      obtain ⟨v_1, e_1, h⟩ := lt_el h
      refine lv_iinc (v := v_1) (lv' := [(3, .int v_1), (0, .ref (B + 119)), (1, .long v1), (4, .int v4)]) hx hb dX9_digest_68 hl (k := 2) rfl (by rw [e_1]; rfl) (by decide) rfl (fun ls hl => ?_)
      refine lv_goto (tgt := 6) hx hb dX9_digest_71 (by decide) ?_
      exact hK6 _ _ _ _ _ hP hS (lv_sub hl [1, 2, 0] rfl) h
    · replace h := if_eln h hc
      refine lv_ldc2 (v := 31) hx hb hown (hts _ k_869) dX9_digest_47 ?_
      refine lv_lload_n hx hb dX9_digest_50 rfl (lv_at hl 1 rfl) ?_
      refine lv_lmul hx hb dX9_digest_51 ?_
      refine lv_aload_n hx hb dX9_digest_52 rfl (lv_at hl 0 rfl) ?_
      refine lv_iload_n hx hb dX9_digest_53 rfl (lv_at hl 2 rfl) ?_
      refine lv_iload hx hb dX9_digest_54 (lv_at hl 3 rfl) ?_
      obtain ⟨r_1, h_1, h⟩ := bd_el h
      refine cl_i (rn_V (C := RX9) (ci := 9) X hP (c_X9_cell h_1) kq_119 rfl k_871 k_671 k_672 k_9 k_673 rfl hd_X9_cell (n := 2) ⟨⟨rfl, rfl⟩, Nat.le_of_ble_eq_true rfl, Nat.le_of_ble_eq_true rfl⟩ (As := [.int v3, .int v4]) (rest := [.long (31 * v1)]) rfl hl.1 rfl (Nat.le_of_ble_eq_true rfl) dX9_digest_56 ⟨Nat.zero_le _, Nat.zero_le _⟩) hS (fun H locs hP hS => ?_)
      refine lv_i2l (v := (Int32.toInt64 r_1)) hx hb dX9_digest_59 rfl ?_
      refine lv_ladd hx hb dX9_digest_60 ?_
      obtain ⟨v_2, e_2, h⟩ := lt_el h
      refine r_topl e_2 ?_
      refine lv_lstore_n (lv' := [(1, .long v_2), (0, .ref (B + 119)), (3, .int v3), (4, .int v4)]) hx hb dX9_digest_61 rfl hl (by decide) rfl (fun ls hl => ?_)
      obtain ⟨v_3, e_3, h⟩ := lt_el h
      refine lv_iinc (v := v_3) (lv' := [(4, .int v_3), (1, .long v_2), (0, .ref (B + 119)), (3, .int v3)]) hx hb dX9_digest_62 hl (k := 3) rfl (by rw [e_3]; rfl) (by decide) rfl (fun ls hl => ?_)
      refine lv_goto (tgt := 41) hx hb dX9_digest_65 (by decide) ?_
      exact ih _ _ _ _ _ _ hP hS (lv_sub hl [2, 1, 3, 0] rfl) h
def f_X9_digest_6 (M : Mem) : Nat → Int64 → Int32 → Option (Int64)
  | 0, _, _ => none
  | n + 1, v1, v3 => if 40 ≤ v3 then (f_X9_digest_76 M FU v1 0) else (gd (inR v3 40) <| lt ((31 * v1) + (Int32.toInt64 (gI M 120 v3.toNatClampNeg))) fun v_1 => Option.bind (f_X9_value M v3) fun r_1 => lt ((31 * v_1) + r_1) fun v_2 => f_X9_digest_41 M (f_X9_digest_6 M n) FU v_2 v3 0)
set_option maxRecDepth 100000 in
set_option maxHeartbeats 4000000 in
theorem w_X9_digest_6 (X : Cx p s m args meth c cX9_digest RX9 5 (some .long) G cy) {M : Mem} {out : Int64} : ∀ n : Nat, ∀ (H : Heap) (locs : List Loc) (ls : Array Slot) (v1 : Int64) (v3 : Int32), Pic G B cy nT M H → va_S (FB B) s.heap H locs → lv_has ls 5 [(0, .ref (B + 119)), (1, .long v1), (3, .int v3)] → f_X9_digest_6 M n v1 v3 = some out → W p l e rmX9_digest s m args below meth c H locs 0 0 (MQ below (Ql G B cy nT out M) args s 0 0 (FB B)) (F0 m 6 ls []) := by
  obtain ⟨hx, hb, hr, hml, hown, hts, hKn, hlk⟩ := id X
  intro n
  induction n with
  | zero =>
    intro H locs ls v1 v3 hP hS hl h
    cases h
  | succ n ih =>
    intro H locs ls v1 v3 hP hS hl h
    rw [f_X9_digest_6] at h
    refine lv_iload_n hx hb dX9_digest_6 rfl (lv_at hl 2 rfl) ?_
    refine lv_bipush (v := 40) hx hb dX9_digest_7 (by decide) ?_
    refine lv_icmp_ge (tgt := 74) hx hb dX9_digest_9 (by decide) (fun hc => ?_) (fun hc => ?_)
    · replace h := if_elp h hc
      refine lv_iconst (v := 0) hx hb dX9_digest_74 (by decide) ?_
      refine lv_istore_n (lv' := [(3, .int 0), (0, .ref (B + 119)), (1, .long v1)]) hx hb dX9_digest_75 rfl hl (by decide) rfl (fun ls hl => ?_)
      exact w_X9_digest_76 X FU _ _ _ _ _ hP hS (lv_sub hl [1, 2, 0] rfl) h
    · replace h := if_eln h hc
      refine lv_ldc2 (v := 31) hx hb hown (hts _ k_869) dX9_digest_12 ?_
      refine lv_lload_n hx hb dX9_digest_15 rfl (lv_at hl 1 rfl) ?_
      refine lv_lmul hx hb dX9_digest_16 ?_
      refine lv_aload_n hx hb dX9_digest_17 rfl (lv_at hl 0 rfl) ?_
      refine gf_X9_7 X hP dX9_digest_18 ?_
      refine lv_iload_n hx hb dX9_digest_21 rfl (lv_at hl 2 rfl) ?_
      obtain ⟨g_1, h⟩ := gd_el h
      refine r_iald X hP kq_120 g_1 dX9_digest_22 ?_
      refine lv_i2l (v := (Int32.toInt64 (gI M 120 v3.toNatClampNeg))) hx hb dX9_digest_23 rfl ?_
      refine lv_ladd hx hb dX9_digest_24 ?_
      obtain ⟨v_1, e_1, h⟩ := lt_el h
      refine r_topl e_1 ?_
      refine lv_lstore_n (lv' := [(1, .long v_1), (0, .ref (B + 119)), (3, .int v3)]) hx hb dX9_digest_25 rfl hl (by decide) rfl (fun ls hl => ?_)
      refine lv_ldc2 (v := 31) hx hb hown (hts _ k_869) dX9_digest_26 ?_
      refine lv_lload_n hx hb dX9_digest_29 rfl (lv_at hl 0 rfl) ?_
      refine lv_lmul hx hb dX9_digest_30 ?_
      refine lv_aload_n hx hb dX9_digest_31 rfl (lv_at hl 1 rfl) ?_
      refine lv_iload_n hx hb dX9_digest_32 rfl (lv_at hl 2 rfl) ?_
      obtain ⟨r_1, h_1, h⟩ := bd_el h
      refine cl_l (rn_V (C := RX9) (ci := 9) X hP (c_X9_value h_1) kq_119 rfl k_870 k_667 k_668 k_9 k_669 rfl hd_X9_value (n := 1) ⟨⟨rfl, rfl⟩, Nat.le_of_ble_eq_true rfl, Nat.le_of_ble_eq_true rfl⟩ (As := [.int v3]) (rest := [.long (31 * v_1)]) rfl hl.1 rfl (Nat.le_of_ble_eq_true rfl) dX9_digest_33 ⟨Nat.zero_le _, Nat.zero_le _⟩) hS (fun H locs hP hS => ?_)
      refine lv_ladd hx hb dX9_digest_36 ?_
      obtain ⟨v_2, e_2, h⟩ := lt_el h
      refine r_topl e_2 ?_
      refine lv_lstore_n (lv' := [(1, .long v_2), (0, .ref (B + 119)), (3, .int v3)]) hx hb dX9_digest_37 rfl hl (by decide) rfl (fun ls hl => ?_)
      refine lv_iconst (v := 0) hx hb dX9_digest_38 (by decide) ?_
      refine lv_istore (lv' := [(4, .int 0), (1, .long v_2), (0, .ref (B + 119)), (3, .int v3)]) hx hb dX9_digest_39 hl (by decide) rfl (fun ls hl => ?_)
      exact w_X9_digest_41 X ih FU _ _ _ _ _ _ hP hS (lv_sub hl [2, 1, 3, 0] rfl) h
def f_X9_digest (M : Mem) : Option (Int64) :=
  f_X9_digest_6 M FU 17 0
set_option maxRecDepth 100000 in
set_option maxHeartbeats 4000000 in
theorem c_X9_digest {l : Launch} {G : va_G} {cy : Nat → ClassId} {B nT : Nat} {M : Mem} {out : Int64} (h : f_X9_digest M = some out) : Met l yX9_digest (wsU yX9_digest cX9_digest 5 (some .long)) rmX9_digest (va_Pc [.ref (B + 119)] (PU G B cy nT M)) (Ql G B cy nT out M) 0 0 (FB B) := by
  refine r_met (by decide +kernel) RX9 rfl (Nat.le_of_ble_eq_true rfl) ?_
  intro p e s m args below meth c ls X hP hl
  have hl : lv_has ls 5 [(0, .ref (B + 119))] := hl
  have hS : va_S (FB B) s.heap s.heap [] := va_S.rf
  obtain ⟨hx, hb, hr, hml, hown, hts, hKn, hlk⟩ := id X
  unfold f_X9_digest at h
  refine lv_ldc2 (v := 17) hx hb hown (hts _ k_868) dX9_digest_0 ?_
  refine lv_lstore_n (lv' := [(1, .long 17), (0, .ref (B + 119))]) hx hb dX9_digest_3 rfl hl (by decide) rfl (fun ls hl => ?_)
  refine lv_iconst (v := 0) hx hb dX9_digest_4 (by decide) ?_
  refine lv_istore_n (lv' := [(3, .int 0), (1, .long 17), (0, .ref (B + 119))]) hx hb dX9_digest_5 rfl hl (by decide) rfl (fun ls hl => ?_)
  exact w_X9_digest_6 X FU _ _ _ _ _ hP hS (lv_sub hl [2, 1, 0] rfl) h
end METHS
